/-! part 62: keys found by their number, and tried one by one -/
theorem pw_le {m j : Nat} (hm : m ≤ 6) (hj : j ≤ 6) : m ^ j ≤ 46656 :=
  Nat.le_trans (Nat.pow_le_pow_left hm j) (Nat.le_trans (Nat.pow_le_pow_right (by decide) hj) (by decide))
theorem oN_q {m : Nat} (h : 1 ≤ m) : Int32.ofNat m - 1 = Int32.ofNat (m - 1) := by
  obtain ⟨k, rfl⟩ : ∃ k, m = k + 1 := ⟨m - 1, by omega⟩
  exact oN_p k
theorem oN_sub {a b : Nat} (h : b ≤ a) : Int32.ofNat a - Int32.ofNat b = Int32.ofNat (a - b) := by
  have := Int32.ofNat_add (a - b) b
  rw [Nat.sub_add_cancel h] at this
  rw [this, Int32.add_sub_cancel]
theorem isCuts_0 {f : Nat → Nat} : isCuts 0 f 0 := fun c e _ => by
  rw [lb_0, decide_eq_false (fun q => absurd q.1 (Nat.not_lt_zero c))]
theorem isCuts_up {y : Int64} {m i p d : Nat} (hi : i < 6) (hd : d < m) (hm : m ≤ 6) (h : isCuts y (dg m i p) i) : isCuts (y ||| bitL (Int32.ofNat i) (Int32.ofNat d)) (dg m (i + 1) (p * m + d)) (i + 1) := fun c e he => by
  rw [lb_or, h c e he, lb_bit (by omega) (by omega)]
  rcases Nat.lt_trichotomy c i with g | g | g
  · rw [dg_s hd g, decide_eq_false (show ¬ 8 * c + e = 8 * i + d by omega), Bool.or_false]
    by_cases q : dg m i p c = e
    · rw [decide_eq_true ⟨g, q⟩, decide_eq_true ⟨by omega, q⟩]
    · rw [decide_eq_false (fun z => q z.2), decide_eq_false (fun z => q z.2)]
  · subst g
    rw [dg_e hd, decide_eq_false (fun q => absurd q.1 (Nat.lt_irrefl c)), Bool.false_or]
    by_cases q : d = e
    · rw [decide_eq_true (show 8 * c + e = 8 * c + d by omega), decide_eq_true ⟨by omega, q⟩]
    · rw [decide_eq_false (show ¬ 8 * c + e = 8 * c + d by omega), decide_eq_false (fun z => q z.2)]
  · rw [decide_eq_false (fun q => absurd q.1 (by omega)), decide_eq_false (show ¬ 8 * c + e = 8 * i + d by omega), decide_eq_false (fun q => absurd q.1 (by omega))]; rfl
theorem num_lt {m p d i : Nat} (hp : p < m ^ i) (hd : d < m) : p * m + d < m ^ (i + 1) := by
  have h1 : (p + 1) * m ≤ m ^ i * m := Nat.mul_le_mul_right m hp
  rw [Nat.succ_mul] at h1
  rw [Nat.pow_succ]
  omega
theorem le_nl {a b : Int32} : a ≤ b ↔ ¬ b < a := by
  rw [Int32.le_iff_toInt_le, Int32.lt_iff_toInt_lt]
  omega
/-- the key of a number among those that were counted last -/
theorem sem_125 {I : Nat → Nat → Int32} {x : Int64} {m nc num : Nat} (em : I 1 2 = Int32.ofNat m) (ec : I 1 1 = Int32.ofNat nc) (b2 : 2 ≤ m) (bm : m ≤ 6) (bc : nc ≤ 6) (hw : wayC x (I 1 3) m nc 0 I) :
    ∀ n, (∀ i j p l y x6 r, i + j = nc → p < m ^ i → isCuts y (dg m i p) i → okP (lP x) (lA (I 1 3)) m i p → cK (okA (lP x) (lA (I 1 3)) m nc) 0 (p * m ^ j) + l = num → l < cK (okA (lP x) (lA (I 1 3)) m nc) (p * m ^ j) (m ^ j) → F_125 I n 8 y (Int32.ofNat l) (Int32.ofNat i) x6 = some r → ∃ N, N < m ^ nc ∧ okA (lP x) (lA (I 1 3)) m nc N ∧ cK (okA (lP x) (lA (I 1 3)) m nc) 0 N = num ∧ isCuts r (dg m nc N) nc) ∧
      (∀ i j p l d y r, i + j + 1 = nc → d < m → p < m ^ i → isCuts y (dg m i p) i → okP (lP x) (lA (I 1 3)) m i p → cK (okA (lP x) (lA (I 1 3)) m nc) 0 ((p * m + d) * m ^ j) + l = num → l < cK (okA (lP x) (lA (I 1 3)) m nc) ((p * m + d) * m ^ j) ((m - d) * m ^ j) → F_125 I n 20 y (Int32.ofNat l) (Int32.ofNat i) (Int32.ofNat d) = some r → ∃ N, N < m ^ nc ∧ okA (lP x) (lA (I 1 3)) m nc N ∧ cK (okA (lP x) (lA (I 1 3)) m nc) 0 N = num ∧ isCuts r (dg m nc N) nc)
  | 0 => ⟨fun _ _ _ _ _ _ _ _ _ _ _ _ _ h => (by cases h), fun _ _ _ _ _ _ _ _ _ _ _ _ _ _ h => (by cases h)⟩
  | n + 1 => by
    obtain ⟨ih1, ih2⟩ := sem_125 em ec b2 bm bc hw (num := num) n
    refine ⟨?_, ?_⟩
    · intro i j p l y x6 r hij hp hy hok hs hl h
      simp only [F_125, reduceIte] at h
      rw [ec] at h
      by_cases g : Int32.ofNat nc ≤ Int32.ofNat i
      · rw [if_pos g] at h
        cases h
        have := (oN_le (by omega) (by omega)).mp g
        have e : i = nc := by omega
        subst e
        have ej : j = 0 := by omega
        subst ej
        rw [Nat.pow_zero, Nat.mul_one] at hs hl
        rw [cK_1] at hl
        by_cases ha : okA (lP x) (lA (I 1 3)) m i p
        · rw [pB_t ha, bn_t] at hl
          exact ⟨p, hp, ha, by omega, hy⟩
        · rw [pB_f ha, bn_f] at hl
          exact absurd hl (Nat.not_lt_zero l)
      · rw [if_neg g] at h
        have := mt (oN_le (by omega) (by omega)).mpr g
        obtain ⟨j', rfl⟩ : ∃ j', j = j' + 1 := ⟨j - 1, by omega⟩
        have e0 := blk_s (m := m) (j := j') (p := p) 0
        rw [Nat.zero_mul, Nat.add_zero] at e0
        rw [e0] at hs hl
        refine ih2 i j' p l 0 y r (by omega) (by omega) hp hy hok hs ?_ h
        rw [Nat.sub_zero, show m * m ^ j' = m ^ (j' + 1) by rw [Nat.pow_succ, Nat.mul_comm]]
        exact hl
    · intro i j p l d y r hij hd hp hy hok hs hl h
      have hm : 0 < m := by omega
      have hB := cnt_blk (P := lP x) (adj := lA (I 1 3)) hm hd hij hok
      have pj : m ^ j ≤ 46656 := pw_le bm (by omega)
      have pj1 : m ^ (j + 1) ≤ 46656 := pw_le bm (by omega)
      have Bl : cK (okA (lP x) (lA (I 1 3)) m nc) ((p * m + d) * m ^ j) (m ^ j) ≤ m ^ j := cK_le
      have ll : l < 46656 := by
        have h1 : cK (okA (lP x) (lA (I 1 3)) m nc) ((p * m + d) * m ^ j) ((m - d) * m ^ j) ≤ (m - d) * m ^ j := cK_le
        have h2 : (m - d) * m ^ j ≤ m * m ^ j := Nat.mul_le_mul_right _ (by omega)
        rw [show m * m ^ j = m ^ (j + 1) by rw [Nat.pow_succ, Nat.mul_comm]] at h2
        omega
      have take : l < cK (okA (lP x) (lA (I 1 3)) m nc) ((p * m + d) * m ^ j) (m ^ j) → F_125 I n 8 (y ||| bitL (Int32.ofNat i) (Int32.ofNat d)) (Int32.ofNat l) (Int32.ofNat i + 1) (Int32.ofNat d) = some r → ∃ N, N < m ^ nc ∧ okA (lP x) (lA (I 1 3)) m nc N ∧ cK (okA (lP x) (lA (I 1 3)) m nc) 0 N = num ∧ isCuts r (dg m nc N) nc := fun hl h => by
        rw [oN_s] at h
        have hq : (lP x i d && (decide (i = 0) || lA (I 1 3) d (p % m))) = true := by
          cases q : (lP x i d && (decide (i = 0) || lA (I 1 3) d (p % m))) with
          | true => rfl
          | false =>
            rw [hB, q, bn_f, Nat.zero_mul] at hl
            exact absurd hl (Nat.not_lt_zero l)
        rw [Bool.and_eq_true, Bool.or_eq_true, decide_eq_true_eq] at hq
        exact ih1 (i + 1) j (p * m + d) l _ _ r (by omega) (num_lt hp hd) (isCuts_up (by omega) hd bm hy) (okP_s hd hok hq.1 hq.2) hs hl h
      have skip : ¬ l < cK (okA (lP x) (lA (I 1 3)) m nc) ((p * m + d) * m ^ j) (m ^ j) → d + 1 < m → F_125 I n 20 y (Int32.ofNat l - Int32.ofNat (cK (okA (lP x) (lA (I 1 3)) m nc) ((p * m + d) * m ^ j) (m ^ j))) (Int32.ofNat i) (Int32.ofNat d + 1) = some r → ∃ N, N < m ^ nc ∧ okA (lP x) (lA (I 1 3)) m nc N ∧ cK (okA (lP x) (lA (I 1 3)) m nc) 0 N = num ∧ isCuts r (dg m nc N) nc := fun hl2 hd2 h => by
        rw [oN_s, oN_sub (by omega)] at h
        have e1 : (p * m + (d + 1)) * m ^ j = (p * m + d) * m ^ j + m ^ j := by rw [← Nat.add_assoc, Nat.succ_mul]
        have e2 : (m - d) * m ^ j = m ^ j + (m - (d + 1)) * m ^ j := by
          rw [show m - d = (m - (d + 1)) + 1 by omega, Nat.succ_mul, Nat.add_comm]
        rw [e2, cK_app] at hl
        refine ih2 i j p _ (d + 1) y r hij hd2 hp hy hok ?_ ?_ h
        · rw [e1, cK_app, Nat.zero_add]
          omega
        · rw [e1]
          omega
      simp only [F_125, Nat.reduceEqDiff, reduceIte] at h
      rw [em, oN_q (by omega)] at h
      by_cases g : Int32.ofNat (m - 1) ≤ Int32.ofNat d
      · rw [if_pos g] at h
        have := (oN_le (by omega) (by omega)).mp g
        refine take ?_ h
        rw [show m - d = 1 by omega, Nat.one_mul] at hl
        exact hl
      · rw [if_neg g] at h
        have gd := mt (oN_le (by omega) (by omega)).mpr g
        have hwy := hw i d (Nat.zero_le _) (by omega) hd
        rw [show nc - 1 - i = j by omega, wU_N, bj_bn, ← Int32.ofNat_mul] at hwy
        have near : (i = 0 ∨ lA (I 1 3) d (p % m) = true) → I (3 + (Int32.ofNat i).toNatClampNeg) (Int32.ofNat d).toNatClampNeg = Int32.ofNat (cK (okA (lP x) (lA (I 1 3)) m nc) ((p * m + d) * m ^ j) (m ^ j)) := fun q => by
          rw [ofN_clamp (by omega), ofN_clamp (by omega), hwy, hB]
          have : (decide (i = 0) || lA (I 1 3) d (p % m)) = true := by rw [Bool.or_eq_true, decide_eq_true_eq]; exact q
          rw [this, Bool.and_true]
        have go : ∀ w, w = Int32.ofNat (cK (okA (lP x) (lA (I 1 3)) m nc) ((p * m + d) * m ^ j) (m ^ j)) → (if Int32.ofNat l < w then F_125 I n 8 (y ||| bitL (Int32.ofNat i) (Int32.ofNat d)) (Int32.ofNat l) (Int32.ofNat i + 1) (Int32.ofNat d) else F_125 I n 20 y (Int32.ofNat l - w) (Int32.ofNat i) (Int32.ofNat d + 1)) = some r → ∃ N, N < m ^ nc ∧ okA (lP x) (lA (I 1 3)) m nc N ∧ cK (okA (lP x) (lA (I 1 3)) m nc) 0 N = num ∧ isCuts r (dg m nc N) nc := fun w e h => by
          rw [e] at h
          by_cases q : Int32.ofNat l < Int32.ofNat (cK (okA (lP x) (lA (I 1 3)) m nc) ((p * m + d) * m ^ j) (m ^ j))
          · rw [if_pos q] at h
            exact take ((oN_lt (by omega) (by omega)).mp q) h
          · rw [if_neg q] at h
            exact skip (mt (oN_lt (by omega) (by omega)).mpr q) (by omega) h
        by_cases g1 : Int32.ofNat i ≤ 0
        · rw [if_pos g1] at h
          have : i = 0 := by
            have := (oN_le (a := i) (b := 0) (by omega) (by decide)).mp g1
            omega
          exact go _ (near (.inl this)) h
        · rw [if_neg g1] at h
          have i0 : 0 < i := by
            have := mt (oN_le (a := i) (b := 0) (by omega) (by decide)).mpr g1
            omega
          have ed : dpL y (Int32.ofNat i - 1) = Int32.ofNat (p % m) := by
            rw [oN_q (by omega), isCuts_dp hy (by omega) (by omega) (Nat.lt_of_lt_of_le (dg_lt hm) (by omega)), dg_l i0]
          rw [ed] at h
          by_cases g2 : (if 0 ≤ Int32.ofNat d - Int32.ofNat (p % m) then Int32.ofNat d - Int32.ofNat (p % m) else 0 - (Int32.ofNat d - Int32.ofNat (p % m))) ≤ I 1 3
          · rw [if_pos g2] at h
            exact go _ (near (.inr (decide_eq_true (le_nl.mp g2)))) h
          · rw [if_neg g2] at h
            have hz : cK (okA (lP x) (lA (I 1 3)) m nc) ((p * m + d) * m ^ j) (m ^ j) = 0 := by
              rw [hB, show lA (I 1 3) d (p % m) = false from decide_eq_false (fun z => g2 (le_nl.mpr z)), decide_eq_false (show ¬ i = 0 by omega), Bool.or_false, Bool.and_false, bn_f, Nat.zero_mul]
            exact go 0 (by rw [hz]; rfl) h
theorem qg_41 {h : sH} {r : sR} {Q : sR → Prop} {a0 : Int32} {a1 : Int32} {a2 : Int64} {a3 : Int64} {I : Nat → Nat → Int32} {L : Nat → Nat → Int64} {R : Nat → Nat} (th : qH h I L R) (g : qGo 41 [.ref (1), .int (a0), .int (a1), .long (a2), .long (a3)] h r)
    (p1 : ∀ (c1 : a0 < (I 1 1)), ∀ N lv, qLs lv [some (.ref (1)), some (.int (a0)), some (.int (a1)), some (.long (a2)), none, some (.long (a3)), none, some (.int ((0 : Int32))), some (.int ((0 : Int32)))] → qW 41 N 29 lv [] h Q)
    (p2 : ∀ (c1 : ¬ a0 < (I 1 1)), ∀ (c6 : ¬ (letIn a2 a3)), Q (.inl (some (.int ((0 : Int32)))), h))
    (p3 : ∀ (c1 : ¬ a0 < (I 1 1)), ∀ (c6 : letIn a2 a3), Q (.inl (some (.int ((1 : Int32)))), h)) : Q r := by
  refine qGo_w g (fun N => ?_)
  have hl0 : qLs (lv_args 0 [.ref (1), .int (a0), .int (a1), .long (a2), .long (a3)]) [some (.ref (1)), some (.int (a0)), some (.int (a1)), some (.long (a2)), none, some (.long (a3)), none, none, none] := qLs_ar 2
  refine q_iload_n (show mE (mtv 41) 0 = some (.iload_n 1, 1, 0, 0) from rfl) (hl0 1 _ rfl) ?_
  refine q_aload_n (show mE (mtv 41) 1 = some (.aload_n 0, 1, 0, 0) from rfl) (hl0 0 _ rfl) ?_
  refine q_getI th (show mE (mtv 41) 2 = some (.getfield 16, 3, 4, 1) from rfl) (by decide) rfl ?_
  refine q_ic_lt (t := 23) (show mE (mtv 41) 5 = some (.if_icmp .lt 18, 3, 0, 0) from rfl) rfl (fun c1 => ?_) (fun c1 => ?_)
  · refine q_iconst (show mE (mtv 41) 23 = some (.iconst 0, 1, 0, 0) from rfl) kI_0 ?_
    refine q_istore (show mE (mtv 41) 24 = some (.istore 7, 2, 0, 0) from rfl) (Nat.le_of_ble_eq_true rfl) hl0 (fun lv2 (hl3 : qLs lv2 [some (.ref (1)), some (.int (a0)), some (.int (a1)), some (.long (a2)), none, some (.long (a3)), none, some (.int ((0 : Int32))), none]) => ?_)
    refine q_iconst (show mE (mtv 41) 26 = some (.iconst 0, 1, 0, 0) from rfl) kI_0 ?_
    refine q_istore (show mE (mtv 41) 27 = some (.istore 8, 2, 0, 0) from rfl) (Nat.le_of_ble_eq_true rfl) hl3 (fun lv4 (hl5 : qLs lv4 [some (.ref (1)), some (.int (a0)), some (.int (a1)), some (.long (a2)), none, some (.long (a3)), none, some (.int ((0 : Int32))), some (.int ((0 : Int32)))]) => ?_)
    exact p1 c1 _ lv4 (qLs_wk hl5 (⟨rfl, rfl, rfl, rfl, rfl, rfl, rfl, trivial⟩))
  · refine q_lload_n (show mE (mtv 41) 8 = some (.lload_n 3, 1, 0, 0) from rfl) (hl0 3 _ rfl) ?_
    refine q_lload (show mE (mtv 41) 9 = some (.lload 5, 2, 0, 0) from rfl) (hl0 5 _ rfl) ?_
    refine q_staticP (show mE (mtv 41) 11 = some (.invokestatic 63, 3, 19, 0) from rfl) (by decide) rfl rfl rfl (fun _ g => sp_19 g) ?_
    refine q_ifb_eq (t := 21) (show mE (mtv 41) 14 = some (.ifCond .eq 7, 3, 0, 0) from rfl) rfl (fun c6 => ?_) (fun c6 => ?_)
    · refine q_iconst (show mE (mtv 41) 21 = some (.iconst 0, 1, 0, 0) from rfl) kI_0 ?_
      refine q_ireturn (show mE (mtv 41) 22 = some (.ireturn, 1, 0, 0) from rfl) ?_
      exact p2 c1 c6
    · refine q_iconst (show mE (mtv 41) 17 = some (.iconst 1, 1, 0, 0) from rfl) kI_1 ?_
      refine q_goto (t := 22) (show mE (mtv 41) 18 = some (.goto 4, 3, 0, 0) from rfl) rfl ?_
      refine q_ireturn (show mE (mtv 41) 22 = some (.ireturn, 1, 0, 0) from rfl) ?_
      exact p3 c1 c6
theorem qg_41_29 {N : Nat} {lv : sL} {h : sH} {Q : sR → Prop} {x1 : Int32} {x2 : Int32} {x3 : Int64} {x5 : Int64} {x7 : Int32} {x8 : Int32} {I : Nat → Nat → Int32} {L : Nat → Nat → Int64} {R : Nat → Nat} (th : qH h I L R) {PP : Int32 → Int64 → Int32 → Prop} (ih : ∀ {b : Int32} {y : Int64} {r : sR}, qGo 41 [.ref (1), .int (x1 + (1 : Int32)), .int b, .long y, .long x5] h r → ∃ v, r = (.inl (some (.int v)), h) ∧ PP b y v) (hl : qLs lv [some (.ref (1)), some (.int (x1)), some (.int (x2)), some (.long (x3)), none, some (.long (x5)), none, some (.int (x7)), some (.int (x8))])
    (p1 : ∀ (c1 : (I 1 2) ≤ x8), Q (.inl (some (.int (x7))), h))
    (p2 : ∀ (c1 : ¬ (I 1 2) ≤ x8), ∀ (c2 : x1 = 0), ∀ (v3 : Int32), ∀ (e4 : PP x8 (x3 ||| (bitL x1 x8)) v3), ∀ lv, qLs lv [some (.ref (1)), some (.int (x1)), some (.int (x2)), some (.long (x3)), none, some (.long (x5)), none, some (.int (x7 + v3)), some (.int (x8 + (1 : Int32)))] → qW 41 N 29 lv [] h Q)
    (p3 : ∀ (c1 : ¬ (I 1 2) ≤ x8), ∀ (c2 : ¬ x1 = 0), ∀ (c9 : (I 1 3) < (if 0 ≤ x8 - x2 then x8 - x2 else 0 - (x8 - x2))), ∀ lv, qLs lv [some (.ref (1)), some (.int (x1)), some (.int (x2)), some (.long (x3)), none, some (.long (x5)), none, some (.int (x7)), some (.int (x8 + (1 : Int32)))] → qW 41 N 29 lv [] h Q)
    (p4 : ∀ (c1 : ¬ (I 1 2) ≤ x8), ∀ (c2 : ¬ x1 = 0), ∀ (c9 : ¬ (I 1 3) < (if 0 ≤ x8 - x2 then x8 - x2 else 0 - (x8 - x2))), ∀ (v12 : Int32), ∀ (e13 : PP x8 (x3 ||| (bitL x1 x8)) v12), ∀ lv, qLs lv [some (.ref (1)), some (.int (x1)), some (.int (x2)), some (.long (x3)), none, some (.long (x5)), none, some (.int (x7 + v12)), some (.int (x8 + (1 : Int32)))] → qW 41 N 29 lv [] h Q) : qW 41 (N + 1) 29 lv [] h Q := by
  refine q1_iload (show mE (mtv 41) 29 = some (.iload 8, 2, 0, 0) from rfl) (hl 8 _ rfl) ?_
  refine q_aload_n (show mE (mtv 41) 31 = some (.aload_n 0, 1, 0, 0) from rfl) (hl 0 _ rfl) ?_
  refine q_getI th (show mE (mtv 41) 32 = some (.getfield 20, 3, 4, 2) from rfl) (by decide) rfl ?_
  refine q_ic_ge (t := 86) (show mE (mtv 41) 35 = some (.if_icmp .ge 51, 3, 0, 0) from rfl) rfl (fun c1 => ?_) (fun c1 => ?_)
  · refine q_iload (show mE (mtv 41) 86 = some (.iload 7, 2, 0, 0) from rfl) (hl 7 _ rfl) ?_
    refine q_ireturn (show mE (mtv 41) 88 = some (.ireturn, 1, 0, 0) from rfl) ?_
    exact p1 c1
  · refine q_iload_n (show mE (mtv 41) 38 = some (.iload_n 1, 1, 0, 0) from rfl) (hl 1 _ rfl) ?_
    refine q_if_eq (t := 56) (show mE (mtv 41) 39 = some (.ifCond .eq 17, 3, 0, 0) from rfl) rfl (fun c2 => ?_) (fun c2 => ?_)
    · refine q_iload (show mE (mtv 41) 56 = some (.iload 7, 2, 0, 0) from rfl) (hl 7 _ rfl) ?_
      refine q_aload_n (show mE (mtv 41) 58 = some (.aload_n 0, 1, 0, 0) from rfl) (hl 0 _ rfl) ?_
      refine q_iload_n (show mE (mtv 41) 59 = some (.iload_n 1, 1, 0, 0) from rfl) (hl 1 _ rfl) ?_
      refine q_iconst (show mE (mtv 41) 60 = some (.iconst 1, 1, 0, 0) from rfl) kI_1 ?_
      refine q_iadd (show mE (mtv 41) 61 = some (.iadd, 1, 0, 0) from rfl) ?_
      refine q_iload (show mE (mtv 41) 62 = some (.iload 8, 2, 0, 0) from rfl) (hl 8 _ rfl) ?_
      refine q_lload_n (show mE (mtv 41) 64 = some (.lload_n 3, 1, 0, 0) from rfl) (hl 3 _ rfl) ?_
      refine q_iload_n (show mE (mtv 41) 65 = some (.iload_n 1, 1, 0, 0) from rfl) (hl 1 _ rfl) ?_
      refine q_iload (show mE (mtv 41) 66 = some (.iload 8, 2, 0, 0) from rfl) (hl 8 _ rfl) ?_
      refine q_staticP (show mE (mtv 41) 68 = some (.invokestatic 47, 3, 35, 0) from rfl) (by decide) rfl rfl rfl (fun _ g => sp_35 g) ?_
      refine q_lor (show mE (mtv 41) 71 = some (.lor, 1, 0, 0) from rfl) ?_
      refine q_lload (show mE (mtv 41) 72 = some (.lload 5, 2, 0, 0) from rfl) (hl 5 _ rfl) ?_
      refine q_virtualE (show mE (mtv 41) 74 = some (.invokevirtual 59, 3, 41, 4) from rfl) (by decide) rfl rfl rfl (fun _ g => ih g) ?_
      rintro _ ⟨v3, rfl, e4⟩
      refine qK_v ?_
      refine q_iadd (show mE (mtv 41) 77 = some (.iadd, 1, 0, 0) from rfl) ?_
      refine q_istore (show mE (mtv 41) 78 = some (.istore 7, 2, 0, 0) from rfl) (Nat.le_of_ble_eq_true rfl) hl (fun lv5 (hl6 : qLs lv5 [some (.ref (1)), some (.int (x1)), some (.int (x2)), some (.long (x3)), none, some (.long (x5)), none, some (.int (x7 + v3)), some (.int (x8))]) => ?_)
      refine q_iinc (show mE (mtv 41) 80 = some (.iinc 8 1, 3, 0, 0) from rfl) (Nat.le_of_ble_eq_true rfl) hl6 (hl6 8 _ rfl) kI_1 (fun lv7 (hl8 : qLs lv7 [some (.ref (1)), some (.int (x1)), some (.int (x2)), some (.long (x3)), none, some (.long (x5)), none, some (.int (x7 + v3)), some (.int (x8 + (1 : Int32)))]) => ?_)
      refine q_goto (t := 29) (show mE (mtv 41) 83 = some (.goto (-54), 3, 0, 0) from rfl) rfl ?_
      exact p2 c1 c2 v3 e4 lv7 (qLs_wk hl8 (⟨rfl, rfl, rfl, rfl, rfl, rfl, rfl, trivial⟩))
    · refine q_iload (show mE (mtv 41) 42 = some (.iload 8, 2, 0, 0) from rfl) (hl 8 _ rfl) ?_
      refine q_iload_n (show mE (mtv 41) 44 = some (.iload_n 2, 1, 0, 0) from rfl) (hl 2 _ rfl) ?_
      refine q_isub (show mE (mtv 41) 45 = some (.isub, 1, 0, 0) from rfl) ?_
      refine q_abs (show mE (mtv 41) 46 = some (.invokestatic 41, 3, 1001, 0) from rfl) ?_
      refine q_aload_n (show mE (mtv 41) 49 = some (.aload_n 0, 1, 0, 0) from rfl) (hl 0 _ rfl) ?_
      refine q_getI th (show mE (mtv 41) 50 = some (.getfield 23, 3, 4, 3) from rfl) (by decide) rfl ?_
      refine q_ic_gt (t := 80) (show mE (mtv 41) 53 = some (.if_icmp .gt 27, 3, 0, 0) from rfl) rfl (fun c9 => ?_) (fun c9 => ?_)
      · refine q_iinc (show mE (mtv 41) 80 = some (.iinc 8 1, 3, 0, 0) from rfl) (Nat.le_of_ble_eq_true rfl) hl (hl 8 _ rfl) kI_1 (fun lv10 (hl11 : qLs lv10 [some (.ref (1)), some (.int (x1)), some (.int (x2)), some (.long (x3)), none, some (.long (x5)), none, some (.int (x7)), some (.int (x8 + (1 : Int32)))]) => ?_)
        refine q_goto (t := 29) (show mE (mtv 41) 83 = some (.goto (-54), 3, 0, 0) from rfl) rfl ?_
        exact p3 c1 c2 c9 lv10 (qLs_wk hl11 (⟨rfl, rfl, rfl, rfl, rfl, rfl, rfl, trivial⟩))
      · refine q_iload (show mE (mtv 41) 56 = some (.iload 7, 2, 0, 0) from rfl) (hl 7 _ rfl) ?_
        refine q_aload_n (show mE (mtv 41) 58 = some (.aload_n 0, 1, 0, 0) from rfl) (hl 0 _ rfl) ?_
        refine q_iload_n (show mE (mtv 41) 59 = some (.iload_n 1, 1, 0, 0) from rfl) (hl 1 _ rfl) ?_
        refine q_iconst (show mE (mtv 41) 60 = some (.iconst 1, 1, 0, 0) from rfl) kI_1 ?_
        refine q_iadd (show mE (mtv 41) 61 = some (.iadd, 1, 0, 0) from rfl) ?_
        refine q_iload (show mE (mtv 41) 62 = some (.iload 8, 2, 0, 0) from rfl) (hl 8 _ rfl) ?_
        refine q_lload_n (show mE (mtv 41) 64 = some (.lload_n 3, 1, 0, 0) from rfl) (hl 3 _ rfl) ?_
        refine q_iload_n (show mE (mtv 41) 65 = some (.iload_n 1, 1, 0, 0) from rfl) (hl 1 _ rfl) ?_
        refine q_iload (show mE (mtv 41) 66 = some (.iload 8, 2, 0, 0) from rfl) (hl 8 _ rfl) ?_
        refine q_staticP (show mE (mtv 41) 68 = some (.invokestatic 47, 3, 35, 0) from rfl) (by decide) rfl rfl rfl (fun _ g => sp_35 g) ?_
        refine q_lor (show mE (mtv 41) 71 = some (.lor, 1, 0, 0) from rfl) ?_
        refine q_lload (show mE (mtv 41) 72 = some (.lload 5, 2, 0, 0) from rfl) (hl 5 _ rfl) ?_
        refine q_virtualE (show mE (mtv 41) 74 = some (.invokevirtual 59, 3, 41, 4) from rfl) (by decide) rfl rfl rfl (fun _ g => ih g) ?_
        rintro _ ⟨v12, rfl, e13⟩
        refine qK_v ?_
        refine q_iadd (show mE (mtv 41) 77 = some (.iadd, 1, 0, 0) from rfl) ?_
        refine q_istore (show mE (mtv 41) 78 = some (.istore 7, 2, 0, 0) from rfl) (Nat.le_of_ble_eq_true rfl) hl (fun lv14 (hl15 : qLs lv14 [some (.ref (1)), some (.int (x1)), some (.int (x2)), some (.long (x3)), none, some (.long (x5)), none, some (.int (x7 + v12)), some (.int (x8))]) => ?_)
        refine q_iinc (show mE (mtv 41) 80 = some (.iinc 8 1, 3, 0, 0) from rfl) (Nat.le_of_ble_eq_true rfl) hl15 (hl15 8 _ rfl) kI_1 (fun lv16 (hl17 : qLs lv16 [some (.ref (1)), some (.int (x1)), some (.int (x2)), some (.long (x3)), none, some (.long (x5)), none, some (.int (x7 + v12)), some (.int (x8 + (1 : Int32)))]) => ?_)
        refine q_goto (t := 29) (show mE (mtv 41) 83 = some (.goto (-54), 3, 0, 0) from rfl) rfl ?_
        exact p4 c1 c2 c9 v12 e13 lv16 (qLs_wk hl17 (⟨rfl, rfl, rfl, rfl, rfl, rfl, rfl, trivial⟩))
/-- from a chamber on, the depths may be side by side -/
def nearF (lim : Int32) (m nc c N : Nat) : Prop := ∀ i, c ≤ i → 0 < i → i < nc → lA lim (dg m nc N i) (dg m nc N (i - 1)) = true
theorem nearF_blk {lim : Int32} {m nc j c p e N : Nat} (hm : 0 < m) (he : e < m) (hn : c + j + 1 = nc) (h1 : (p * m + e) * m ^ j ≤ N) (h2 : N < (p * m + e) * m ^ j + m ^ j) : nearF lim m nc c N ↔ (c = 0 ∨ lA lim e (p % m) = true) ∧ nearF lim m nc (c + 1) N := by
  have hl : dg m nc N c = e := by rw [dg_last hm h1 h2 (by omega), md_e he]
  have hh : 0 < c → dg m nc N (c - 1) = p % m := fun hc => by rw [dg_b hm he hn h1 h2 (by omega), dg_l hc]
  constructor
  · intro h
    refine ⟨?_, fun i h3 h4 h5 => h i (by omega) h4 h5⟩
    by_cases c0 : c = 0
    · exact .inl c0
    · have := h c (Nat.le_refl c) (by omega) (by omega)
      rw [hl, hh (by omega)] at this
      exact .inr this
  · rintro ⟨h, h3⟩ i h4 h5 h6
    by_cases e2 : i = c
    · subst e2
      rw [hl, hh h5]
      exact h.resolve_left (by omega)
    · exact h3 i (by omega) h5 h6
theorem nearF_end {lim : Int32} {m nc N : Nat} : nearF lim m nc nc N := fun _ h1 _ h3 => absurd h3 (by omega)
/-- .. and all depths are let in -/
def tryF (lim : Int32) (z : Int64) (m nc c N : Nat) : Prop := nearF lim m nc c N ∧ ∀ i, i < nc → lb z (8 * i + dg m nc N i) = true
def cnd41 (I : Nat → Nat → Int32) (a b : Int32) (y : Int64) (m nc c p : Nat) : Prop := I 1 2 = Int32.ofNat m ∧ I 1 1 = Int32.ofNat nc ∧ 1 ≤ m ∧ m ≤ 6 ∧ nc ≤ 6 ∧ a = Int32.ofNat c ∧ c ≤ nc ∧ p < m ^ c ∧ isCuts y (dg m c p) c ∧ (0 < c → b = Int32.ofNat (p % m))
def tryV (I : Nat → Nat → Int32) (z : Int64) (a b : Int32) (y : Int64) (v : Int32) : Prop := ∀ m nc c p, cnd41 I a b y m nc c p → v = Int32.ofNat (cK (tryF (I 1 3) z m nc c) (p * m ^ (nc - c)) (m ^ (nc - c)))
def inv41 (I : Nat → Nat → Int32) (z : Int64) (a b : Int32) (y : Int64) (v d : Int32) : Prop := ∀ m nc c p, cnd41 I a b y m nc c p → ∃ dn, d = Int32.ofNat dn ∧ dn ≤ m ∧ v = Int32.ofNat (cK (tryF (I 1 3) z m nc c) (p * m ^ (nc - c)) (dn * m ^ (nc - c - 1)))
theorem cnd41_lt {I : Nat → Nat → Int32} {a b : Int32} {y : Int64} {m nc c p : Nat} (h : cnd41 I a b y m nc c p) (ca : a < I 1 1) : c < nc := by
  obtain ⟨em, ec, m1, m6, n6, ea, cn, -⟩ := h
  rw [ea, ec] at ca
  exact (oN_lt (by omega) (by omega)).mp ca
theorem inv41_s {I : Nat → Nat → Int32} {z : Int64} {a b : Int32} {y : Int64} {v d w : Int32} (ca : a < I 1 1) (hv : inv41 I z a b y v d) (hd : ¬ I 1 2 ≤ d)
    (hw : ∀ m nc c p dn, cnd41 I a b y m nc c p → c < nc → d = Int32.ofNat dn → dn < m → w = Int32.ofNat (cK (tryF (I 1 3) z m nc c) ((p * m + dn) * m ^ (nc - c - 1)) (m ^ (nc - c - 1)))) : inv41 I z a b y (v + w) (d + 1) := by
  intro m nc c p hc
  obtain ⟨dn, e1, e2, e3⟩ := hv m nc c p hc
  have hl := cnd41_lt hc ca
  have hdn : dn < m := by
    obtain ⟨em, ec, m1, m6, -⟩ := hc
    rw [em, e1] at hd
    have := mt (oN_le (by omega) (by omega)).mpr hd
    omega
  refine ⟨dn + 1, by rw [e1, oN_s], hdn, ?_⟩
  rw [e3, hw m nc c p dn hc hl e1 hdn, ← Int32.ofNat_add, Nat.succ_mul, cK_app]
  have := blk_s (m := m) (j := nc - c - 1) (p := p) dn
  rw [show nc - c - 1 + 1 = nc - c by omega] at this
  rw [this]
/-- what the next chamber's block counts -/
theorem tryV_s {I : Nat → Nat → Int32} {z : Int64} {a b : Int32} {y : Int64} {v d : Int32} (h : tryV I z (a + 1) d (y ||| bitL a d) v) {m nc c p dn : Nat} (hc : cnd41 I a b y m nc c p) (hl : c < nc) (e : d = Int32.ofNat dn) (hd : dn < m) : v = Int32.ofNat (cK (tryF (I 1 3) z m nc (c + 1)) ((p * m + dn) * m ^ (nc - c - 1)) (m ^ (nc - c - 1))) := by
  obtain ⟨em, ec, m1, m6, n6, ea, cn, hp, hy, hb⟩ := hc
  subst ea e
  refine h m nc (c + 1) (p * m + dn) ⟨em, ec, m1, m6, n6, oN_s c, hl, num_lt hp hd, isCuts_up (by omega) hd m6 hy, fun _ => ?_⟩
  rw [md_e hd]
theorem lk_41 {h : sH} {I : Nat → Nat → Int32} {L : Nat → Nat → Int64} {R : Nat → Nat} (th : qH h I L R) {z y : Int64} {a b : Int32} (ca : a < I 1 1) (ih : ∀ {b' : Int32} {y' : Int64} {r : sR}, qGo 41 [.ref (1), .int (a + (1 : Int32)), .int b', .long y', .long z] h r → ∃ v, r = (.inl (some (.int v)), h) ∧ tryV I z (a + 1) b' y' v) :
    ∀ N v d lv, inv41 I z a b y v d → qLs lv [some (.ref (1)), some (.int (a)), some (.int (b)), some (.long (y)), none, some (.long (z)), none, some (.int (v)), some (.int (d))] → qW 41 N 29 lv [] h (fun r => ∃ v, r = (.inl (some (.int v)), h) ∧ tryV I z a b y v)
  | 0, _, _, _, _, _ => qW_0
  | N + 1, v, d, lv, hv, hl => by
    refine qg_41_29 th ih hl (fun c1 => ?_) (fun c1 c2 v3 e4 lv' hl' => ?_) (fun c1 c2 c9 lv' hl' => ?_) (fun c1 c2 c9 v3 e4 lv' hl' => ?_)
    · refine ⟨v, rfl, fun m nc c p hc => ?_⟩
      obtain ⟨dn, e1, e2, e3⟩ := hv m nc c p hc
      have hl := cnd41_lt hc ca
      obtain ⟨em, ec, m1, m6, -⟩ := hc
      rw [em, e1] at c1
      have := (oN_le (by omega) (by omega)).mp c1
      rw [e3, show dn = m by omega, show m * m ^ (nc - c - 1) = m ^ (nc - c) by rw [Nat.mul_comm, ← Nat.pow_succ, show (nc - c - 1).succ = nc - c by omega]]
    · refine lk_41 th ca ih N (v + v3) (d + 1) lv' (inv41_s ca hv c1 (fun m nc c p dn hc hcl e hd => ?_)) hl'
      rw [tryV_s e4 hc hcl e hd]
      refine congrArg Int32.ofNat (cK_ext (fun N h1 h2 => ?_))
      have hm : 0 < m := by omega
      unfold tryF
      rw [nearF_blk hm hd (show c + (nc - c - 1) + 1 = nc by omega) h1 h2]
      have c0 : c = 0 := by
        obtain ⟨em, ec, m1, m6, n6, ea, -⟩ := hc
        rw [ea] at c2
        exact (oN_inj (b := 0) (by omega) (by decide)).mp c2
      exact ⟨fun q => ⟨⟨.inl c0, q.1⟩, q.2⟩, fun q => ⟨q.1.2, q.2⟩⟩
    · refine lk_41 th ca ih N v (d + 1) lv' ?_ hl'
      have := inv41_s (w := 0) ca hv c1 (fun m nc c p dn hc hcl e hd => ?_)
      · rwa [Int32.add_zero] at this
      · have hm : 0 < m := by omega
        rw [cK_and (b := false) (g := fun _ => True) (fun N h1 h2 => ⟨fun q => ?_, fun q => (by cases q.1)⟩), bn_f, Nat.zero_mul]
        · rfl
        · have := ((nearF_blk hm hd (show c + (nc - c - 1) + 1 = nc by omega) h1 h2).mp q.1).1
          exfalso
          obtain ⟨em, ec, m1, m6, n6, ea, cn, hp, hy, hb⟩ := hc
          rcases this with g | g
          · rw [ea, g] at c2; exact c2 rfl
          · have c0 : 0 < c := by
              apply Nat.pos_of_ne_zero
              intro g2
              rw [ea, g2] at c2; exact c2 rfl
            rw [hb c0, e] at c9
            exact of_decide_eq_true g c9
    · refine lk_41 th ca ih N (v + v3) (d + 1) lv' (inv41_s ca hv c1 (fun m nc c p dn hc hcl e hd => ?_)) hl'
      rw [tryV_s e4 hc hcl e hd]
      refine congrArg Int32.ofNat (cK_ext (fun N h1 h2 => ?_))
      have hm : 0 < m := by omega
      unfold tryF
      rw [nearF_blk hm hd (show c + (nc - c - 1) + 1 = nc by omega) h1 h2]
      have c0 : c = 0 ∨ lA (I 1 3) dn (p % m) = true := by
        obtain ⟨em, ec, m1, m6, n6, ea, cn, hp, hy, hb⟩ := hc
        by_cases g : c = 0
        · exact .inl g
        · rw [hb (by omega), e] at c9
          exact .inr (decide_eq_true c9)
      exact ⟨fun q => ⟨⟨c0, q.1⟩, q.2⟩, fun q => ⟨q.1.2, q.2⟩⟩
theorem try_e {I : Nat → Nat → Int32} {a b : Int32} {y z : Int64} (c1 : ¬ a < I 1 1) {m nc c p : Nat} (hc : cnd41 I a b y m nc c p) : nc - c = 0 ∧ (tryF (I 1 3) z m nc c p ↔ letIn y z) := by
  obtain ⟨em, ec, m1, m6, n6, ea, cn, hp, hy, hb⟩ := hc
  rw [ea, ec] at c1
  have := mt (oN_lt (by omega) (by omega)).mpr c1
  have e : c = nc := by omega
  subst e
  refine ⟨Nat.sub_self c, ?_⟩
  unfold tryF letIn
  rw [letIn_iff hy n6 (fun i hi => Nat.lt_of_lt_of_le (dg_lt (by omega)) (by omega))]
  exact ⟨fun q => q.2, fun q => ⟨nearF_end, q⟩⟩
theorem try_0 {I : Nat → Nat → Int32} {a b : Int32} {y z : Int64} (c1 : ¬ a < I 1 1) (c6 : ¬ letIn y z) : tryV I z a b y 0 := fun m nc c p hc => by
  obtain ⟨e1, e2⟩ := try_e (z := z) c1 hc
  rw [e1, Nat.pow_zero, Nat.mul_one, cK_1, pB_f (fun q => c6 (e2.mp q))]; rfl
theorem try_1 {I : Nat → Nat → Int32} {a b : Int32} {y z : Int64} (c1 : ¬ a < I 1 1) (c6 : letIn y z) : tryV I z a b y 1 := fun m nc c p hc => by
  obtain ⟨e1, e2⟩ := try_e (z := z) c1 hc
  rw [e1, Nat.pow_zero, Nat.mul_one, cK_1, pB_t (e2.mpr c6)]; rfl
theorem sp_41n {h : sH} {I : Nat → Nat → Int32} {L : Nat → Nat → Int64} {R : Nat → Nat} (th : qH h I L R) {z : Int64} : ∀ (k : Nat) (a b : Int32) (y : Int64) (r : sR), (I 1 1).toInt - a.toInt ≤ (k : Int) → qGo 41 [.ref (1), .int a, .int b, .long y, .long z] h r → ∃ v, r = (.inl (some (.int v)), h) ∧ tryV I z a b y v := by
  intro k
  induction k with
  | zero =>
    intro a b y r hk g
    refine qg_41 (Q := fun r => ∃ v, r = (.inl (some (.int v)), h) ∧ tryV I z a b y v) th g (fun c1 N lv hl => ?_) (fun c1 c6 => ⟨0, rfl, ?_⟩) (fun c1 c6 => ⟨1, rfl, ?_⟩)
    · have := Int32.lt_iff_toInt_lt.mp c1
      omega
    · exact try_0 c1 c6
    · exact try_1 c1 c6
  | succ k IH =>
    intro a b y r hk g
    refine qg_41 (Q := fun r => ∃ v, r = (.inl (some (.int v)), h) ∧ tryV I z a b y v) th g (fun c1 N lv hl => ?_) (fun c1 c6 => ⟨0, rfl, ?_⟩) (fun c1 c6 => ⟨1, rfl, ?_⟩)
    · refine lk_41 th c1 (fun g' => IH _ _ _ _ ?_ g') N 0 0 lv (fun m nc c p hc => ⟨0, rfl, Nat.zero_le _, ?_⟩) hl
      · have h1 := Int32.lt_iff_toInt_lt.mp c1
        have h2 : (1 : Int32).toInt = 1 := rfl
        have h3 := i32_rng (I 1 1)
        have h4 := i32_rng a
        rw [i32_add (by omega) (by omega), h2]
        omega
      · rw [Nat.zero_mul]; rfl
    · exact try_0 c1 c6
    · exact try_1 c1 c6
theorem sp_41 {h : sH} {I : Nat → Nat → Int32} {L : Nat → Nat → Int64} {R : Nat → Nat} {z y : Int64} {a b : Int32} {r : sR} (th : qH h I L R) (g : qGo 41 [.ref (1), .int a, .int b, .long y, .long z] h r) : ∃ v, r = (.inl (some (.int v)), h) ∧ tryV I z a b y v := sp_41n th (((I 1 1).toInt - a.toInt).toNat) a b y r (by omega) g
theorem qg_40 {h : sH} {r : sR} {Q : sR → Prop} {a0 : Int64} {I : Nat → Nat → Int32} {L : Nat → Nat → Int64} {R : Nat → Nat} (th : qH h I L R) (g : qGo 40 [.ref (1), .long (a0)] h r)
    (p1 : ∀ (v1 : Int32), ∀ (e2 : tryV I a0 (0 : Int32) (0 : Int32) (0 : Int64) v1), Q (.inl (some (.int (v1))), h)) : Q r := by
  refine qGo_w g (fun N => ?_)
  have hl0 : qLs (lv_args 0 [.ref (1), .long (a0)]) [some (.ref (1)), some (.long (a0)), none] := qLs_ar 0
  refine q_aload_n (show mE (mtv 40) 0 = some (.aload_n 0, 1, 0, 0) from rfl) (hl0 0 _ rfl) ?_
  refine q_iconst (show mE (mtv 40) 1 = some (.iconst 0, 1, 0, 0) from rfl) kI_0 ?_
  refine q_iconst (show mE (mtv 40) 2 = some (.iconst 0, 1, 0, 0) from rfl) kI_0 ?_
  refine q_lconst (show mE (mtv 40) 3 = some (.lconst 0, 1, 0, 0) from rfl) kL_0 ?_
  refine q_lload_n (show mE (mtv 40) 4 = some (.lload_n 1, 1, 0, 0) from rfl) (hl0 1 _ rfl) ?_
  refine q_virtualE (show mE (mtv 40) 5 = some (.invokevirtual 59, 3, 41, 4) from rfl) (by decide) rfl rfl rfl (fun _ g => sp_41 th g) ?_
  rintro _ ⟨v1, rfl, e2⟩
  refine qK_v ?_
  refine q_ireturn (show mE (mtv 40) 8 = some (.ireturn, 1, 0, 0) from rfl) ?_
  exact p1 v1 e2
def tryC (I : Nat → Nat → Int32) (z : Int64) (v : Int32) : Prop := ∀ m nc, I 1 2 = Int32.ofNat m → I 1 1 = Int32.ofNat nc → 1 ≤ m → m ≤ 6 → nc ≤ 6 → v = Int32.ofNat (cK (tryF (I 1 3) z m nc 0) 0 (m ^ nc))
theorem sp_40 {h : sH} {r : sR} {z : Int64} {I : Nat → Nat → Int32} {L : Nat → Nat → Int64} {R : Nat → Nat} (th : qH h I L R) (g : qGo 40 [.ref (1), .long z] h r) : ∃ v, r = (.inl (some (.int v)), h) ∧ tryC I z v := by
  refine qg_40 (Q := fun r => ∃ v, r = (.inl (some (.int v)), h) ∧ tryC I z v) th g (fun v e => ⟨v, rfl, fun m nc em ec m1 m6 n6 => ?_⟩)
  have := e m nc 0 0 ⟨em, ec, m1, m6, n6, rfl, Nat.zero_le _, Nat.one_pos, isCuts_0, fun q => absurd q (Nat.lt_irrefl 0)⟩
  rw [Nat.zero_mul, Nat.sub_zero] at this
  exact this
