/-! part 66: the search of the model -/
theorem oN_div {a b : Nat} (ha : a < 2147483648) (hb : b < 2147483648) : Int32.ofNat a / Int32.ofNat b = Int32.ofNat (a / b) := by
  have hne : Int32.ofNat b ≠ -1 := fun e => by
    have := congrArg Int32.toInt e
    rw [ofN_toInt hb] at this
    have h1 : (-1 : Int32).toInt = -1 := rfl
    omega
  have hd : a / b < 2147483648 := Nat.lt_of_le_of_lt (Nat.div_le_self a b) ha
  apply Int32.toInt_inj.mp
  rw [Int32.toInt_div_of_ne_right _ _ hne, ofN_toInt ha, ofN_toInt hb, ofN_toInt hd]
  exact (Int.ofNat_tdiv a b).symm
theorem oN_rem {a b : Nat} (ha : a < 2147483648) (hb : b < 2147483648) : Int32.ofNat a - Int32.ofNat a / Int32.ofNat b * Int32.ofNat b = Int32.ofNat (a % b) := by
  rw [oN_div ha hb, ← Int32.ofNat_mul]
  have h1 := Nat.div_add_mod a b
  rw [Nat.mul_comm] at h1
  rw [oN_sub (by omega)]
  congr 1
  omega
theorem hs_oN {x : Int32} {d : Nat} (hd : d < 32) : hs x (Int32.ofNat d) = tb x d := by unfold hs tb; rw [shD_nat hd]
/-- the depths that are tried may be side by side -/
theorem sem_240 {I : Nat → Nat → Int32} : ∀ m j, 1 ≤ j → j + m < 2147483648 → (G_240 I j m = true ↔ ∀ i, j ≤ i → i < j + m → T_213 (I 91 i - I 91 (i - 1)) ≤ I 85 33)
  | 0, j, _, _ => ⟨fun _ i h1 h2 => absurd h2 (by omega), fun _ => rfl⟩
  | m + 1, j, h1, hb => by
    have ih := sem_240 (I := I) m (j + 1) (by omega) (by omega)
    unfold G_240
    rw [oN_q h1, ofN_clamp (by omega), ofN_clamp (by omega)]
    by_cases g : T_213 (I 91 j - I 91 (j - 1)) ≤ I 85 33
    · rw [if_pos g, ih]
      constructor
      · intro q i h2 h3
        by_cases e : i = j
        · rw [e]; exact g
        · exact q i (by omega) (by omega)
      · intro q i h2 h3
        exact q i (by omega) (by omega)
    · rw [if_neg g]
      exact ⟨fun q => (by cases q), fun q => absurd (q j (Nat.le_refl _) (by omega)) g⟩
theorem sem_242 {I : Nat → Nat → Int32} {b : Nat} (hb : b < 100) : ∀ m j, j + m < 1000 → (G_242 I (Int32.ofNat b) j m = true ↔ ∀ c, j ≤ c → c < j + m → I 105 (6 * b + c) = I 91 c)
  | 0, j, _ => ⟨fun _ i h1 h2 => absurd h2 (by omega), fun _ => rfl⟩
  | m + 1, j, hm => by
    have ih := sem_242 (I := I) hb m (j + 1) (by omega)
    unfold G_242
    rw [oN_6, ofN_clamp (by omega), ofN_clamp (by omega)]
    by_cases g : I 105 (6 * b + j) = I 91 j
    · rw [if_pos g, ih]
      constructor
      · intro q i h2 h3
        by_cases e : i = j
        · rw [e]; exact g
        · exact q i (by omega) (by omega)
      · intro q i h2 h3
        exact q i (by omega) (by omega)
    · rw [if_neg g]
      exact ⟨fun q => (by cases q), fun q => absurd (q j (Nat.le_refl _) (by omega)) g⟩
def mntB (I : Nat → Nat → Int32) (b : Int32) : Bool := if b = -1 then (List.range (I 85 46).toNatClampNeg).all (fun o => !G_242 I (Int32.ofNat o) 0 (I 104 o).toNatClampNeg) else G_242 I b 0 (I 104 b.toNatClampNeg).toNatClampNeg
theorem lk_241 {h : sH} {I : Nat → Nat → Int32} {L : Nat → Nat → Int64} {R : Nat → Nat} (th : qH h I L R) : ∀ N j lv, j ≤ (I 85 46).toNatClampNeg → (∀ o, o < j → G_242 I (Int32.ofNat o) 0 (I 104 o).toNatClampNeg = false) → qLs lv [some (.ref (85)), none, some (.int (Int32.ofNat j))] → qW 241 N 13 lv [] h (fun r => r = (.inl (some (.int (b2 (mntB I (-1) = true)))), h))
  | 0, _, _, _, _, _ => qW_0
  | N + 1, j, lv, hj, hn, hl => by
    have bm := nn_lt (I 85 46)
    refine qg_241_13 th hl (fun c1 => ?_) (fun c1 c2 lv' hl' => ?_) (fun c1 c2 => ?_)
    · have := (le_oN (by omega)).mp c1
      show _ = _
      rw [b2_t]
      unfold mntB
      rw [if_pos rfl]
      refine List.all_eq_true.mpr (fun o ho => ?_)
      rw [hn o (by have := List.mem_range.mp ho; omega)]; rfl
    · have := mt (le_oN (by omega)).mpr c1
      rw [oN_s] at hl'
      rw [ofN_clamp (by omega)] at c2
      refine lk_241 th N (j + 1) lv' (by omega) (fun o ho => ?_) hl'
      by_cases e : o = j
      · rw [e]; exact Bool.eq_false_iff.mpr c2
      · exact hn o (by omega)
    · have := mt (le_oN (by omega)).mpr c1
      rw [ofN_clamp (by omega)] at c2
      show _ = _
      rw [b2_f]
      unfold mntB
      rw [if_pos rfl]
      intro q
      have := List.all_eq_true.mp q j (List.mem_range.mpr (by omega))
      rw [c2] at this
      cases this
theorem sp_241 {h : sH} {r : sR} {b : Int32} {I : Nat → Nat → Int32} {L : Nat → Nat → Int64} {R : Nat → Nat} (th : qH h I L R) (g : qGo 241 [.ref (85), .int b] h r) : r = (.inl (some (.int (b2 (mntB I b = true)))), h) := by
  refine qg_241 (Q := fun r => r = _) th g (fun c1 N lv hl => ?_) (fun c1 => ?_)
  · subst c1
    exact lk_241 th N 0 lv (Nat.zero_le _) (fun o ho => absurd ho (Nat.not_lt_zero o)) hl
  · show _ = _
    unfold mntB
    rw [if_neg c1]
def smP (I : Nat → Nat → Int32) (v : Int32) : Prop := ∀ nk nc, I 85 35 = Int32.ofNat nk → I 85 31 = Int32.ofNat nc → nk ≤ 16 → nc ≤ 6 → (v = -1 ∧ ∀ i, i < nk → ¬ sameM I nc i) ∨ ∃ i, i < nk ∧ sameM I nc i ∧ v = Int32.ofNat i
theorem sp_217 {h : sH} {r : sR} {I : Nat → Nat → Int32} {L : Nat → Nat → Int64} {R : Nat → Nat} (th : qH h I L R) (g : qGo 217 [.ref (85)] h r) : ∃ v, r = (.inl (some (.int v)), h) ∧ smP I v := by
  refine qg_217 (Q := fun r => ∃ v, r = (.inl (some (.int v)), h) ∧ smP I v) g (fun N lv hl => ?_)
  refine qW_mono ?_ ((fl_217 N).1 0 0 0 lv h th hl)
  intro r ⟨n, x, e, q⟩
  exact ⟨x, q, fun nk nc hk hc bk bc => (sem_217 hk hc bk bc n).1 0 0 0 x (Nat.zero_le _) (fun i hi => absurd hi (Nat.not_lt_zero i)) e⟩
/-- a depth that the pins of a door let in; .. or the tried key, if it is for this door -/
def pinQ (I : Nat → Nat → Int32) (d c e : Nat) : Prop := ∃ i, i < nkI I ∧ tb (I 88 i) d = true ∧ I 86 (6 * i + c) = Int32.ofNat e
def pq (I : Nat → Nat → Int32) (D : Int32) (t : Nat → Nat) (d c e : Nat) : Prop := pinQ I d c e ∨ (tb D d = true ∧ t c = e)
def fB (I : Nat → Nat → Int32) (d : Nat) : Prop := (I 85 43 &&& I 97 d) = 0
/-- with the tried key, no door is amiss -/
def cl1 (I : Nat → Nat → Int32) (D : Int32) (d : Nat) : Prop := tb D d = true → fB I d
def cl2 (I : Nat → Nat → Int32) (D : Int32) (t : Nat → Nat) (d : Nat) : Prop := ¬ (tb D d = false ∧ fB I d ∧ ∀ c, c < ncI I → pinQ I d c (t c))
def cl3 (I : Nat → Nat → Int32) (D : Int32) (t : Nat → Nat) (d : Nat) : Prop := I 85 47 = 0 → ∀ c, c < ncI I → ∀ e, e < 8 → ¬ (pq I D t d c e ∧ pq I D t d c (e + 1))
def cl4 (I : Nat → Nat → Int32) (D : Int32) (t : Nat → Nat) (d k : Nat) : Prop := (I 95 k &&& I 97 d) = 0 → (∀ c, c < ncI I → pq I D t d c (dpM I k c)) → tb (I 88 k) d = true
def clnD (I : Nat → Nat → Int32) (D : Int32) (t : Nat → Nat) (d : Nat) : Prop := cl1 I D d ∧ cl2 I D t d ∧ cl3 I D t d ∧ ∀ k, k < nkI I → cl4 I D t d k
def clnM (I : Nat → Nat → Int32) (D : Int32) (t : Nat → Nat) : Prop := ∀ d, d < ndI I → clnD I D t d
/-- thin chambers, counted -/
theorem cnt_244 {I : Nat → Nat → Int32} : ∀ m j a, j + m < 1000 → ∃ b, G_244 I j (Int32.ofNat a) m = Int32.ofNat b ∧ a ≤ b ∧ b ≤ a + m ∧ (b = a ↔ ∀ c, j ≤ c → c < j + m → (I 106 c &&& (I 106 c >>> ((1 : Int32) &&& 31))) = 0)
  | 0, j, a, _ => ⟨a, rfl, Nat.le_refl _, Nat.le_refl _, ⟨fun _ c h1 h2 => absurd h2 (by omega), fun _ => rfl⟩⟩
  | m + 1, j, a, hm => by
    unfold G_244
    rw [ofN_clamp (by omega)]
    by_cases g : (I 106 j &&& (I 106 j >>> ((1 : Int32) &&& 31))) = 0
    · rw [if_pos g, Int32.add_zero]
      obtain ⟨b, e1, e2, e3, e4⟩ := cnt_244 (I := I) m (j + 1) a (by omega)
      refine ⟨b, e1, e2, by omega, e4.trans ⟨fun q c h1 h2 => ?_, fun q c h1 h2 => q c (by omega) (by omega)⟩⟩
      by_cases e : c = j
      · rw [e]; exact g
      · exact q c (by omega) (by omega)
    · rw [if_neg g, oN_s]
      obtain ⟨b, e1, e2, e3, e4⟩ := cnt_244 (I := I) m (j + 1) (a + 1) (by omega)
      exact ⟨b, e1, by omega, by omega, ⟨fun q => absurd q (by omega), fun q => absurd (q j (Nat.le_refl _) (by omega)) g⟩⟩
theorem thin_0 {I : Nat → Nat → Int32} {m : Nat} (hm : m < 1000) : G_244 I 0 0 m ≤ 0 ↔ ∀ c, c < m → (I 106 c &&& (I 106 c >>> ((1 : Int32) &&& 31))) = 0 := by
  obtain ⟨b, e1, e2, e3, e4⟩ := cnt_244 (I := I) m 0 0 (by omega)
  have e1 : G_244 I 0 0 m = Int32.ofNat b := e1
  rw [e1]
  have h1 := oN_le (a := b) (b := 0) (by omega) (by decide)
  constructor
  · intro q c hc
    have := h1.mp q
    exact e4.mp (by omega) c (Nat.zero_le _) (by omega)
  · intro q
    exact h1.mpr (Nat.le_of_eq (e4.mpr (fun c _ h2 => q c (by omega))))
theorem tb_sar {x : Int32} {e : Nat} (he : e < 31) : tb (x >>> ((1 : Int32) &&& 31)) e = tb x (e + 1) := by
  show (x.toBitVec.sshiftRight' (((1 : Int32).toBitVec &&& 31#32).smod 32)).getLsbD e = _
  rw [BitVec.getLsbD_sshiftRight', sh_smod, show shD (1 : Int32) = 1 from rfl, if_pos (by omega)]
  simp [tb, show e < 32 by omega, Nat.add_comm]
/-- no two depths that differ by one -/
theorem thin_b {x : Int32} (h : ∀ e, 8 ≤ e → tb x e = false) : (x &&& (x >>> ((1 : Int32) &&& 31))) = 0 ↔ ∀ e, ¬ (tb x e = true ∧ tb x (e + 1) = true) := by
  constructor
  · intro g e ⟨q1, q2⟩
    have he : e < 8 := by
      apply Decidable.of_not_not
      intro n
      rw [h e (by omega)] at q1
      cases q1
    have := congrArg (fun z => tb z e) g
    simp only [tb_and, tb_0, tb_sar (show e < 31 by omega), q1, q2] at this
    cases this
  · intro g
    apply tb_ext
    intro e he
    rw [tb_and, tb_0]
    by_cases h8 : e < 8
    · rw [tb_sar (by omega)]
      have := g e
      cases q1 : tb x e with
      | false => rfl
      | true =>
        cases q2 : tb x (e + 1) with
        | false => rfl
        | true => exact absurd ⟨q1, q2⟩ this
    · rw [h e (by omega), Bool.false_and]
theorem qg_243 {h : sH} {r : sR} {Q : sR → Prop} {a0 : Int32} (g : qGo 243 [.ref (85), .int (a0)] h r)
    (p1 : ∀ N lv, qLs lv [some (.ref (85)), some (.int (a0)), some (.int ((0 : Int32))), none, none, none] → qW 243 N 2 lv [] h Q) : Q r := by
  refine qGo_w g (fun N => ?_)
  have hl0 : qLs (lv_args 0 [.ref (85), .int (a0)]) [some (.ref (85)), some (.int (a0)), none, none, none, none] := qLs_ar 4
  refine q_iconst (show mE (mtv 243) 0 = some (.iconst 0, 1, 0, 0) from rfl) kI_0 ?_
  refine q_istore_n (show mE (mtv 243) 1 = some (.istore_n 2, 1, 0, 0) from rfl) (Nat.le_of_ble_eq_true rfl) hl0 (fun lv1 (hl2 : qLs lv1 [some (.ref (85)), some (.int (a0)), some (.int ((0 : Int32))), none, none, none]) => ?_)
  exact p1 _ lv1 (qLs_wk hl2 (⟨rfl, rfl, rfl, trivial⟩))
theorem qg_243_2 {N : Nat} {lv : sL} {h : sH} {Q : sR → Prop} {x1 : Int32} {x2 : Int32} {I : Nat → Nat → Int32} {L : Nat → Nat → Int64} {R : Nat → Nat} (th : qH h I L R) (hl : qLs lv [some (.ref (85)), some (.int (x1)), some (.int (x2)), none, none, none])
    (p1 : ∀ (c1 : (I 85 36) ≤ x2), Q (.inl (some (.int ((1 : Int32)))), h))
    (p2 : ∀ (c1 : ¬ (I 85 36) ≤ x2), ∀ (j2 : Nat → Nat → Int32), ∀ (h3 : sH), ∀ (t4 : qH h3 j2 L R), ∀ (e5 : layP I x2 j2), ∀ (c6 : ¬ (hs x1 x2 = true)), ∀ (bb9 : sIn x2 10 = true), ∀ (c10 : ¬ ((j2 85 43) &&& (j2 97 ((x2).toNatClampNeg))) = 0), ∀ lv, qLs lv [some (.ref (85)), some (.int (x1)), some (.int (x2)), some (.int ((0 : Int32))), some (.int ((0 : Int32))), some (.int ((0 : Int32)))] → qW 243 N 65 lv [] h3 Q)
    (p3 : ∀ (c1 : ¬ (I 85 36) ≤ x2), ∀ (j2 : Nat → Nat → Int32), ∀ (h3 : sH), ∀ (t4 : qH h3 j2 L R), ∀ (e5 : layP I x2 j2), ∀ (c6 : ¬ (hs x1 x2 = true)), ∀ (bb9 : sIn x2 10 = true), ∀ (c10 : ((j2 85 43) &&& (j2 97 ((x2).toNatClampNeg))) = 0), ∀ lv, qLs lv [some (.ref (85)), some (.int (x1)), some (.int (x2)), some (.int ((0 : Int32))), some (.int ((1 : Int32))), some (.int ((0 : Int32)))] → qW 243 N 65 lv [] h3 Q)
    (p4 : ∀ (c1 : ¬ (I 85 36) ≤ x2), ∀ (j2 : Nat → Nat → Int32), ∀ (h3 : sH), ∀ (t4 : qH h3 j2 L R), ∀ (e5 : layP I x2 j2), ∀ (c6 : hs x1 x2 = true), ∀ (bb21 : sIn x2 10 = true), ∀ (c22 : ¬ ((j2 85 43) &&& (j2 97 ((x2).toNatClampNeg))) = 0), Q (.inl (some (.int ((0 : Int32)))), h3))
    (p5 : ∀ (c1 : ¬ (I 85 36) ≤ x2), ∀ (j2 : Nat → Nat → Int32), ∀ (h3 : sH), ∀ (t4 : qH h3 j2 L R), ∀ (e5 : layP I x2 j2), ∀ (c6 : hs x1 x2 = true), ∀ (bb21 : sIn x2 10 = true), ∀ (c22 : ((j2 85 43) &&& (j2 97 ((x2).toNatClampNeg))) = 0), ∀ lv, qLs lv [some (.ref (85)), some (.int (x1)), some (.int (x2)), some (.int ((1 : Int32))), some (.int ((1 : Int32))), some (.int ((0 : Int32)))] → qW 243 N 65 lv [] h3 Q) : qW 243 (N + 1) 2 lv [] h Q := by
  refine q1_iload_n (show mE (mtv 243) 2 = some (.iload_n 2, 1, 0, 0) from rfl) (hl 2 _ rfl) ?_
  refine q_aload_n (show mE (mtv 243) 3 = some (.aload_n 0, 1, 0, 0) from rfl) (hl 0 _ rfl) ?_
  refine q_getI th (show mE (mtv 243) 4 = some (.getfield 120, 3, 9, 36) from rfl) (by decide) rfl ?_
  refine q_ic_ge (t := 211) (show mE (mtv 243) 7 = some (.if_icmp .ge 204, 3, 0, 0) from rfl) rfl (fun c1 => ?_) (fun c1 => ?_)
  · refine q_iconst (show mE (mtv 243) 211 = some (.iconst 1, 1, 0, 0) from rfl) kI_1 ?_
    refine q_ireturn (show mE (mtv 243) 212 = some (.ireturn, 1, 0, 0) from rfl) ?_
    exact p1 c1
  · refine q_aload_n (show mE (mtv 243) 10 = some (.aload_n 0, 1, 0, 0) from rfl) (hl 0 _ rfl) ?_
    refine q_iload_n (show mE (mtv 243) 11 = some (.iload_n 2, 1, 0, 0) from rfl) (hl 2 _ rfl) ?_
    refine q_virtualE (show mE (mtv 243) 12 = some (.invokevirtual 192, 3, 229, 9) from rfl) (by decide) rfl rfl rfl (fun _ g => sp_229 th g) ?_
    rintro _ ⟨j2, h3, rfl, t4, e5⟩
    refine qK_n ?_
    refine q_iload_n (show mE (mtv 243) 15 = some (.iload_n 1, 1, 0, 0) from rfl) (hl 1 _ rfl) ?_
    refine q_iload_n (show mE (mtv 243) 16 = some (.iload_n 2, 1, 0, 0) from rfl) (hl 2 _ rfl) ?_
    refine q_ishr (show mE (mtv 243) 17 = some (.ishr, 1, 0, 0) from rfl) ?_
    refine q_iconst (show mE (mtv 243) 18 = some (.iconst 1, 1, 0, 0) from rfl) kI_1 ?_
    refine q_iand (show mE (mtv 243) 19 = some (.iand, 1, 0, 0) from rfl) ?_
    rw [hs_is]
    refine q_iconst (show mE (mtv 243) 20 = some (.iconst 1, 1, 0, 0) from rfl) kI_1 ?_
    refine q_icb_ne (t := 28) (show mE (mtv 243) 21 = some (.if_icmp .ne 7, 3, 0, 0) from rfl) rfl (fun c6 => ?_) (fun c6 => ?_)
    · refine q_iconst (show mE (mtv 243) 28 = some (.iconst 0, 1, 0, 0) from rfl) kI_0 ?_
      refine q_istore_n (show mE (mtv 243) 29 = some (.istore_n 3, 1, 0, 0) from rfl) (Nat.le_of_ble_eq_true rfl) hl (fun lv7 (hl8 : qLs lv7 [some (.ref (85)), some (.int (x1)), some (.int (x2)), some (.int ((0 : Int32))), none, none]) => ?_)
      refine q_aload_n (show mE (mtv 243) 30 = some (.aload_n 0, 1, 0, 0) from rfl) (hl8 0 _ rfl) ?_
      refine q_getI t4 (show mE (mtv 243) 31 = some (.getfield 141, 3, 9, 43) from rfl) (by decide) rfl ?_
      refine q_aload_n (show mE (mtv 243) 34 = some (.aload_n 0, 1, 0, 0) from rfl) (hl8 0 _ rfl) ?_
      refine q_getR (m := 97) t4 (show mE (mtv 243) 35 = some (.getfield 44, 3, 9, 11) from rfl) (by decide) rfl rfl ?_
      refine q_iload_n (show mE (mtv 243) 38 = some (.iload_n 2, 1, 0, 0) from rfl) (hl8 2 _ rfl) ?_
      refine q_iaload (n := 10) t4 (show mE (mtv 243) 39 = some (.iaload, 1, 0, 0) from rfl) (by decide) rfl (fun bb9 => ?_)
      refine q_iand (show mE (mtv 243) 40 = some (.iand, 1, 0, 0) from rfl) ?_
      refine q_if_ne (t := 48) (show mE (mtv 243) 41 = some (.ifCond .ne 7, 3, 0, 0) from rfl) rfl (fun c10 => ?_) (fun c10 => ?_)
      · refine q_iconst (show mE (mtv 243) 48 = some (.iconst 0, 1, 0, 0) from rfl) kI_0 ?_
        refine q_istore (show mE (mtv 243) 49 = some (.istore 4, 2, 0, 0) from rfl) (Nat.le_of_ble_eq_true rfl) hl8 (fun lv11 (hl12 : qLs lv11 [some (.ref (85)), some (.int (x1)), some (.int (x2)), some (.int ((0 : Int32))), some (.int ((0 : Int32))), none]) => ?_)
        refine q_iload_n (show mE (mtv 243) 51 = some (.iload_n 3, 1, 0, 0) from rfl) (hl12 3 _ rfl) ?_
        refine q_ift (t := 62) (show mE (mtv 243) 52 = some (.ifCond .eq 10, 3, 0, 0) from rfl) (by decide) rfl ?_
        refine q_iconst (show mE (mtv 243) 62 = some (.iconst 0, 1, 0, 0) from rfl) kI_0 ?_
        refine q_istore (show mE (mtv 243) 63 = some (.istore 5, 2, 0, 0) from rfl) (Nat.le_of_ble_eq_true rfl) hl12 (fun lv13 (hl14 : qLs lv13 [some (.ref (85)), some (.int (x1)), some (.int (x2)), some (.int ((0 : Int32))), some (.int ((0 : Int32))), some (.int ((0 : Int32)))]) => ?_)
        exact p2 c1 j2 h3 t4 e5 c6 bb9 c10 lv13 (qLs_wk hl14 (⟨rfl, rfl, rfl, rfl, rfl, rfl, trivial⟩))
      · refine q_iconst (show mE (mtv 243) 44 = some (.iconst 1, 1, 0, 0) from rfl) kI_1 ?_
        refine q_goto (t := 49) (show mE (mtv 243) 45 = some (.goto 4, 3, 0, 0) from rfl) rfl ?_
        refine q_istore (show mE (mtv 243) 49 = some (.istore 4, 2, 0, 0) from rfl) (Nat.le_of_ble_eq_true rfl) hl8 (fun lv15 (hl16 : qLs lv15 [some (.ref (85)), some (.int (x1)), some (.int (x2)), some (.int ((0 : Int32))), some (.int ((1 : Int32))), none]) => ?_)
        refine q_iload_n (show mE (mtv 243) 51 = some (.iload_n 3, 1, 0, 0) from rfl) (hl16 3 _ rfl) ?_
        refine q_ift (t := 62) (show mE (mtv 243) 52 = some (.ifCond .eq 10, 3, 0, 0) from rfl) (by decide) rfl ?_
        refine q_iconst (show mE (mtv 243) 62 = some (.iconst 0, 1, 0, 0) from rfl) kI_0 ?_
        refine q_istore (show mE (mtv 243) 63 = some (.istore 5, 2, 0, 0) from rfl) (Nat.le_of_ble_eq_true rfl) hl16 (fun lv17 (hl18 : qLs lv17 [some (.ref (85)), some (.int (x1)), some (.int (x2)), some (.int ((0 : Int32))), some (.int ((1 : Int32))), some (.int ((0 : Int32)))]) => ?_)
        exact p3 c1 j2 h3 t4 e5 c6 bb9 c10 lv17 (qLs_wk hl18 (⟨rfl, rfl, rfl, rfl, rfl, rfl, trivial⟩))
    · refine q_iconst (show mE (mtv 243) 24 = some (.iconst 1, 1, 0, 0) from rfl) kI_1 ?_
      refine q_goto (t := 29) (show mE (mtv 243) 25 = some (.goto 4, 3, 0, 0) from rfl) rfl ?_
      refine q_istore_n (show mE (mtv 243) 29 = some (.istore_n 3, 1, 0, 0) from rfl) (Nat.le_of_ble_eq_true rfl) hl (fun lv19 (hl20 : qLs lv19 [some (.ref (85)), some (.int (x1)), some (.int (x2)), some (.int ((1 : Int32))), none, none]) => ?_)
      refine q_aload_n (show mE (mtv 243) 30 = some (.aload_n 0, 1, 0, 0) from rfl) (hl20 0 _ rfl) ?_
      refine q_getI t4 (show mE (mtv 243) 31 = some (.getfield 141, 3, 9, 43) from rfl) (by decide) rfl ?_
      refine q_aload_n (show mE (mtv 243) 34 = some (.aload_n 0, 1, 0, 0) from rfl) (hl20 0 _ rfl) ?_
      refine q_getR (m := 97) t4 (show mE (mtv 243) 35 = some (.getfield 44, 3, 9, 11) from rfl) (by decide) rfl rfl ?_
      refine q_iload_n (show mE (mtv 243) 38 = some (.iload_n 2, 1, 0, 0) from rfl) (hl20 2 _ rfl) ?_
      refine q_iaload (n := 10) t4 (show mE (mtv 243) 39 = some (.iaload, 1, 0, 0) from rfl) (by decide) rfl (fun bb21 => ?_)
      refine q_iand (show mE (mtv 243) 40 = some (.iand, 1, 0, 0) from rfl) ?_
      refine q_if_ne (t := 48) (show mE (mtv 243) 41 = some (.ifCond .ne 7, 3, 0, 0) from rfl) rfl (fun c22 => ?_) (fun c22 => ?_)
      · refine q_iconst (show mE (mtv 243) 48 = some (.iconst 0, 1, 0, 0) from rfl) kI_0 ?_
        refine q_istore (show mE (mtv 243) 49 = some (.istore 4, 2, 0, 0) from rfl) (Nat.le_of_ble_eq_true rfl) hl20 (fun lv23 (hl24 : qLs lv23 [some (.ref (85)), some (.int (x1)), some (.int (x2)), some (.int ((1 : Int32))), some (.int ((0 : Int32))), none]) => ?_)
        refine q_iload_n (show mE (mtv 243) 51 = some (.iload_n 3, 1, 0, 0) from rfl) (hl24 3 _ rfl) ?_
        refine q_iff (t := 62) (show mE (mtv 243) 52 = some (.ifCond .eq 10, 3, 0, 0) from rfl) (by decide) rfl ?_
        refine q_iload (show mE (mtv 243) 55 = some (.iload 4, 2, 0, 0) from rfl) (hl24 4 _ rfl) ?_
        refine q_iff (t := 62) (show mE (mtv 243) 57 = some (.ifCond .ne 5, 3, 0, 0) from rfl) (by decide) rfl ?_
        refine q_iconst (show mE (mtv 243) 60 = some (.iconst 0, 1, 0, 0) from rfl) kI_0 ?_
        refine q_ireturn (show mE (mtv 243) 61 = some (.ireturn, 1, 0, 0) from rfl) ?_
        exact p4 c1 j2 h3 t4 e5 c6 bb21 c22
      · refine q_iconst (show mE (mtv 243) 44 = some (.iconst 1, 1, 0, 0) from rfl) kI_1 ?_
        refine q_goto (t := 49) (show mE (mtv 243) 45 = some (.goto 4, 3, 0, 0) from rfl) rfl ?_
        refine q_istore (show mE (mtv 243) 49 = some (.istore 4, 2, 0, 0) from rfl) (Nat.le_of_ble_eq_true rfl) hl20 (fun lv25 (hl26 : qLs lv25 [some (.ref (85)), some (.int (x1)), some (.int (x2)), some (.int ((1 : Int32))), some (.int ((1 : Int32))), none]) => ?_)
        refine q_iload_n (show mE (mtv 243) 51 = some (.iload_n 3, 1, 0, 0) from rfl) (hl26 3 _ rfl) ?_
        refine q_iff (t := 62) (show mE (mtv 243) 52 = some (.ifCond .eq 10, 3, 0, 0) from rfl) (by decide) rfl ?_
        refine q_iload (show mE (mtv 243) 55 = some (.iload 4, 2, 0, 0) from rfl) (hl26 4 _ rfl) ?_
        refine q_ift (t := 62) (show mE (mtv 243) 57 = some (.ifCond .ne 5, 3, 0, 0) from rfl) (by decide) rfl ?_
        refine q_iconst (show mE (mtv 243) 62 = some (.iconst 0, 1, 0, 0) from rfl) kI_0 ?_
        refine q_istore (show mE (mtv 243) 63 = some (.istore 5, 2, 0, 0) from rfl) (Nat.le_of_ble_eq_true rfl) hl26 (fun lv27 (hl28 : qLs lv27 [some (.ref (85)), some (.int (x1)), some (.int (x2)), some (.int ((1 : Int32))), some (.int ((1 : Int32))), some (.int ((0 : Int32)))]) => ?_)
        exact p5 c1 j2 h3 t4 e5 c6 bb21 c22 lv27 (qLs_wk hl28 (⟨rfl, rfl, rfl, rfl, rfl, rfl, trivial⟩))
theorem qg_243_65 {N : Nat} {lv : sL} {h : sH} {Q : sR → Prop} {x1 : Int32} {x2 : Int32} {x3 : Int32} {x4 : Int32} {x5 : Int32} {I : Nat → Nat → Int32} {L : Nat → Nat → Int64} {R : Nat → Nat} (th : qH h I L R) (hl : qLs lv [some (.ref (85)), some (.int (x1)), some (.int (x2)), some (.int (x3)), some (.int (x4)), some (.int (x5))])
    (p1 : ∀ (c1 : (I 85 31) ≤ x5), ∀ (c2 : x4 = 0), ∀ (z3 : I 85 47 = 0 ∨ I 85 47 = 1), ∀ (c4 : ¬ (I 85 47) = 0), ∀ lv, qLs lv [some (.ref (85)), some (.int (x1)), some (.int (x2)), none, none, some (.int ((0 : Int32)))] → qW 243 N 164 lv [] h Q)
    (p2 : ∀ (c1 : (I 85 31) ≤ x5), ∀ (c2 : x4 = 0), ∀ (z3 : I 85 47 = 0 ∨ I 85 47 = 1), ∀ (c4 : (I 85 47) = 0), ∀ (c7 : (G_244 I 0 ((0 : Int32)) ((I 85 31)).toNatClampNeg) ≤ 0), ∀ lv, qLs lv [some (.ref (85)), some (.int (x1)), some (.int (x2)), none, none, some (.int ((0 : Int32)))] → qW 243 N 164 lv [] h Q)
    (p3 : ∀ (c1 : (I 85 31) ≤ x5), ∀ (c2 : x4 = 0), ∀ (z3 : I 85 47 = 0 ∨ I 85 47 = 1), ∀ (c4 : (I 85 47) = 0), ∀ (c7 : ¬ (G_244 I 0 ((0 : Int32)) ((I 85 31)).toNatClampNeg) ≤ 0), Q (.inl (some (.int ((0 : Int32)))), h))
    (p4 : ∀ (c1 : (I 85 31) ≤ x5), ∀ (c2 : ¬ x4 = 0), ∀ (c10 : x3 = 0), Q (.inl (some (.int ((0 : Int32)))), h))
    (p5 : ∀ (c1 : (I 85 31) ≤ x5), ∀ (c2 : ¬ x4 = 0), ∀ (c10 : ¬ x3 = 0), ∀ (z11 : I 85 47 = 0 ∨ I 85 47 = 1), ∀ (c12 : ¬ (I 85 47) = 0), ∀ lv, qLs lv [some (.ref (85)), some (.int (x1)), some (.int (x2)), none, none, some (.int ((0 : Int32)))] → qW 243 N 164 lv [] h Q)
    (p6 : ∀ (c1 : (I 85 31) ≤ x5), ∀ (c2 : ¬ x4 = 0), ∀ (c10 : ¬ x3 = 0), ∀ (z11 : I 85 47 = 0 ∨ I 85 47 = 1), ∀ (c12 : (I 85 47) = 0), ∀ (c15 : (G_244 I 0 ((0 : Int32)) ((I 85 31)).toNatClampNeg) ≤ 0), ∀ lv, qLs lv [some (.ref (85)), some (.int (x1)), some (.int (x2)), none, none, some (.int ((0 : Int32)))] → qW 243 N 164 lv [] h Q)
    (p7 : ∀ (c1 : (I 85 31) ≤ x5), ∀ (c2 : ¬ x4 = 0), ∀ (c10 : ¬ x3 = 0), ∀ (z11 : I 85 47 = 0 ∨ I 85 47 = 1), ∀ (c12 : (I 85 47) = 0), ∀ (c15 : ¬ (G_244 I 0 ((0 : Int32)) ((I 85 31)).toNatClampNeg) ≤ 0), Q (.inl (some (.int ((0 : Int32)))), h))
    (p8 : ∀ (c1 : ¬ (I 85 31) ≤ x5), ∀ (c18 : x3 = 0), ∀ (c19 : x4 = 0), ∀ lv, qLs lv [some (.ref (85)), some (.int (x1)), some (.int (x2)), some (.int (x3)), some (.int ((0 : Int32))), some (.int (x5 + (1 : Int32)))] → qW 243 N 65 lv [] h Q)
    (p9 : ∀ (c1 : ¬ (I 85 31) ≤ x5), ∀ (c18 : x3 = 0), ∀ (c19 : ¬ x4 = 0), ∀ (bb24 : sIn x5 6 = true), ∀ (c26 : ¬ (hs (I 106 ((x5).toNatClampNeg)) (I 91 ((x5).toNatClampNeg)) = true)), ∀ lv, qLs lv [some (.ref (85)), some (.int (x1)), some (.int (x2)), some (.int (x3)), some (.int ((0 : Int32))), some (.int (x5 + (1 : Int32)))] → qW 243 N 65 lv [] h Q)
    (p10 : ∀ (c1 : ¬ (I 85 31) ≤ x5), ∀ (c18 : x3 = 0), ∀ (c19 : ¬ x4 = 0), ∀ (bb24 : sIn x5 6 = true), ∀ (c26 : hs (I 106 ((x5).toNatClampNeg)) (I 91 ((x5).toNatClampNeg)) = true), ∀ lv, qLs lv [some (.ref (85)), some (.int (x1)), some (.int (x2)), some (.int (x3)), some (.int ((1 : Int32))), some (.int (x5 + (1 : Int32)))] → qW 243 N 65 lv [] h Q)
    (p11 : ∀ (c1 : ¬ (I 85 31) ≤ x5), ∀ (c18 : ¬ x3 = 0), ∀ (bb35 : sIn x5 6 = true), ∀ (h38 : sH), ∀ (t39 : qH h38 (upI I 106 ((x5).toNatClampNeg) ((I 106 ((x5).toNatClampNeg)) ||| ((1 : Int32) <<< ((I 91 ((x5).toNatClampNeg)) &&& 31)))) L R), ∀ (c40 : x4 = 0), ∀ lv, qLs lv [some (.ref (85)), some (.int (x1)), some (.int (x2)), some (.int (x3)), some (.int ((0 : Int32))), some (.int (x5 + (1 : Int32)))] → qW 243 N 65 lv [] h38 Q)
    (p12 : ∀ (c1 : ¬ (I 85 31) ≤ x5), ∀ (c18 : ¬ x3 = 0), ∀ (bb35 : sIn x5 6 = true), ∀ (h38 : sH), ∀ (t39 : qH h38 (upI I 106 ((x5).toNatClampNeg) ((I 106 ((x5).toNatClampNeg)) ||| ((1 : Int32) <<< ((I 91 ((x5).toNatClampNeg)) &&& 31)))) L R), ∀ (c40 : ¬ x4 = 0), ∀ (c49 : ¬ (hs ((I 106 ((x5).toNatClampNeg)) ||| ((1 : Int32) <<< ((I 91 ((x5).toNatClampNeg)) &&& 31))) (I 91 ((x5).toNatClampNeg)) = true)), ∀ lv, qLs lv [some (.ref (85)), some (.int (x1)), some (.int (x2)), some (.int (x3)), some (.int ((0 : Int32))), some (.int (x5 + (1 : Int32)))] → qW 243 N 65 lv [] h38 Q)
    (p13 : ∀ (c1 : ¬ (I 85 31) ≤ x5), ∀ (c18 : ¬ x3 = 0), ∀ (bb35 : sIn x5 6 = true), ∀ (h38 : sH), ∀ (t39 : qH h38 (upI I 106 ((x5).toNatClampNeg) ((I 106 ((x5).toNatClampNeg)) ||| ((1 : Int32) <<< ((I 91 ((x5).toNatClampNeg)) &&& 31)))) L R), ∀ (c40 : ¬ x4 = 0), ∀ (c49 : hs ((I 106 ((x5).toNatClampNeg)) ||| ((1 : Int32) <<< ((I 91 ((x5).toNatClampNeg)) &&& 31))) (I 91 ((x5).toNatClampNeg)) = true), ∀ lv, qLs lv [some (.ref (85)), some (.int (x1)), some (.int (x2)), some (.int (x3)), some (.int ((1 : Int32))), some (.int (x5 + (1 : Int32)))] → qW 243 N 65 lv [] h38 Q) : qW 243 (N + 1) 65 lv [] h Q := by
  refine q1_iload (show mE (mtv 243) 65 = some (.iload 5, 2, 0, 0) from rfl) (hl 5 _ rfl) ?_
  refine q_aload_n (show mE (mtv 243) 67 = some (.aload_n 0, 1, 0, 0) from rfl) (hl 0 _ rfl) ?_
  refine q_getI th (show mE (mtv 243) 68 = some (.getfield 104, 3, 9, 31) from rfl) (by decide) rfl ?_
  refine q_ic_ge (t := 136) (show mE (mtv 243) 71 = some (.if_icmp .ge 65, 3, 0, 0) from rfl) rfl (fun c1 => ?_) (fun c1 => ?_)
  · refine q_iload (show mE (mtv 243) 136 = some (.iload 4, 2, 0, 0) from rfl) (hl 4 _ rfl) ?_
    refine q_if_eq (t := 145) (show mE (mtv 243) 138 = some (.ifCond .eq 7, 3, 0, 0) from rfl) rfl (fun c2 => ?_) (fun c2 => ?_)
    · refine q_aload_n (show mE (mtv 243) 145 = some (.aload_n 0, 1, 0, 0) from rfl) (hl 0 _ rfl) ?_
      refine q_getB th (show mE (mtv 243) 146 = some (.getfield 153, 3, 9, 47) from rfl) (by decide) rfl (fun z3 => ?_)
      refine q_if_ne (t := 161) (show mE (mtv 243) 149 = some (.ifCond .ne 12, 3, 0, 0) from rfl) rfl (fun c4 => ?_) (fun c4 => ?_)
      · refine q_iconst (show mE (mtv 243) 161 = some (.iconst 0, 1, 0, 0) from rfl) kI_0 ?_
        refine q_istore (show mE (mtv 243) 162 = some (.istore 5, 2, 0, 0) from rfl) (Nat.le_of_ble_eq_true rfl) hl (fun lv5 (hl6 : qLs lv5 [some (.ref (85)), some (.int (x1)), some (.int (x2)), some (.int (x3)), some (.int (x4)), some (.int ((0 : Int32)))]) => ?_)
        exact p1 c1 c2 z3 c4 lv5 (qLs_wk hl6 (⟨rfl, rfl, rfl, rfl, trivial⟩))
      · refine q_aload_n (show mE (mtv 243) 152 = some (.aload_n 0, 1, 0, 0) from rfl) (hl 0 _ rfl) ?_
        refine q_virtualP (show mE (mtv 243) 153 = some (.invokevirtual 211, 3, 244, 9) from rfl) (by decide) rfl rfl rfl (fun _ g => sp_244 th g) ?_
        refine q_if_le (t := 161) (show mE (mtv 243) 156 = some (.ifCond .le 5, 3, 0, 0) from rfl) rfl (fun c7 => ?_) (fun c7 => ?_)
        · refine q_iconst (show mE (mtv 243) 161 = some (.iconst 0, 1, 0, 0) from rfl) kI_0 ?_
          refine q_istore (show mE (mtv 243) 162 = some (.istore 5, 2, 0, 0) from rfl) (Nat.le_of_ble_eq_true rfl) hl (fun lv8 (hl9 : qLs lv8 [some (.ref (85)), some (.int (x1)), some (.int (x2)), some (.int (x3)), some (.int (x4)), some (.int ((0 : Int32)))]) => ?_)
          exact p2 c1 c2 z3 c4 c7 lv8 (qLs_wk hl9 (⟨rfl, rfl, rfl, rfl, trivial⟩))
        · refine q_iconst (show mE (mtv 243) 159 = some (.iconst 0, 1, 0, 0) from rfl) kI_0 ?_
          refine q_ireturn (show mE (mtv 243) 160 = some (.ireturn, 1, 0, 0) from rfl) ?_
          exact p3 c1 c2 z3 c4 c7
    · refine q_iload_n (show mE (mtv 243) 141 = some (.iload_n 3, 1, 0, 0) from rfl) (hl 3 _ rfl) ?_
      refine q_if_eq (t := 159) (show mE (mtv 243) 142 = some (.ifCond .eq 17, 3, 0, 0) from rfl) rfl (fun c10 => ?_) (fun c10 => ?_)
      · refine q_iconst (show mE (mtv 243) 159 = some (.iconst 0, 1, 0, 0) from rfl) kI_0 ?_
        refine q_ireturn (show mE (mtv 243) 160 = some (.ireturn, 1, 0, 0) from rfl) ?_
        exact p4 c1 c2 c10
      · refine q_aload_n (show mE (mtv 243) 145 = some (.aload_n 0, 1, 0, 0) from rfl) (hl 0 _ rfl) ?_
        refine q_getB th (show mE (mtv 243) 146 = some (.getfield 153, 3, 9, 47) from rfl) (by decide) rfl (fun z11 => ?_)
        refine q_if_ne (t := 161) (show mE (mtv 243) 149 = some (.ifCond .ne 12, 3, 0, 0) from rfl) rfl (fun c12 => ?_) (fun c12 => ?_)
        · refine q_iconst (show mE (mtv 243) 161 = some (.iconst 0, 1, 0, 0) from rfl) kI_0 ?_
          refine q_istore (show mE (mtv 243) 162 = some (.istore 5, 2, 0, 0) from rfl) (Nat.le_of_ble_eq_true rfl) hl (fun lv13 (hl14 : qLs lv13 [some (.ref (85)), some (.int (x1)), some (.int (x2)), some (.int (x3)), some (.int (x4)), some (.int ((0 : Int32)))]) => ?_)
          exact p5 c1 c2 c10 z11 c12 lv13 (qLs_wk hl14 (⟨rfl, rfl, rfl, rfl, trivial⟩))
        · refine q_aload_n (show mE (mtv 243) 152 = some (.aload_n 0, 1, 0, 0) from rfl) (hl 0 _ rfl) ?_
          refine q_virtualP (show mE (mtv 243) 153 = some (.invokevirtual 211, 3, 244, 9) from rfl) (by decide) rfl rfl rfl (fun _ g => sp_244 th g) ?_
          refine q_if_le (t := 161) (show mE (mtv 243) 156 = some (.ifCond .le 5, 3, 0, 0) from rfl) rfl (fun c15 => ?_) (fun c15 => ?_)
          · refine q_iconst (show mE (mtv 243) 161 = some (.iconst 0, 1, 0, 0) from rfl) kI_0 ?_
            refine q_istore (show mE (mtv 243) 162 = some (.istore 5, 2, 0, 0) from rfl) (Nat.le_of_ble_eq_true rfl) hl (fun lv16 (hl17 : qLs lv16 [some (.ref (85)), some (.int (x1)), some (.int (x2)), some (.int (x3)), some (.int (x4)), some (.int ((0 : Int32)))]) => ?_)
            exact p6 c1 c2 c10 z11 c12 c15 lv16 (qLs_wk hl17 (⟨rfl, rfl, rfl, rfl, trivial⟩))
          · refine q_iconst (show mE (mtv 243) 159 = some (.iconst 0, 1, 0, 0) from rfl) kI_0 ?_
            refine q_ireturn (show mE (mtv 243) 160 = some (.ireturn, 1, 0, 0) from rfl) ?_
            exact p7 c1 c2 c10 z11 c12 c15
  · refine q_iload_n (show mE (mtv 243) 74 = some (.iload_n 3, 1, 0, 0) from rfl) (hl 3 _ rfl) ?_
    refine q_if_eq (t := 97) (show mE (mtv 243) 75 = some (.ifCond .eq 22, 3, 0, 0) from rfl) rfl (fun c18 => ?_) (fun c18 => ?_)
    · refine q_iload (show mE (mtv 243) 97 = some (.iload 4, 2, 0, 0) from rfl) (hl 4 _ rfl) ?_
      refine q_if_eq (t := 127) (show mE (mtv 243) 99 = some (.ifCond .eq 28, 3, 0, 0) from rfl) rfl (fun c19 => ?_) (fun c19 => ?_)
      · refine q_iconst (show mE (mtv 243) 127 = some (.iconst 0, 1, 0, 0) from rfl) kI_0 ?_
        refine q_istore (show mE (mtv 243) 128 = some (.istore 4, 2, 0, 0) from rfl) (Nat.le_of_ble_eq_true rfl) hl (fun lv20 (hl21 : qLs lv20 [some (.ref (85)), some (.int (x1)), some (.int (x2)), some (.int (x3)), some (.int ((0 : Int32))), some (.int (x5))]) => ?_)
        refine q_iinc (show mE (mtv 243) 130 = some (.iinc 5 1, 3, 0, 0) from rfl) (Nat.le_of_ble_eq_true rfl) hl21 (hl21 5 _ rfl) kI_1 (fun lv22 (hl23 : qLs lv22 [some (.ref (85)), some (.int (x1)), some (.int (x2)), some (.int (x3)), some (.int ((0 : Int32))), some (.int (x5 + (1 : Int32)))]) => ?_)
        refine q_goto (t := 65) (show mE (mtv 243) 133 = some (.goto (-68), 3, 0, 0) from rfl) rfl ?_
        exact p8 c1 c18 c19 lv22 (qLs_wk hl23 (⟨rfl, rfl, rfl, rfl, rfl, rfl, trivial⟩))
      · refine q_aload_n (show mE (mtv 243) 102 = some (.aload_n 0, 1, 0, 0) from rfl) (hl 0 _ rfl) ?_
        refine q_getR (m := 106) th (show mE (mtv 243) 103 = some (.getfield 71, 3, 9, 20) from rfl) (by decide) rfl rfl ?_
        refine q_iload (show mE (mtv 243) 106 = some (.iload 5, 2, 0, 0) from rfl) (hl 5 _ rfl) ?_
        refine q_iaload (n := 6) th (show mE (mtv 243) 108 = some (.iaload, 1, 0, 0) from rfl) (by decide) rfl (fun bb24 => ?_)
        refine q_aload_n (show mE (mtv 243) 109 = some (.aload_n 0, 1, 0, 0) from rfl) (hl 0 _ rfl) ?_
        refine q_getR (m := 91) th (show mE (mtv 243) 110 = some (.getfield 25, 3, 9, 5) from rfl) (by decide) rfl rfl ?_
        refine q_iload (show mE (mtv 243) 113 = some (.iload 5, 2, 0, 0) from rfl) (hl 5 _ rfl) ?_
        refine q_iaload (n := 6) th (show mE (mtv 243) 115 = some (.iaload, 1, 0, 0) from rfl) (by decide) rfl (fun bb25 => ?_)
        refine q_ishr (show mE (mtv 243) 116 = some (.ishr, 1, 0, 0) from rfl) ?_
        refine q_iconst (show mE (mtv 243) 117 = some (.iconst 1, 1, 0, 0) from rfl) kI_1 ?_
        refine q_iand (show mE (mtv 243) 118 = some (.iand, 1, 0, 0) from rfl) ?_
        rw [hs_is]
        refine q_iconst (show mE (mtv 243) 119 = some (.iconst 1, 1, 0, 0) from rfl) kI_1 ?_
        refine q_icb_ne (t := 127) (show mE (mtv 243) 120 = some (.if_icmp .ne 7, 3, 0, 0) from rfl) rfl (fun c26 => ?_) (fun c26 => ?_)
        · refine q_iconst (show mE (mtv 243) 127 = some (.iconst 0, 1, 0, 0) from rfl) kI_0 ?_
          refine q_istore (show mE (mtv 243) 128 = some (.istore 4, 2, 0, 0) from rfl) (Nat.le_of_ble_eq_true rfl) hl (fun lv27 (hl28 : qLs lv27 [some (.ref (85)), some (.int (x1)), some (.int (x2)), some (.int (x3)), some (.int ((0 : Int32))), some (.int (x5))]) => ?_)
          refine q_iinc (show mE (mtv 243) 130 = some (.iinc 5 1, 3, 0, 0) from rfl) (Nat.le_of_ble_eq_true rfl) hl28 (hl28 5 _ rfl) kI_1 (fun lv29 (hl30 : qLs lv29 [some (.ref (85)), some (.int (x1)), some (.int (x2)), some (.int (x3)), some (.int ((0 : Int32))), some (.int (x5 + (1 : Int32)))]) => ?_)
          refine q_goto (t := 65) (show mE (mtv 243) 133 = some (.goto (-68), 3, 0, 0) from rfl) rfl ?_
          exact p9 c1 c18 c19 bb24 c26 lv29 (qLs_wk hl30 (⟨rfl, rfl, rfl, rfl, rfl, rfl, trivial⟩))
        · refine q_iconst (show mE (mtv 243) 123 = some (.iconst 1, 1, 0, 0) from rfl) kI_1 ?_
          refine q_goto (t := 128) (show mE (mtv 243) 124 = some (.goto 4, 3, 0, 0) from rfl) rfl ?_
          refine q_istore (show mE (mtv 243) 128 = some (.istore 4, 2, 0, 0) from rfl) (Nat.le_of_ble_eq_true rfl) hl (fun lv31 (hl32 : qLs lv31 [some (.ref (85)), some (.int (x1)), some (.int (x2)), some (.int (x3)), some (.int ((1 : Int32))), some (.int (x5))]) => ?_)
          refine q_iinc (show mE (mtv 243) 130 = some (.iinc 5 1, 3, 0, 0) from rfl) (Nat.le_of_ble_eq_true rfl) hl32 (hl32 5 _ rfl) kI_1 (fun lv33 (hl34 : qLs lv33 [some (.ref (85)), some (.int (x1)), some (.int (x2)), some (.int (x3)), some (.int ((1 : Int32))), some (.int (x5 + (1 : Int32)))]) => ?_)
          refine q_goto (t := 65) (show mE (mtv 243) 133 = some (.goto (-68), 3, 0, 0) from rfl) rfl ?_
          exact p10 c1 c18 c19 bb24 c26 lv33 (qLs_wk hl34 (⟨rfl, rfl, rfl, rfl, rfl, rfl, trivial⟩))
    · refine q_aload_n (show mE (mtv 243) 78 = some (.aload_n 0, 1, 0, 0) from rfl) (hl 0 _ rfl) ?_
      refine q_getR (m := 106) th (show mE (mtv 243) 79 = some (.getfield 71, 3, 9, 20) from rfl) (by decide) rfl rfl ?_
      refine q_iload (show mE (mtv 243) 82 = some (.iload 5, 2, 0, 0) from rfl) (hl 5 _ rfl) ?_
      refine q_dup2 (show mE (mtv 243) 84 = some (.dup2, 1, 0, 0) from rfl) ?_
      refine q_iaload (n := 6) th (show mE (mtv 243) 85 = some (.iaload, 1, 0, 0) from rfl) (by decide) rfl (fun bb35 => ?_)
      refine q_iconst (show mE (mtv 243) 86 = some (.iconst 1, 1, 0, 0) from rfl) kI_1 ?_
      refine q_aload_n (show mE (mtv 243) 87 = some (.aload_n 0, 1, 0, 0) from rfl) (hl 0 _ rfl) ?_
      refine q_getR (m := 91) th (show mE (mtv 243) 88 = some (.getfield 25, 3, 9, 5) from rfl) (by decide) rfl rfl ?_
      refine q_iload (show mE (mtv 243) 91 = some (.iload 5, 2, 0, 0) from rfl) (hl 5 _ rfl) ?_
      refine q_iaload (n := 6) th (show mE (mtv 243) 93 = some (.iaload, 1, 0, 0) from rfl) (by decide) rfl (fun bb36 => ?_)
      refine q_ishl (show mE (mtv 243) 94 = some (.ishl, 1, 0, 0) from rfl) ?_
      refine q_ior (show mE (mtv 243) 95 = some (.ior, 1, 0, 0) from rfl) ?_
      refine q_iastore (n := 6) th (show mE (mtv 243) 96 = some (.iastore, 1, 0, 0) from rfl) (by decide) rfl (fun bb37 h38 t39 => ?_)
      refine q_iload (show mE (mtv 243) 97 = some (.iload 4, 2, 0, 0) from rfl) (hl 4 _ rfl) ?_
      refine q_if_eq (t := 127) (show mE (mtv 243) 99 = some (.ifCond .eq 28, 3, 0, 0) from rfl) rfl (fun c40 => ?_) (fun c40 => ?_)
      · refine q_iconst (show mE (mtv 243) 127 = some (.iconst 0, 1, 0, 0) from rfl) kI_0 ?_
        refine q_istore (show mE (mtv 243) 128 = some (.istore 4, 2, 0, 0) from rfl) (Nat.le_of_ble_eq_true rfl) hl (fun lv41 (hl42 : qLs lv41 [some (.ref (85)), some (.int (x1)), some (.int (x2)), some (.int (x3)), some (.int ((0 : Int32))), some (.int (x5))]) => ?_)
        refine q_iinc (show mE (mtv 243) 130 = some (.iinc 5 1, 3, 0, 0) from rfl) (Nat.le_of_ble_eq_true rfl) hl42 (hl42 5 _ rfl) kI_1 (fun lv43 (hl44 : qLs lv43 [some (.ref (85)), some (.int (x1)), some (.int (x2)), some (.int (x3)), some (.int ((0 : Int32))), some (.int (x5 + (1 : Int32)))]) => ?_)
        refine q_goto (t := 65) (show mE (mtv 243) 133 = some (.goto (-68), 3, 0, 0) from rfl) rfl ?_
        exact p11 c1 c18 bb35 h38 t39 c40 lv43 (qLs_wk hl44 (⟨rfl, rfl, rfl, rfl, rfl, rfl, trivial⟩))
      · refine q_aload_n (show mE (mtv 243) 102 = some (.aload_n 0, 1, 0, 0) from rfl) (hl 0 _ rfl) ?_
        refine q_getR (m := 106) t39 (show mE (mtv 243) 103 = some (.getfield 71, 3, 9, 20) from rfl) (by decide) rfl rfl ?_
        refine q_iload (show mE (mtv 243) 106 = some (.iload 5, 2, 0, 0) from rfl) (hl 5 _ rfl) ?_
        refine q_iaload (n := 6) t39 (show mE (mtv 243) 108 = some (.iaload, 1, 0, 0) from rfl) (by decide) rfl (fun bb45 => ?_)
        have g46 : (upI I 106 ((x5).toNatClampNeg) ((I 106 ((x5).toNatClampNeg)) ||| ((1 : Int32) <<< ((I 91 ((x5).toNatClampNeg)) &&& 31)))) 106 (x5).toNatClampNeg = (I 106 ((x5).toNatClampNeg)) ||| ((1 : Int32) <<< ((I 91 ((x5).toNatClampNeg)) &&& 31)) := upI_s
        rw [g46]; clear g46
        refine q_aload_n (show mE (mtv 243) 109 = some (.aload_n 0, 1, 0, 0) from rfl) (hl 0 _ rfl) ?_
        refine q_getR (m := 91) t39 (show mE (mtv 243) 110 = some (.getfield 25, 3, 9, 5) from rfl) (by decide) rfl rfl ?_
        refine q_iload (show mE (mtv 243) 113 = some (.iload 5, 2, 0, 0) from rfl) (hl 5 _ rfl) ?_
        refine q_iaload (n := 6) t39 (show mE (mtv 243) 115 = some (.iaload, 1, 0, 0) from rfl) (by decide) rfl (fun bb47 => ?_)
        have g48 : (upI I 106 ((x5).toNatClampNeg) ((I 106 ((x5).toNatClampNeg)) ||| ((1 : Int32) <<< ((I 91 ((x5).toNatClampNeg)) &&& 31)))) 91 (x5).toNatClampNeg = I 91 ((x5).toNatClampNeg) := upI_n (Or.inl (by decide))
        rw [g48]; clear g48
        refine q_ishr (show mE (mtv 243) 116 = some (.ishr, 1, 0, 0) from rfl) ?_
        refine q_iconst (show mE (mtv 243) 117 = some (.iconst 1, 1, 0, 0) from rfl) kI_1 ?_
        refine q_iand (show mE (mtv 243) 118 = some (.iand, 1, 0, 0) from rfl) ?_
        rw [hs_is]
        refine q_iconst (show mE (mtv 243) 119 = some (.iconst 1, 1, 0, 0) from rfl) kI_1 ?_
        refine q_icb_ne (t := 127) (show mE (mtv 243) 120 = some (.if_icmp .ne 7, 3, 0, 0) from rfl) rfl (fun c49 => ?_) (fun c49 => ?_)
        · refine q_iconst (show mE (mtv 243) 127 = some (.iconst 0, 1, 0, 0) from rfl) kI_0 ?_
          refine q_istore (show mE (mtv 243) 128 = some (.istore 4, 2, 0, 0) from rfl) (Nat.le_of_ble_eq_true rfl) hl (fun lv50 (hl51 : qLs lv50 [some (.ref (85)), some (.int (x1)), some (.int (x2)), some (.int (x3)), some (.int ((0 : Int32))), some (.int (x5))]) => ?_)
          refine q_iinc (show mE (mtv 243) 130 = some (.iinc 5 1, 3, 0, 0) from rfl) (Nat.le_of_ble_eq_true rfl) hl51 (hl51 5 _ rfl) kI_1 (fun lv52 (hl53 : qLs lv52 [some (.ref (85)), some (.int (x1)), some (.int (x2)), some (.int (x3)), some (.int ((0 : Int32))), some (.int (x5 + (1 : Int32)))]) => ?_)
          refine q_goto (t := 65) (show mE (mtv 243) 133 = some (.goto (-68), 3, 0, 0) from rfl) rfl ?_
          exact p12 c1 c18 bb35 h38 t39 c40 c49 lv52 (qLs_wk hl53 (⟨rfl, rfl, rfl, rfl, rfl, rfl, trivial⟩))
        · refine q_iconst (show mE (mtv 243) 123 = some (.iconst 1, 1, 0, 0) from rfl) kI_1 ?_
          refine q_goto (t := 128) (show mE (mtv 243) 124 = some (.goto 4, 3, 0, 0) from rfl) rfl ?_
          refine q_istore (show mE (mtv 243) 128 = some (.istore 4, 2, 0, 0) from rfl) (Nat.le_of_ble_eq_true rfl) hl (fun lv54 (hl55 : qLs lv54 [some (.ref (85)), some (.int (x1)), some (.int (x2)), some (.int (x3)), some (.int ((1 : Int32))), some (.int (x5))]) => ?_)
          refine q_iinc (show mE (mtv 243) 130 = some (.iinc 5 1, 3, 0, 0) from rfl) (Nat.le_of_ble_eq_true rfl) hl55 (hl55 5 _ rfl) kI_1 (fun lv56 (hl57 : qLs lv56 [some (.ref (85)), some (.int (x1)), some (.int (x2)), some (.int (x3)), some (.int ((1 : Int32))), some (.int (x5 + (1 : Int32)))]) => ?_)
          refine q_goto (t := 65) (show mE (mtv 243) 133 = some (.goto (-68), 3, 0, 0) from rfl) rfl ?_
          exact p13 c1 c18 bb35 h38 t39 c40 c49 lv56 (qLs_wk hl57 (⟨rfl, rfl, rfl, rfl, rfl, rfl, trivial⟩))
theorem qg_243_164 {N : Nat} {lv : sL} {h : sH} {Q : sR → Prop} {x1 : Int32} {x2 : Int32} {x5 : Int32} {I : Nat → Nat → Int32} {L : Nat → Nat → Int64} {R : Nat → Nat} (th : qH h I L R) (hl : qLs lv [some (.ref (85)), some (.int (x1)), some (.int (x2)), none, none, some (.int (x5))])
    (p1 : ∀ (c1 : (I 85 35) ≤ x5), ∀ lv, qLs lv [some (.ref (85)), some (.int (x1)), some (.int (x2 + (1 : Int32))), none, none, none] → qW 243 N 2 lv [] h Q)
    (p2 : ∀ (c1 : ¬ (I 85 35) ≤ x5), ∀ (c4 : ¬ (comesB I x2 x5 = true)), ∀ lv, qLs lv [some (.ref (85)), some (.int (x1)), some (.int (x2)), none, none, some (.int (x5 + (1 : Int32)))] → qW 243 N 164 lv [] h Q)
    (p3 : ∀ (c1 : ¬ (I 85 35) ≤ x5), ∀ (c4 : comesB I x2 x5 = true), ∀ (bb7 : sIn x5 16 = true), ∀ (c8 : hs (I 88 ((x5).toNatClampNeg)) x2 = true), ∀ lv, qLs lv [some (.ref (85)), some (.int (x1)), some (.int (x2)), none, none, some (.int (x5 + (1 : Int32)))] → qW 243 N 164 lv [] h Q)
    (p4 : ∀ (c1 : ¬ (I 85 35) ≤ x5), ∀ (c4 : comesB I x2 x5 = true), ∀ (bb7 : sIn x5 16 = true), ∀ (c8 : ¬ (hs (I 88 ((x5).toNatClampNeg)) x2 = true)), Q (.inl (some (.int ((0 : Int32)))), h)) : qW 243 (N + 1) 164 lv [] h Q := by
  refine q1_iload (show mE (mtv 243) 164 = some (.iload 5, 2, 0, 0) from rfl) (hl 5 _ rfl) ?_
  refine q_aload_n (show mE (mtv 243) 166 = some (.aload_n 0, 1, 0, 0) from rfl) (hl 0 _ rfl) ?_
  refine q_getI th (show mE (mtv 243) 167 = some (.getfield 117, 3, 9, 35) from rfl) (by decide) rfl ?_
  refine q_ic_ge (t := 205) (show mE (mtv 243) 170 = some (.if_icmp .ge 35, 3, 0, 0) from rfl) rfl (fun c1 => ?_) (fun c1 => ?_)
  · refine q_iinc (show mE (mtv 243) 205 = some (.iinc 2 1, 3, 0, 0) from rfl) (Nat.le_of_ble_eq_true rfl) hl (hl 2 _ rfl) kI_1 (fun lv2 (hl3 : qLs lv2 [some (.ref (85)), some (.int (x1)), some (.int (x2 + (1 : Int32))), none, none, some (.int (x5))]) => ?_)
    refine q_goto (t := 2) (show mE (mtv 243) 208 = some (.goto (-206), 3, 0, 0) from rfl) rfl ?_
    exact p1 c1 lv2 (qLs_wk hl3 (⟨rfl, rfl, rfl, trivial⟩))
  · refine q_aload_n (show mE (mtv 243) 173 = some (.aload_n 0, 1, 0, 0) from rfl) (hl 0 _ rfl) ?_
    refine q_iload_n (show mE (mtv 243) 174 = some (.iload_n 2, 1, 0, 0) from rfl) (hl 2 _ rfl) ?_
    refine q_iload (show mE (mtv 243) 175 = some (.iload 5, 2, 0, 0) from rfl) (hl 5 _ rfl) ?_
    refine q_virtualP (show mE (mtv 243) 177 = some (.invokevirtual 202, 3, 233, 9) from rfl) (by decide) rfl rfl rfl (fun _ g => sp_233 th g) ?_
    refine q_ifb_eq (t := 199) (show mE (mtv 243) 180 = some (.ifCond .eq 19, 3, 0, 0) from rfl) rfl (fun c4 => ?_) (fun c4 => ?_)
    · refine q_iinc (show mE (mtv 243) 199 = some (.iinc 5 1, 3, 0, 0) from rfl) (Nat.le_of_ble_eq_true rfl) hl (hl 5 _ rfl) kI_1 (fun lv5 (hl6 : qLs lv5 [some (.ref (85)), some (.int (x1)), some (.int (x2)), none, none, some (.int (x5 + (1 : Int32)))]) => ?_)
      refine q_goto (t := 164) (show mE (mtv 243) 202 = some (.goto (-38), 3, 0, 0) from rfl) rfl ?_
      exact p2 c1 c4 lv5 (qLs_wk hl6 (⟨rfl, rfl, rfl, rfl, trivial⟩))
    · refine q_aload_n (show mE (mtv 243) 183 = some (.aload_n 0, 1, 0, 0) from rfl) (hl 0 _ rfl) ?_
      refine q_getR (m := 88) th (show mE (mtv 243) 184 = some (.getfield 16, 3, 9, 2) from rfl) (by decide) rfl rfl ?_
      refine q_iload (show mE (mtv 243) 187 = some (.iload 5, 2, 0, 0) from rfl) (hl 5 _ rfl) ?_
      refine q_iaload (n := 16) th (show mE (mtv 243) 189 = some (.iaload, 1, 0, 0) from rfl) (by decide) rfl (fun bb7 => ?_)
      refine q_iload_n (show mE (mtv 243) 190 = some (.iload_n 2, 1, 0, 0) from rfl) (hl 2 _ rfl) ?_
      refine q_ishr (show mE (mtv 243) 191 = some (.ishr, 1, 0, 0) from rfl) ?_
      refine q_iconst (show mE (mtv 243) 192 = some (.iconst 1, 1, 0, 0) from rfl) kI_1 ?_
      refine q_iand (show mE (mtv 243) 193 = some (.iand, 1, 0, 0) from rfl) ?_
      rw [hs_is]
      refine q_ifb_ne (t := 199) (show mE (mtv 243) 194 = some (.ifCond .ne 5, 3, 0, 0) from rfl) rfl (fun c8 => ?_) (fun c8 => ?_)
      · refine q_iinc (show mE (mtv 243) 199 = some (.iinc 5 1, 3, 0, 0) from rfl) (Nat.le_of_ble_eq_true rfl) hl (hl 5 _ rfl) kI_1 (fun lv9 (hl10 : qLs lv9 [some (.ref (85)), some (.int (x1)), some (.int (x2)), none, none, some (.int (x5 + (1 : Int32)))]) => ?_)
        refine q_goto (t := 164) (show mE (mtv 243) 202 = some (.goto (-38), 3, 0, 0) from rfl) rfl ?_
        exact p3 c1 c4 bb7 c8 lv9 (qLs_wk hl10 (⟨rfl, rfl, rfl, rfl, trivial⟩))
      · refine q_iconst (show mE (mtv 243) 197 = some (.iconst 0, 1, 0, 0) from rfl) kI_0 ?_
        refine q_ireturn (show mE (mtv 243) 198 = some (.ireturn, 1, 0, 0) from rfl) ?_
        exact p4 c1 c4 bb7 c8
/-- the loops of the check of all doors -/
def QQ (I : Nat → Nat → Int32) (L : Nat → Nat → Int64) (R : Nat → Nat) (D : Int32) (t : Nat → Nat) (H : Prop) (r : sR) : Prop := ∃ v J h1, r = (.inl (some (.int v)), h1) ∧ qH h1 J L R ∧ (H → agr 106 J I ∧ (¬ v = 0 ↔ clnM I D t))
def HH (I : Nat → Nat → Int32) (t : Nat → Nat) : Prop := MI I ∧ ∀ c, c < ncI I → I 91 c = Int32.ofNat (t c) ∧ t c < 8
def inv2 (I : Nat → Nat → Int32) (D : Int32) (t : Nat → Nat) (J : Nat → Nat → Int32) (x2 : Int32) : Prop := ∃ d, x2 = Int32.ofNat d ∧ d ≤ ndI I ∧ agr 106 J I ∧ ∀ d', d' < d → clnD I D t d'
def inv65 (I : Nat → Nat → Int32) (D : Int32) (t : Nat → Nat) (J : Nat → Nat → Int32) (x2 x3 x4 x5 : Int32) : Prop := ∃ d j, x2 = Int32.ofNat d ∧ d < ndI I ∧ x5 = Int32.ofNat j ∧ j ≤ ncI I ∧ agr 106 J I ∧ (∀ d', d' < d → clnD I D t d') ∧ x3 = b2 (tb D d = true) ∧ cl1 I D d ∧ (∀ c e, c < ncI I → e < 8 → (tb (J 106 c) e = true ↔ pinQ I d c e ∨ (tb D d = true ∧ c < j ∧ t c = e))) ∧ (∀ c e, c < ncI I → 8 ≤ e → tb (J 106 c) e = false) ∧ (¬ x4 = 0 ↔ fB I d ∧ ∀ c, c < j → pq I D t d c (t c))
def inv164 (I : Nat → Nat → Int32) (D : Int32) (t : Nat → Nat) (J : Nat → Nat → Int32) (x2 x5 : Int32) : Prop := ∃ d k, x2 = Int32.ofNat d ∧ d < ndI I ∧ x5 = Int32.ofNat k ∧ k ≤ nkI I ∧ agr 106 J I ∧ (∀ d', d' < d → clnD I D t d') ∧ cl1 I D d ∧ cl2 I D t d ∧ cl3 I D t d ∧ (∀ c e, c < ncI I → e < 8 → (tb (J 106 c) e = true ↔ pq I D t d c e)) ∧ ∀ k', k' < k → cl4 I D t d k'
theorem pinQ_8 {I : Nat → Nat → Int32} (hm : MI I) {d c e : Nat} (hc : c < ncI I) (h : pinQ I d c e) (he : e < 2147483648) : e < 8 := by
  obtain ⟨i, h1, h2, h3⟩ := h
  obtain ⟨e', q1, q2⟩ := hm.dep8 i c h1 hc
  rw [q2] at h3
  have := (oN_inj (by omega) he).mp h3
  omega
/-- who comes in, with the tried key -/
theorem come_Q {I J : Nat → Nat → Int32} {D : Int32} {t : Nat → Nat} (hm : MI I) {d k : Nat} (hd : d < 10) (hk : k < nkI I) (ha : agr 106 J I) (hp : ∀ c e, c < ncI I → e < 8 → (tb (J 106 c) e = true ↔ pq I D t d c e)) : comesB J (Int32.ofNat d) (Int32.ofNat k) = true ↔ (I 95 k &&& I 97 d) = 0 ∧ ∀ c, c < ncI I → pq I D t d c (dpM I k c) := by
  have hkb := hm.kb
  have h6 := hm.c6
  unfold comesB inB
  rw [Bool.and_eq_true, decide_eq_true_eq, ofN_clamp (by omega), ofN_clamp (by omega), ha 95 k (by decide), ha 97 d (by decide), List.all_eq_true, ha 85 31 (by decide)]
  refine and_congr_right (fun _ => ?_)
  have one : ∀ c, c < ncI I → (hs (J 106 c) (J 86 ((6 : Int32) * Int32.ofNat k + Int32.ofNat c).toNatClampNeg) = true ↔ pq I D t d c (dpM I k c)) := fun c hc => by
    obtain ⟨e, he, q⟩ := hm.dep8 k c hk hc
    rw [oN_6, ofN_clamp (by omega), ha 86 _ (by decide), q, hs_oN (by omega)]
    have : dpM I k c = e := by unfold dpM; rw [q, ofN_clamp (by omega)]
    rw [this]
    exact hp c e hc he
  exact ⟨fun q c hc => (one c hc).mp (q c (List.mem_range.mpr hc)), fun q c hc => (one c (List.mem_range.mp hc)).mpr (q c (List.mem_range.mp hc))⟩
theorem lk_243 {I : Nat → Nat → Int32} {L : Nat → Nat → Int64} {R : Nat → Nat} {D : Int32} {t : Nat → Nat} : ∀ N : Nat,
    (∀ J x2 lv h, qH h J L R → (HH I t → inv2 I D t J x2) → qLs lv [some (.ref (85)), some (.int (D)), some (.int (x2)), none, none, none] → qW 243 N 2 lv [] h (QQ I L R D t (HH I t))) ∧
    (∀ J x2 x3 x4 x5 lv h, qH h J L R → (HH I t → inv65 I D t J x2 x3 x4 x5) → qLs lv [some (.ref (85)), some (.int (D)), some (.int (x2)), some (.int (x3)), some (.int (x4)), some (.int (x5))] → qW 243 N 65 lv [] h (QQ I L R D t (HH I t))) ∧
    (∀ J x2 x5 lv h, qH h J L R → (HH I t → inv164 I D t J x2 x5) → qLs lv [some (.ref (85)), some (.int (D)), some (.int (x2)), none, none, some (.int (x5))] → qW 243 N 164 lv [] h (QQ I L R D t (HH I t))) := by
  intro N
  induction N with
  | zero => exact ⟨fun _ _ _ _ _ _ _ => qW_0, fun _ _ _ _ _ _ _ _ _ _ => qW_0, fun _ _ _ _ _ _ _ _ => qW_0⟩
  | succ N ih =>
    obtain ⟨ih2, ih65, ih164⟩ := ih
    refine ⟨?_, ?_, ?_⟩
    · intro J x2 lv h th hi hl
      have go : HH I t → ¬ J 85 36 ≤ x2 → ∃ d, x2 = Int32.ofNat d ∧ d < ndI I ∧ agr 106 J I ∧ ∀ d', d' < d → clnD I D t d' := fun hh c1 => by
        obtain ⟨d, e1, e2, e3, e4⟩ := hi hh
        have hm := hh.1
        have hdb := hm.db
        rw [e3 85 36 (by decide), e1, hm.d] at c1
        have := mt (oN_le (by omega) (by omega)).mpr c1
        exact ⟨d, e1, by omega, e3, e4⟩
      have lay : HH I t → ∀ d J', d < ndI I → agr 106 J I → layP J (Int32.ofNat d) J' → agr 106 J' I ∧ (∀ c e, c < ncI I → e < 32 → (tb (J' 106 c) e = true ↔ pinQ I d c e)) := fun hh d J' hd ha e => by
        have hm := hh.1
        have hdb := hm.db
        have h6 := hm.c6
        have a2 := MI_S (agS_r ha) hm
        obtain ⟨b1, b3⟩ := lay_get a2 (show d < 32 by omega) e
        have ek : nkI J = nkI I := nkI_S (agS_r ha)
        have ec : ncI J = ncI I := by unfold ncI; rw [ha 85 31 (by decide)]
        refine ⟨fun a b q => (b1 a b q).trans (ha a b q), fun c e' hc he => ?_⟩
        rw [b3 c e' (by omega) he, ek, ec]
        unfold pinQ
        constructor
        · rintro ⟨i, _, q2, q3, q4⟩
          rw [ha 88 i (by decide)] at q3
          rw [ha 86 _ (by decide)] at q4
          exact ⟨i, q2, q3, q4⟩
        · rintro ⟨i, q2, q3, q4⟩
          refine ⟨i, .inl ⟨q2, hc⟩, q2, ?_, ?_⟩
          · rw [ha 88 i (by decide)]; exact q3
          · rw [ha 86 _ (by decide)]; exact q4
      have high : HH I t → ∀ (d : Nat) (J' : Nat → Nat → Int32), (∀ c e, c < ncI I → e < 32 → (tb (J' 106 c) e = true ↔ pinQ I d c e)) → ∀ c e, c < ncI I → 8 ≤ e → tb (J' 106 c) e = false := fun hh d J' hp c e hc he => by
        by_cases g : e < 32
        · refine Bool.eq_false_iff.mpr (fun q => ?_)
          have := pinQ_8 hh.1 hc ((hp c e hc g).mp q) (by omega)
          omega
        · exact tb_ge (by omega)
      have to65 : ∀ J' h' lv' x3 x4 (P : Prop), qH h' J' L R → layP J x2 J' → ¬ J 85 36 ≤ x2 → (HH I t → ∀ d, x2 = Int32.ofNat d → d < ndI I → agr 106 J' I → (x3 = b2 (tb D d = true)) ∧ cl1 I D d ∧ (¬ x4 = 0 ↔ fB I d)) → qLs lv' [some (.ref (85)), some (.int (D)), some (.int (x2)), some (.int (x3)), some (.int (x4)), some (.int ((0 : Int32)))] → qW 243 N 65 lv' [] h' (QQ I L R D t (HH I t)) := fun J' h' lv' x3 x4 P t' e c1 hx hl' => by
        refine ih65 J' x2 x3 x4 0 lv' h' t' (fun hh => ?_) hl'
        obtain ⟨d, e1, e2, e3, e4⟩ := go hh c1
        rw [e1] at e
        obtain ⟨b1, b3⟩ := lay hh d J' e2 e3 e
        obtain ⟨f1, f2, f3⟩ := hx hh d e1 e2 b1
        refine ⟨d, 0, e1, e2, rfl, Nat.zero_le _, b1, e4, f1, f2, fun c e' hc he => ?_, high hh d J' b3, ?_⟩
        · rw [b3 c e' hc (by omega)]
          exact ⟨Or.inl, fun q => q.elim id (fun z => absurd z.2.1 (Nat.not_lt_zero c))⟩
        · rw [f3]
          exact ⟨fun q => ⟨q, fun c hc => absurd hc (Nat.not_lt_zero c)⟩, fun q => q.1⟩
      have at97 : HH I t → ∀ d J', x2 = Int32.ofNat d → d < ndI I → agr 106 J' I → (J' 85 43 &&& J' 97 x2.toNatClampNeg) = I 85 43 &&& I 97 d := fun hh d J' e1 e2 ha => by
        have hdb := hh.1.db
        rw [e1, ofN_clamp (by omega), ha 85 43 (by decide), ha 97 d (by decide)]
      have hsD : HH I t → ∀ d, x2 = Int32.ofNat d → d < ndI I → hs D x2 = tb D d := fun hh d e1 e2 => by
        have hdb := hh.1.db
        rw [e1, hs_oN (by omega)]
      refine qg_243_2 th hl (fun c1 => ⟨1, J, h, rfl, th, fun hh => ?_⟩) (fun c1 J' h' t' e c6 _ c10 lv' hl' => ?_) (fun c1 J' h' t' e c6 _ c10 lv' hl' => ?_) (fun c1 J' h' t' e c6 _ c10 => ⟨0, J', h', rfl, t', fun hh => ?_⟩) (fun c1 J' h' t' e c6 _ c10 lv' hl' => ?_)
      · obtain ⟨d, e1, e2, e3, e4⟩ := hi hh
        have hm := hh.1
        have hdb := hm.db
        rw [e3 85 36 (by decide), e1, hm.d] at c1
        have := (oN_le (by omega) (by omega)).mp c1
        exact ⟨e3, ⟨fun _ d' hd' => e4 d' (by omega), fun _ => by decide⟩⟩
      · refine to65 J' h' lv' 0 0 True t' e c1 (fun hh d e1 e2 ha => ?_) hl'
        rw [hsD hh d e1 e2] at c6
        rw [at97 hh d J' e1 e2 ha] at c10
        exact ⟨(b2_f c6).symm, fun q => absurd q c6, ⟨fun q => absurd rfl q, fun q => absurd q c10⟩⟩
      · refine to65 J' h' lv' 0 1 True t' e c1 (fun hh d e1 e2 ha => ?_) hl'
        rw [hsD hh d e1 e2] at c6
        rw [at97 hh d J' e1 e2 ha] at c10
        exact ⟨(b2_f c6).symm, fun q => absurd q c6, ⟨fun _ => c10, fun _ => by decide⟩⟩
      · obtain ⟨d, e1, e2, e3, e4⟩ := go hh c1
        have e' := e
        rw [e1] at e'
        obtain ⟨b1, b3⟩ := lay hh d J' e2 e3 e'
        rw [hsD hh d e1 e2] at c6
        rw [at97 hh d J' e1 e2 b1] at c10
        exact ⟨b1, ⟨fun q => absurd rfl q, fun q => absurd ((q d e2).1 c6) c10⟩⟩
      · refine to65 J' h' lv' 1 1 True t' e c1 (fun hh d e1 e2 ha => ?_) hl'
        rw [hsD hh d e1 e2] at c6
        rw [at97 hh d J' e1 e2 ha] at c10
        exact ⟨(b2_t c6).symm, fun _ => c10, ⟨fun _ => c10, fun _ => by decide⟩⟩
    · intro J x2 x3 x4 x5 lv h th hi hl
      have x3i : ∀ d, x3 = b2 (tb D d = true) → (x3 = 0 ↔ tb D d = false) := fun d e => by
        rw [e]
        cases g : tb D d with
        | true => exact ⟨fun q => absurd q (by decide), fun q => (by cases q)⟩
        | false => exact ⟨fun _ => rfl, fun _ => rfl⟩
      -- all chambers are through
      have done : HH I t → J 85 31 ≤ x5 → ∃ d, x2 = Int32.ofNat d ∧ d < ndI I ∧ agr 106 J I ∧ (∀ d', d' < d → clnD I D t d') ∧ x3 = b2 (tb D d = true) ∧ cl1 I D d ∧ (∀ c e, c < ncI I → e < 8 → (tb (J 106 c) e = true ↔ pq I D t d c e)) ∧ (∀ c e, c < ncI I → 8 ≤ e → tb (J 106 c) e = false) ∧ (¬ x4 = 0 ↔ fB I d ∧ ∀ c, c < ncI I → pq I D t d c (t c)) := fun hh c1 => by
        obtain ⟨d, j, e1, e2, e3, e4, e5, e6, e7, e8, e9, e10, e11⟩ := hi hh
        have hm := hh.1
        have h6 := hm.c6
        rw [e5 85 31 (by decide), e3, hm.c] at c1
        have := (oN_le (by omega) (by omega)).mp c1
        have ej : j = ncI I := by omega
        rw [ej] at e9 e11
        refine ⟨d, e1, e2, e5, e6, e7, e8, fun c e hc he => (e9 c e hc he).trans ?_, e10, e11⟩
        unfold pq
        exact ⟨fun q => q.elim Or.inl (fun z => .inr ⟨z.1, z.2.2⟩), fun q => q.elim Or.inl (fun z => .inr ⟨z.1, hc, z.2⟩)⟩
      have thin : HH I t → ∀ d, agr 106 J I → (∀ c e, c < ncI I → e < 8 → (tb (J 106 c) e = true ↔ pq I D t d c e)) → (∀ c e, c < ncI I → 8 ≤ e → tb (J 106 c) e = false) → (G_244 J 0 0 (J 85 31).toNatClampNeg ≤ 0 ↔ ∀ c, c < ncI I → ∀ e, e < 8 → ¬ (pq I D t d c e ∧ pq I D t d c (e + 1))) := fun hh d ha hp hz => by
        have hm := hh.1
        have h6 := hm.c6
        rw [ha 85 31 (by decide), show (I 85 31).toNatClampNeg = ncI I from rfl, thin_0 (by omega)]
        refine forall_congr' (fun c => imp_congr_right (fun hc => ?_))
        rw [thin_b (fun e he => hz c e hc he)]
        have lt8 : ∀ e, e < 9 → pq I D t d c e → e < 8 := fun e he q => by
          rcases q with q | q
          · exact pinQ_8 hm hc q (by omega)
          · have := (hh.2 c hc).2
            omega
        constructor
        · intro q e he ⟨q1, q2⟩
          exact q e ⟨(hp c e hc he).mpr q1, (hp c (e + 1) hc (lt8 (e + 1) (by omega) q2)).mpr q2⟩
        · intro q e ⟨q1, q2⟩
          have h1 : e < 8 := by
            apply Decidable.of_not_not
            intro n
            rw [hz c e hc (by omega)] at q1
            cases q1
          have h2 : e + 1 < 8 := by
            apply Decidable.of_not_not
            intro n
            rw [hz c (e + 1) hc (by omega)] at q2
            cases q2
          exact q e h1 ⟨(hp c e hc h1).mp q1, (hp c (e + 1) hc h2).mp q2⟩
      have to164 : ∀ lv', J 85 31 ≤ x5 → (HH I t → ∀ d, d < ndI I → agr 106 J I → x3 = b2 (tb D d = true) → (¬ x4 = 0 ↔ fB I d ∧ ∀ c, c < ncI I → pq I D t d c (t c)) → (G_244 J 0 0 (J 85 31).toNatClampNeg ≤ 0 ↔ ∀ c, c < ncI I → ∀ e, e < 8 → ¬ (pq I D t d c e ∧ pq I D t d c (e + 1))) → cl2 I D t d ∧ cl3 I D t d) → qLs lv' [some (.ref (85)), some (.int (D)), some (.int (x2)), none, none, some (.int ((0 : Int32)))] → qW 243 N 164 lv' [] h (QQ I L R D t (HH I t)) := fun lv' c1 hx hl' => by
        refine ih164 J x2 0 lv' h th (fun hh => ?_) hl'
        obtain ⟨d, e1, e2, e3, e4, e5, e6, e7, e8, e9⟩ := done hh c1
        obtain ⟨f1, f2⟩ := hx hh d e2 e3 e5 e9 (thin hh d e3 e7 e8)
        exact ⟨d, 0, e1, e2, rfl, Nat.zero_le _, e3, e4, e6, f1, f2, e7, fun k' hk => absurd hk (Nat.not_lt_zero k')⟩
      have amiss : J 85 31 ≤ x5 → (HH I t → ∀ d, d < ndI I → agr 106 J I → x3 = b2 (tb D d = true) → (¬ x4 = 0 ↔ fB I d ∧ ∀ c, c < ncI I → pq I D t d c (t c)) → (G_244 J 0 0 (J 85 31).toNatClampNeg ≤ 0 ↔ ∀ c, c < ncI I → ∀ e, e < 8 → ¬ (pq I D t d c e ∧ pq I D t d c (e + 1))) → cl2 I D t d → ¬ cl3 I D t d) → QQ I L R D t (HH I t) (.inl (some (.int ((0 : Int32)))), h) := fun c1 hx => ⟨0, J, h, rfl, th, fun hh => by
        obtain ⟨d, e1, e2, e3, e4, e5, e6, e7, e8, e9⟩ := done hh c1
        exact ⟨e3, ⟨fun q => absurd rfl q, fun q => absurd (q d e2).2.2.1 (hx hh d e2 e3 e5 e9 (thin hh d e3 e7 e8) (q d e2).2.1)⟩⟩⟩
      have c2a : ∀ d, x4 = 0 → (¬ x4 = 0 ↔ fB I d ∧ ∀ c, c < ncI I → pq I D t d c (t c)) → cl2 I D t d := fun d c2 e9 q => e9.mpr ⟨q.2.1, fun c hc => .inl (q.2.2 c hc)⟩ c2
      have c2b : ∀ d, ¬ x3 = 0 → x3 = b2 (tb D d = true) → cl2 I D t d := fun d c10 e5 q => c10 ((x3i d e5).mpr q.1)
      have a47 : agr 106 J I → J 85 47 = I 85 47 := fun ha => ha 85 47 (by decide)
      -- the next chamber
      have nx : ∀ J' h' lv' w, qH h' J' L R → ¬ J 85 31 ≤ x5 → (HH I t → ∀ d j, x5 = Int32.ofNat j → j < ncI I → d < ndI I → x3 = b2 (tb D d = true) → (¬ x4 = 0 ↔ fB I d ∧ ∀ c, c < j → pq I D t d c (t c)) → agr 106 J I → (∀ c e, c < ncI I → e < 8 → (tb (J 106 c) e = true ↔ pinQ I d c e ∨ (tb D d = true ∧ c < j ∧ t c = e))) → (∀ c e, c < ncI I → 8 ≤ e → tb (J 106 c) e = false) → agr 106 J' I ∧ (∀ c e, c < ncI I → e < 8 → (tb (J' 106 c) e = true ↔ pinQ I d c e ∨ (tb D d = true ∧ c < j + 1 ∧ t c = e))) ∧ (∀ c e, c < ncI I → 8 ≤ e → tb (J' 106 c) e = false) ∧ (¬ w = 0 ↔ ¬ x4 = 0 ∧ pq I D t d j (t j))) →
          qLs lv' [some (.ref (85)), some (.int (D)), some (.int (x2)), some (.int (x3)), some (.int (w)), some (.int (x5 + (1 : Int32)))] → qW 243 N 65 lv' [] h' (QQ I L R D t (HH I t)) := fun J' h' lv' w t' c1 hx hl' => by
        refine ih65 J' x2 x3 w (x5 + 1) lv' h' t' (fun hh => ?_) hl'
        obtain ⟨d, j, e1, e2, e3, e4, e5, e6, e7, e8, e9, e10, e11⟩ := hi hh
        have hm := hh.1
        have h6 := hm.c6
        rw [e5 85 31 (by decide), e3, hm.c] at c1
        have := mt (oN_le (by omega) (by omega)).mpr c1
        obtain ⟨f1, f2, f3, f4⟩ := hx hh d j e3 (by omega) e2 e7 e11 e5 e9 e10
        refine ⟨d, j + 1, e1, e2, by rw [e3, oN_s], by omega, f1, e6, e7, e8, f2, f3, f4.trans ?_⟩
        rw [e11]
        constructor
        · rintro ⟨⟨q1, q2⟩, q3⟩
          refine ⟨q1, fun c hc => ?_⟩
          by_cases e : c = j
          · rw [e]; exact q3
          · exact q2 c (by omega)
        · rintro ⟨q1, q2⟩
          exact ⟨⟨q1, fun c hc => q2 c (by omega)⟩, q2 j (by omega)⟩
      have same : HH I t → ∀ d j, x5 = Int32.ofNat j → j < ncI I → d < ndI I → x3 = 0 → x3 = b2 (tb D d = true) → agr 106 J I → (∀ c e, c < ncI I → e < 8 → (tb (J 106 c) e = true ↔ pinQ I d c e ∨ (tb D d = true ∧ c < j ∧ t c = e))) → (∀ c e, c < ncI I → 8 ≤ e → tb (J 106 c) e = false) → agr 106 J I ∧ (∀ c e, c < ncI I → e < 8 → (tb (J 106 c) e = true ↔ pinQ I d c e ∨ (tb D d = true ∧ c < j + 1 ∧ t c = e))) ∧ (∀ c e, c < ncI I → 8 ≤ e → tb (J 106 c) e = false) := fun hh d j e3 hj hd c18 e7 e5 e9 e10 => by
        have f := (x3i d e7).mp c18
        refine ⟨e5, fun c e hc he => (e9 c e hc he).trans ?_, e10⟩
        rw [f]
        simp only [Bool.false_eq_true, false_and]
      have bit : HH I t → ∀ d j, x5 = Int32.ofNat j → j < ncI I → x3 = 0 → x3 = b2 (tb D d = true) → agr 106 J I → (∀ c e, c < ncI I → e < 8 → (tb (J 106 c) e = true ↔ pinQ I d c e ∨ (tb D d = true ∧ c < j ∧ t c = e))) → (hs (J 106 x5.toNatClampNeg) (J 91 x5.toNatClampNeg) = true ↔ pq I D t d j (t j)) := fun hh d j e3 hj c18 e7 e5 e9 => by
        have h6 := hh.1.c6
        obtain ⟨g1, g2⟩ := hh.2 j hj
        have f := (x3i d e7).mp c18
        rw [e3, ofN_clamp (by omega), e5 91 j (by decide), g1, hs_oN (by omega), e9 j (t j) hj g2, f]
        unfold pq
        simp only [f, Bool.false_eq_true, false_and]
      -- the tried key's pin is laid, too
      have laid : ∀ x, HH I t → ∀ d j, x5 = Int32.ofNat j → j < ncI I → ¬ x3 = 0 → x3 = b2 (tb D d = true) → agr 106 J I → (∀ c e, c < ncI I → e < 8 → (tb (J 106 c) e = true ↔ pinQ I d c e ∨ (tb D d = true ∧ c < j ∧ t c = e))) → (∀ c e, c < ncI I → 8 ≤ e → tb (J 106 c) e = false) → x = (J 106 x5.toNatClampNeg) ||| ((1 : Int32) <<< ((J 91 x5.toNatClampNeg) &&& 31)) → agr 106 (upI J 106 x5.toNatClampNeg x) I ∧ (∀ c e, c < ncI I → e < 8 → (tb (upI J 106 x5.toNatClampNeg x 106 c) e = true ↔ pinQ I d c e ∨ (tb D d = true ∧ c < j + 1 ∧ t c = e))) ∧ (∀ c e, c < ncI I → 8 ≤ e → tb (upI J 106 x5.toNatClampNeg x 106 c) e = false) ∧ hs x (J 91 x5.toNatClampNeg) = true := fun x hh d j e3 hj c18 e7 e5 e9 e10 ex => by
        have h6 := hh.1.c6
        obtain ⟨g1, g2⟩ := hh.2 j hj
        have f : tb D d = true := by
          cases g : tb D d with
          | true => rfl
          | false => exact absurd ((x3i d e7).mpr g) c18
        have bx : ∀ e, tb x e = (tb (J 106 j) e || decide (e = t j)) := fun e => by
          rw [ex, e3, ofN_clamp (by omega), e5 91 j (by decide), g1, tb_or, tb_shl, shD_nat (by omega)]
        rw [e3, ofN_clamp (by omega)]
        refine ⟨agr_up e5 _ _, fun c e hc he => ?_, fun c e hc he => ?_, ?_⟩
        · by_cases ec : c = j
          · subst ec
            rw [upI_s, bx, Bool.or_eq_true, e9 c e hc he, decide_eq_true_eq]
            constructor
            · rintro ((q | q) | q)
              · exact .inl q
              · exact .inr ⟨q.1, by omega, q.2.2⟩
              · exact .inr ⟨f, by omega, q.symm⟩
            · rintro (q | q)
              · exact .inl (.inl q)
              · exact .inr q.2.2.symm
          · rw [upI_ne (fun q => ec q.2), e9 c e hc he]
            constructor
            · rintro (q | q)
              · exact .inl q
              · exact .inr ⟨q.1, by omega, q.2.2⟩
            · rintro (q | q)
              · exact .inl q
              · exact .inr ⟨q.1, by omega, q.2.2⟩
        · by_cases ec : c = j
          · subst ec
            rw [upI_s, bx, e10 c e hc he, decide_eq_false (by omega)]; rfl
          · rw [upI_ne (fun q => ec q.2)]; exact e10 c e hc he
        · rw [e5 91 j (by decide), g1, hs_oN (by omega), bx, decide_eq_true rfl, Bool.or_true]
      refine qg_243_65 th hl (fun c1 c2 _ c4 lv' hl' => to164 lv' c1 (fun hh d hd ha e5 e9 et => ⟨c2a d c2 e9, fun q => absurd ((a47 ha).trans q) c4⟩) hl') (fun c1 c2 _ c4 c7 lv' hl' => to164 lv' c1 (fun hh d hd ha e5 e9 et => ⟨c2a d c2 e9, fun _ => et.mp c7⟩) hl') (fun c1 c2 _ c4 c7 => amiss c1 (fun hh d hd ha e5 e9 et _ q => c7 (et.mpr (q ((a47 ha).symm.trans c4))))) (fun c1 c2 c10 => amiss c1 (fun hh d hd ha e5 e9 et q2 _ => q2 ⟨(x3i d e5).mp c10, (e9.mp c2).1, fun c hc => ((e9.mp c2).2 c hc).resolve_right (fun z => by rw [(x3i d e5).mp c10] at z; cases z.1)⟩)) (fun c1 c2 c10 _ c12 lv' hl' => to164 lv' c1 (fun hh d hd ha e5 e9 et => ⟨c2b d c10 e5, fun q => absurd ((a47 ha).trans q) c12⟩) hl') (fun c1 c2 c10 _ c12 c15 lv' hl' => to164 lv' c1 (fun hh d hd ha e5 e9 et => ⟨c2b d c10 e5, fun _ => et.mp c15⟩) hl') (fun c1 c2 c10 _ c12 c15 => amiss c1 (fun hh d hd ha e5 e9 et _ q => c15 (et.mpr (q ((a47 ha).symm.trans c12))))) (fun c1 c18 c19 lv' hl' => nx J h lv' 0 th c1 (fun hh d j e3 hj hd e7 e11 e5 e9 e10 => ?_) hl') (fun c1 c18 c19 _ c26 lv' hl' => nx J h lv' 0 th c1 (fun hh d j e3 hj hd e7 e11 e5 e9 e10 => ?_) hl') (fun c1 c18 c19 _ c26 lv' hl' => nx J h lv' 1 th c1 (fun hh d j e3 hj hd e7 e11 e5 e9 e10 => ?_) hl') (fun c1 c18 _ h' t' c40 lv' hl' => nx _ h' lv' 0 t' c1 (fun hh d j e3 hj hd e7 e11 e5 e9 e10 => ?_) hl') (fun c1 c18 _ h' t' c40 c49 lv' hl' => nx _ h' lv' 0 t' c1 (fun hh d j e3 hj hd e7 e11 e5 e9 e10 => ?_) hl') (fun c1 c18 _ h' t' c40 c49 lv' hl' => nx _ h' lv' 1 t' c1 (fun hh d j e3 hj hd e7 e11 e5 e9 e10 => ?_) hl')
      · obtain ⟨f1, f2, f3⟩ := same hh d j e3 hj hd c18 e7 e5 e9 e10
        exact ⟨f1, f2, f3, ⟨fun q => absurd rfl q, fun q => absurd c19 q.1⟩⟩
      · obtain ⟨f1, f2, f3⟩ := same hh d j e3 hj hd c18 e7 e5 e9 e10
        exact ⟨f1, f2, f3, ⟨fun q => absurd rfl q, fun q => absurd ((bit hh d j e3 hj c18 e7 e5 e9).mpr q.2) c26⟩⟩
      · obtain ⟨f1, f2, f3⟩ := same hh d j e3 hj hd c18 e7 e5 e9 e10
        exact ⟨f1, f2, f3, ⟨fun _ => ⟨c19, (bit hh d j e3 hj c18 e7 e5 e9).mp c26⟩, fun _ => by decide⟩⟩
      · obtain ⟨f1, f2, f3, f4⟩ := laid _ hh d j e3 hj c18 e7 e5 e9 e10 rfl
        exact ⟨f1, f2, f3, ⟨fun q => absurd rfl q, fun q => absurd c40 q.1⟩⟩
      · obtain ⟨f1, f2, f3, f4⟩ := laid _ hh d j e3 hj c18 e7 e5 e9 e10 rfl
        exact absurd f4 c49
      · obtain ⟨f1, f2, f3, f4⟩ := laid _ hh d j e3 hj c18 e7 e5 e9 e10 rfl
        refine ⟨f1, f2, f3, ⟨fun _ => ⟨c40, .inr ⟨?_, rfl⟩⟩, fun _ => by decide⟩⟩
        cases g : tb D d with
        | true => rfl
        | false => exact absurd ((x3i d e7).mpr g) c18
    · intro J x2 x5 lv h th hi hl
      have go : HH I t → ¬ J 85 35 ≤ x5 → ∃ d k, x2 = Int32.ofNat d ∧ d < ndI I ∧ x5 = Int32.ofNat k ∧ k < nkI I ∧ agr 106 J I ∧ (∀ d', d' < d → clnD I D t d') ∧ cl1 I D d ∧ cl2 I D t d ∧ cl3 I D t d ∧ (∀ c e, c < ncI I → e < 8 → (tb (J 106 c) e = true ↔ pq I D t d c e)) ∧ ∀ k', k' < k → cl4 I D t d k' := fun hh c1 => by
        obtain ⟨d, k, e1, e2, e3, e4, e5, e6⟩ := hi hh
        have hm := hh.1
        have hkb := hm.kb
        rw [e5 85 35 (by decide), e3, hm.k] at c1
        have := mt (oN_le (by omega) (by omega)).mpr c1
        exact ⟨d, k, e1, e2, e3, by omega, e5, e6⟩
      have nx : ∀ lv', ¬ J 85 35 ≤ x5 → (HH I t → ∀ d k, x2 = Int32.ofNat d → d < ndI I → x5 = Int32.ofNat k → k < nkI I → agr 106 J I → (∀ c e, c < ncI I → e < 8 → (tb (J 106 c) e = true ↔ pq I D t d c e)) → cl4 I D t d k) → qLs lv' [some (.ref (85)), some (.int (D)), some (.int (x2)), none, none, some (.int (x5 + (1 : Int32)))] → qW 243 N 164 lv' [] h (QQ I L R D t (HH I t)) := fun lv' c1 hx hl' => by
        refine ih164 J x2 (x5 + 1) lv' h th (fun hh => ?_) hl'
        obtain ⟨d, k, e1, e2, e3, e4, e5, e6, e7, e8, e9, e10, e11⟩ := go hh c1
        refine ⟨d, k + 1, e1, e2, by rw [e3, oN_s], e4, e5, e6, e7, e8, e9, e10, fun k' hk => ?_⟩
        by_cases e : k' = k
        · rw [e]; exact hx hh d k e1 e2 e3 e4 e5 e10
        · exact e11 k' (by omega)
      refine qg_243_164 th hl (fun c1 lv' hl' => ?_) (fun c1 c4 lv' hl' => nx lv' c1 (fun hh d k e1 e2 e3 e4 e5 e10 => ?_) hl') (fun c1 c4 _ c8 lv' hl' => nx lv' c1 (fun hh d k e1 e2 e3 e4 e5 e10 => ?_) hl') (fun c1 c4 _ c8 => ⟨0, J, h, rfl, th, fun hh => ?_⟩)
      · refine ih2 J (x2 + 1) lv' h th (fun hh => ?_) hl'
        obtain ⟨d, k, e1, e2, e3, e4, e5, e6, e7, e8, e9, e10, e11⟩ := hi hh
        have hm := hh.1
        have hkb := hm.kb
        rw [e5 85 35 (by decide), e3, hm.k] at c1
        have := (oN_le (by omega) (by omega)).mp c1
        refine ⟨d + 1, by rw [e1, oN_s], e2, e5, fun d' hd => ?_⟩
        by_cases e : d' = d
        · rw [e]; exact ⟨e7, e8, e9, fun k' hk => e11 k' (by omega)⟩
        · exact e6 d' (by omega)
      · have hdb := hh.1.db
        rw [e1, e3, come_Q hh.1 (by omega) e4 e5 e10] at c4
        exact fun q1 q2 => absurd ⟨q1, q2⟩ c4
      · have hdb := hh.1.db
        have hkb := hh.1.kb
        rw [e1, e3, ofN_clamp (by omega), e5 88 k (by decide), hs_oN (by omega)] at c8
        exact fun _ _ => c8
      · obtain ⟨d, k, e1, e2, e3, e4, e5, e6, e7, e8, e9, e10, e11⟩ := go hh c1
        have hdb := hh.1.db
        have hkb := hh.1.kb
        rw [e1, e3, come_Q hh.1 (by omega) e4 e5 e10] at c4
        rw [e1, e3, ofN_clamp (by omega), e5 88 k (by decide), hs_oN (by omega)] at c8
        exact ⟨e5, ⟨fun q => absurd rfl q, fun q => absurd ((q d e2).2.2.2 k e4 c4.1 c4.2) c8⟩⟩
def tI (I : Nat → Nat → Int32) (c : Nat) : Nat := (I 91 c).toNatClampNeg
/-- the check's answer -/
def clP (I : Nat → Nat → Int32) (D : Int32) (J : Nat → Nat → Int32) (v : Int32) : Prop := ∀ t, HH I t → agr 106 J I ∧ (¬ v = 0 ↔ clnM I D t)
theorem sp_243 {h : sH} {r : sR} {D : Int32} {I : Nat → Nat → Int32} {L : Nat → Nat → Int64} {R : Nat → Nat} (th : qH h I L R) (g : qGo 243 [.ref (85), .int D] h r) : ∃ v J h1, r = (.inl (some (.int v)), h1) ∧ qH h1 J L R ∧ clP I D J v := by
  refine qg_243 (Q := fun r => ∃ v J h1, r = (.inl (some (.int v)), h1) ∧ qH h1 J L R ∧ clP I D J v) g (fun N lv hl => ?_)
  refine qW_mono ?_ ((lk_243 (I := I) (L := L) (R := R) (D := D) (t := tI I) N).1 I 0 lv h th (fun _ => ⟨0, rfl, Nat.zero_le _, fun _ _ _ => rfl, fun d hd => absurd hd (Nat.not_lt_zero d)⟩) hl)
  rintro r ⟨v, J, h1, q1, q2, q3⟩
  refine ⟨v, J, h1, q1, q2, fun t ht => ?_⟩
  have e : ∀ c, c < ncI I → tI I c = t c := fun c hc => by
    obtain ⟨g1, g2⟩ := ht.2 c hc
    unfold tI
    rw [g1, ofN_clamp (by omega)]
  obtain ⟨p1, p2⟩ := q3 ⟨ht.1, fun c hc => by rw [e c hc]; exact ht.2 c hc⟩
  refine ⟨p1, p2.trans ?_⟩
  have hq : ∀ d c e', c < ncI I → (pq I D (tI I) d c e' ↔ pq I D t d c e') := fun d c e' hc => by
    unfold pq
    rw [e c hc]
  unfold clnM clnD
  refine forall_congr' (fun d => imp_congr_right (fun _ => and_congr Iff.rfl (and_congr ?_ (and_congr ?_ ?_))))
  · unfold cl2
    refine not_congr (and_congr Iff.rfl (and_congr Iff.rfl (forall_congr' (fun c => imp_congr_right (fun hc => ?_)))))
    rw [e c hc]
  · unfold cl3
    exact imp_congr_right (fun _ => forall_congr' (fun c => imp_congr_right (fun hc => forall_congr' (fun e' => imp_congr_right (fun _ => not_congr (and_congr (hq d c e' hc) (hq d c (e' + 1) hc)))))))
  · refine forall_congr' (fun k => imp_congr_right (fun _ => ?_))
    unfold cl4
    exact imp_congr_right (fun _ => imp_congr (forall_congr' (fun c => imp_congr_right (fun hc => hq d c _ hc))) Iff.rfl)
