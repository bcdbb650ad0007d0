/-! part 88: applyRules -/
theorem rule_z {h : sH} {I : Nat → Nat → Int32} {L : Nat → Nat → Int64} {R : Nat → Nat} (th : qH h I L R) {p : Nat} (hp : p < 12) : I (45 + p) 2 = 0 ∨ I (45 + p) 2 = 1 := by
  obtain ⟨⟨t1, t2, _⟩, rfl, rfl, rfl⟩ := th
  have hl : 45 + p < h.length := by omega
  have hc : h[45 + p]? = some (h[45 + p]'hl) := List.getElem?_eq_getElem hl
  obtain ⟨s1, s2⟩ := t2 _ _ (by omega) hc
  generalize h[45 + p]'hl = c at hc s1 s2
  have sh : tShF (45 + p) = (0, 6, 3) := by
    unfold tShF
    rw [if_neg (by omega), if_neg (by omega), if_neg (by omega), if_pos (by omega)]
  rw [sh] at s1
  cases c with
  | inl q => exact absurd (congrArg Prod.fst s1) (by show ¬ (0 : Nat) = 1; decide)
  | inr q =>
    have e1 : q.1 = 6 := (congrArg (fun z : Nat × Nat × Nat => z.2.1) s1).symm
    have e2 : q.2.length = 3 := (congrArg (fun z : Nat × Nat × Nat => z.2.2) s1).symm
    have hv : q.2[2]? = some (q.2[2]'(by omega)) := List.getElem?_eq_getElem (by omega)
    have s3 := s2 2 _ hv
    have ty : tTy (.inr q) 2 = .boolean := by
      show sFt q.1 2 = _
      rw [e1]; rfl
    rw [ty] at s3
    rw [vI_at (c := .inr q) hc hv]
    rcases (show q.2[2]'(by omega) = .int 0 ∨ q.2[2]'(by omega) = .int 1 from s3) with z | z
    · rw [z]; exact .inl rfl
    · rw [z]; exact .inr rfl
/-! the last rule for a door and a key -/
def ruC (I : Nat → Nat → Int32) (d k : Int32) : Nat → Int32
  | 0 => -1
  | m + 1 => if hs (I (45 + m) 1) d = true ∧ hs (I (45 + m) 0) k = true then Int32.ofNat m else ruC I d k m
def lrP (I : Nat → Nat → Int32) (d k v : Int32) : Prop := ∀ m, I 0 11 = Int32.ofNat m → m ≤ 12 → v = ruC I d k m
theorem sub_m1 (x : Int32) : x + (-1 : Int32) = x - 1 := by rw [Int32.sub_eq_add_neg]
theorem lk_27 {h : sH} {I : Nat → Nat → Int32} {L : Nat → Nat → Int64} {R : Nat → Nat} (th : qH h I L R) {x1 x2 : Int32} : ∀ N m lv, m ≤ 12 → qLs lv [some (.ref (0)), some (.int (x1)), some (.int (x2)), some (.int (Int32.ofNat m - 1))] → qW 27 N 7 lv [] h (fun r => r = (.inl (some (.int (ruC I x1 x2 m))), h))
  | 0, _, _, _, _ => qW_0
  | N + 1, 0, lv, _, hl => qg_27_7 th hl (fun _ => rfl) (fun c => absurd (by decide) c) (fun c => absurd (by decide) c) (fun c => absurd (by decide) c)
  | N + 1, m + 1, lv, hm, hl => by
    rw [← oN_s, i32_p1m1] at hl
    refine qg_27_7 th hl (fun c => ?_) (fun _ _ c3 lv' hl' => ?_) (fun _ _ c3 c7 lv' hl' => ?_) (fun _ _ c3 c7 => ?_)
    · exfalso
      have z : (0 : Int32).toInt = 0 := rfl
      rw [Int32.lt_iff_toInt_lt, z, ofN_toInt (by omega)] at c
      omega
    · rw [ofN_clamp (by omega)] at c3
      have e : ruC I x1 x2 (m + 1) = ruC I x1 x2 m := if_neg (fun z => c3 z.1)
      rw [sub_m1] at hl'
      rw [e]
      exact lk_27 th N m lv' (by omega) hl'
    · rw [ofN_clamp (by omega)] at c7
      have e : ruC I x1 x2 (m + 1) = ruC I x1 x2 m := if_neg (fun z => c7 z.2)
      rw [sub_m1] at hl'
      rw [e]
      exact lk_27 th N m lv' (by omega) hl'
    · rw [ofN_clamp (by omega)] at c3 c7
      have e : ruC I x1 x2 (m + 1) = Int32.ofNat m := if_pos ⟨c3, c7⟩
      rw [e]
theorem lk_27x {h : sH} {I : Nat → Nat → Int32} {L : Nat → Nat → Int64} {R : Nat → Nat} (th : qH h I L R) {x1 x2 : Int32} : ∀ N x3 lv, qLs lv [some (.ref (0)), some (.int (x1)), some (.int (x2)), some (.int (x3))] → qW 27 N 7 lv [] h (fun r => ∃ v, r = (.inl (some (.int v)), h))
  | 0, _, _, _ => qW_0
  | N + 1, x3, lv, hl => qg_27_7 th hl (fun _ => ⟨_, rfl⟩) (fun _ _ _ lv' hl' => lk_27x th N _ lv' hl') (fun _ _ _ _ lv' hl' => lk_27x th N _ lv' hl') (fun _ _ _ _ => ⟨_, rfl⟩)
theorem sp_27 {h : sH} {r : sR} {a0 a1 : Int32} {I : Nat → Nat → Int32} {L : Nat → Nat → Int64} {R : Nat → Nat} (th : qH h I L R) (g : qGo 27 [.ref (0), .int a0, .int a1] h r) : ∃ v, r = (.inl (some (.int v)), h) ∧ lrP I a0 a1 v := by
  refine qg_27 (Q := fun r => ∃ v, r = (.inl (some (.int v)), h) ∧ lrP I a0 a1 v) th g (fun N lv hl => ?_)
  by_cases c : ∃ m, I 0 11 = Int32.ofNat m ∧ m ≤ 12
  · obtain ⟨m, e, hm⟩ := c
    rw [e] at hl
    refine qW_mono ?_ (lk_27 th N m lv hm hl)
    rintro r rfl
    refine ⟨_, rfl, fun m' e' hm' => ?_⟩
    rw [(oN_inj (a := m) (b := m') (by omega) (by omega)).mp (e.symm.trans e')]
  · refine qW_mono ?_ (lk_27x th N _ lv hl)
    rintro r ⟨v, rfl⟩
    exact ⟨v, rfl, fun m e hm => absurd ⟨m, e, hm⟩ c⟩
def ruM (I : Nat → Nat → Int32) (d k : Nat) : Nat → Int32
  | 0 => -1
  | m + 1 => if hs (I 101 m) (Int32.ofNat k) = true ∧ hs (I 102 m) (Int32.ofNat d) = true then I 103 m else ruM I d k m
theorem ru_E {I J : Nat → Nat → Int32} (hR : RGr I) (hJ : ∀ p b, p < 12 → J (45 + p) b = I (45 + p) b) {d k : Nat} : ∀ m, m ≤ 12 → (ruC J (Int32.ofNat d) (Int32.ofNat k) m = -1 ∧ ruM I d k m = -1) ∨ ∃ i, i < 12 ∧ ruC J (Int32.ofNat d) (Int32.ofNat k) m = Int32.ofNat i ∧ ruM I d k m = I (45 + i) 2
  | 0, _ => .inl ⟨rfl, rfl⟩
  | m + 1, hm => by
    obtain ⟨r1, r2, r3⟩ := hR m (by omega)
    unfold ruC ruM
    rw [hJ m 0 (by omega), hJ m 1 (by omega), r1, r2]
    by_cases c : hs (I (45 + m) 0) (Int32.ofNat k) = true ∧ hs (I (45 + m) 1) (Int32.ofNat d) = true
    · rw [if_pos c, if_pos ⟨c.2, c.1⟩, r3]
      exact .inr ⟨m, by omega, rfl, rfl⟩
    · rw [if_neg c, if_neg (fun z => c ⟨z.2, z.1⟩)]
      exact ru_E hR hJ m (by omega)
/-- whether the rules change a wish -/
def chg (I : Nat → Nat → Int32) (nr d k : Nat) : Bool := !decide (ruM I d k nr = -1) && !decide (ruM I d k nr = b2 (hs (I 88 k) (Int32.ofNat d) = true)) && (!decide (ruM I d k nr = 1) || T_224 I (Int32.ofNat d) (Int32.ofNat k))
theorem chg_no1 {I : Nat → Nat → Int32} {nr d k : Nat} (h : ruM I d k nr = -1) : chg I nr d k = false := by
  unfold chg; rw [decide_eq_true h]; rfl
theorem chg_no2 {I : Nat → Nat → Int32} {nr d k : Nat} (h : ruM I d k nr = b2 (hs (I 88 k) (Int32.ofNat d) = true)) : chg I nr d k = false := by
  unfold chg; rw [decide_eq_true h]
  generalize decide (ruM I d k nr = -1) = z
  cases z <;> rfl
theorem chg_no3 {I : Nat → Nat → Int32} {nr d k : Nat} (h : ruM I d k nr = 1) (h2 : ¬ T_224 I (Int32.ofNat d) (Int32.ofNat k) = true) : chg I nr d k = false := by
  unfold chg; rw [decide_eq_true h, Bool.eq_false_iff.mpr h2]
  exact Bool.and_false _
theorem chg_y {I : Nat → Nat → Int32} {nr d k : Nat} (h1 : ¬ ruM I d k nr = -1) (h2 : ¬ ruM I d k nr = b2 (hs (I 88 k) (Int32.ofNat d) = true)) (h3 : ruM I d k nr = 1 → T_224 I (Int32.ofNat d) (Int32.ofNat k) = true) : chg I nr d k = true := by
  unfold chg
  rw [decide_eq_false h1, decide_eq_false h2]
  by_cases c : ruM I d k nr = 1
  · rw [h3 c, decide_eq_true c]; rfl
  · rw [decide_eq_false c]; rfl
theorem ruM_cg {I J : Nat → Nat → Int32} (h : ∀ a b, 88 ≤ a → J a b = I a b) {d k : Nat} : ∀ m, ruM J d k m = ruM I d k m
  | 0 => rfl
  | m + 1 => by
    unfold ruM
    rw [h 101 m (by decide), h 102 m (by decide), h 103 m (by decide), ruM_cg h m]
theorem chg_cg {I J : Nat → Nat → Int32} (h : ∀ a b, 88 ≤ a → J a b = I a b) {nr d k : Nat} : chg J nr d k = chg I nr d k := by
  unfold chg T_224 T_225
  simp only [ruM_cg h, h 88 _ (by decide), h 92 _ (by decide), h 95 _ (by decide), h 97 _ (by decide)]
def rvs (n j m d k : Nat) : Bool := decide ((d < j ∧ k < n) ∨ (d = j ∧ k < m))
theorem rvs_s {n j m d k : Nat} : rvs n j (m + 1) d k = (rvs n j m d k || decide (d = j ∧ k = m)) := by
  unfold rvs
  rw [← Bool.decide_or]
  exact decide_eq_decide.mpr (by omega)
theorem rvs_r {n j d k : Nat} : rvs n j n d k = rvs n (j + 1) 0 d k := by
  unfold rvs
  exact decide_eq_decide.mpr (by omega)
theorem rvs_h {n j m : Nat} : rvs n j m j m = false := by
  unfold rvs
  exact decide_eq_false (by omega)
theorem xor_s {w v c e : Bool} (h : e = true → v = false) : (w ^^ ((v || e) && c)) = ((w ^^ (v && c)) ^^ (e && c)) := by
  cases w <;> cases v <;> cases c <;> cases e <;> first | rfl | exact absurd (h rfl) (by decide)
/-! the class -/
def apS (I : Nat → Nat → Int32) (nr : Nat) (d : Nat) : Int32 := jS (fun k => bj (chg I nr d k)) (nkI I)
def apC (I : Nat → Nat → Int32) (R : Nat → Nat) (nr j m : Nat) (J : Nat → Nat → Int32) : Prop := (∀ a b, ¬ (35 ≤ a ∧ a ≤ 44 ∧ b = 1) → J a b = I a b) ∧ ∀ d k, d < 10 → tb (J (R d) 1) k = (tb (I (R d) 1) k ^^ (rvs (nkI I) j m d k && chg I nr d k))
theorem apC_n {I J : Nat → Nat → Int32} {R : Nat → Nat} {nr j m : Nat} (h : apC I R nr j m J) (c : chg I nr j m = false) : apC I R nr j (m + 1) J := by
  refine ⟨h.1, fun d k hd => ?_⟩
  rw [h.2 d k hd, rvs_s]
  by_cases e : d = j ∧ k = m
  · rw [e.1, e.2, c, Bool.and_false, Bool.and_false]
  · rw [decide_eq_false e, Bool.or_false]
theorem apC_f {I J : Nat → Nat → Int32} {L : Nat → Nat → Int64} {R : Nat → Nat} (hK : RK I L R) {nr j m : Nat} (hj : j < 10) (hm : m < 32) (h : apC I R nr j m J) (c : chg I nr j m = true) {x : Int32} (hx : decide (¬ x = 0) = !tb (I (R j) 1) m) : apC I R nr j (m + 1) (upI J (R j) 1 (xW (J (R j) 1) (Int32.ofNat m) x)) := by
  have hr := hK.rr j hj
  refine ⟨fun a b hn => by rw [upI_ne (by omega)]; exact h.1 a b hn, fun d k hd => ?_⟩
  rw [rvs_s]
  by_cases e : d = j
  · subst e
    rw [upI_s, tb_xW, shD_nat hm]
    by_cases e2 : k = m
    · subst e2
      rw [if_pos rfl, hx, decide_eq_true ⟨rfl, rfl⟩, Bool.or_true, Bool.true_and, c, Bool.xor_true]
    · rw [if_neg e2, h.2 d k hd, decide_eq_false (fun z => e2 z.2), Bool.or_false]
  · rw [upI_ne (fun z => e (hK.ri d j hd hj z.1)), h.2 d k hd, decide_eq_false (fun z => e z.1), Bool.or_false]
def apQ (I : Nat → Nat → Int32) (L : Nat → Nat → Int64) (R : Nat → Nat) (nr : Nat) (r : sR) : Prop := ∃ J h1, r = (.inl (some (.int (jS (apS I nr) (ndI I)))), h1) ∧ qH h1 J L R ∧ apC I R nr (ndI I) 0 J
theorem qg_25 {h : sH} {r : sR} {Q : sR → Prop} (g : qGo 25 [.ref (0)] h r)
    (p1 : ∀ N lv, qLs lv [some (.ref (0)), some (.int ((0 : Int32))), some (.int ((0 : Int32))), none] → qW 25 N 4 lv [] h Q) : Q r := by
  refine qGo_w g (fun N => ?_)
  have hl0 : qLs (lv_args 0 [.ref (0)]) [some (.ref (0)), none, none, none] := qLs_ar 3
  refine q_iconst (show mE (mtv 25) 0 = some (.iconst 0, 1, 0, 0) from rfl) kI_0 ?_
  refine q_istore_n (show mE (mtv 25) 1 = some (.istore_n 1, 1, 0, 0) from rfl) (Nat.le_of_ble_eq_true rfl) hl0 (fun lv1 (hl2 : qLs lv1 [some (.ref (0)), some (.int ((0 : Int32))), none, none]) => ?_)
  refine q_iconst (show mE (mtv 25) 2 = some (.iconst 0, 1, 0, 0) from rfl) kI_0 ?_
  refine q_istore_n (show mE (mtv 25) 3 = some (.istore_n 2, 1, 0, 0) from rfl) (Nat.le_of_ble_eq_true rfl) hl2 (fun lv3 (hl4 : qLs lv3 [some (.ref (0)), some (.int ((0 : Int32))), some (.int ((0 : Int32))), none]) => ?_)
  exact p1 _ lv3 (qLs_wk hl4 (⟨rfl, rfl, rfl, trivial⟩))
theorem qg_25_4 {N : Nat} {lv : sL} {h : sH} {Q : sR → Prop} {x1 : Int32} {x2 : Int32} {I : Nat → Nat → Int32} {L : Nat → Nat → Int64} {R : Nat → Nat} (th : qH h I L R) (hl : qLs lv [some (.ref (0)), some (.int (x1)), some (.int (x2)), none])
    (p1 : ∀ (c1 : (I 0 10) ≤ x2), Q (.inl (some (.int (x1))), h))
    (p2 : ∀ (c1 : ¬ (I 0 10) ≤ x2), ∀ lv, qLs lv [some (.ref (0)), some (.int (x1)), some (.int (x2)), some (.int ((0 : Int32)))] → qW 25 N 14 lv [] h Q) : qW 25 (N + 1) 4 lv [] h Q := by
  refine q1_iload_n (show mE (mtv 25) 4 = some (.iload_n 2, 1, 0, 0) from rfl) (hl 2 _ rfl) ?_
  refine q_aload_n (show mE (mtv 25) 5 = some (.aload_n 0, 1, 0, 0) from rfl) (hl 0 _ rfl) ?_
  refine q_getI th (show mE (mtv 25) 6 = some (.getfield 171, 3, 8, 10) from rfl) (by decide) rfl ?_
  refine q_ic_ge (t := 46) (show mE (mtv 25) 9 = some (.if_icmp .ge 37, 3, 0, 0) from rfl) rfl (fun c1 => ?_) (fun c1 => ?_)
  · refine q_iload_n (show mE (mtv 25) 46 = some (.iload_n 1, 1, 0, 0) from rfl) (hl 1 _ rfl) ?_
    refine q_ireturn (show mE (mtv 25) 47 = some (.ireturn, 1, 0, 0) from rfl) ?_
    exact p1 c1
  · refine q_iconst (show mE (mtv 25) 12 = some (.iconst 0, 1, 0, 0) from rfl) kI_0 ?_
    refine q_istore_n (show mE (mtv 25) 13 = some (.istore_n 3, 1, 0, 0) from rfl) (Nat.le_of_ble_eq_true rfl) hl (fun lv2 (hl3 : qLs lv2 [some (.ref (0)), some (.int (x1)), some (.int (x2)), some (.int ((0 : Int32)))]) => ?_)
    exact p2 c1 lv2 (qLs_wk hl3 (⟨rfl, rfl, rfl, rfl, trivial⟩))
theorem qg_25_14 {N : Nat} {lv : sL} {h : sH} {Q : sR → Prop} {x1 : Int32} {x2 : Int32} {x3 : Int32} {I : Nat → Nat → Int32} {L : Nat → Nat → Int64} {R : Nat → Nat} (th : qH h I L R) (hl : qLs lv [some (.ref (0)), some (.int (x1)), some (.int (x2)), some (.int (x3))])
    (p1 : ∀ (c1 : (I 0 9) ≤ x3), ∀ lv, qLs lv [some (.ref (0)), some (.int (x1)), some (.int (x2 + (1 : Int32))), none] → qW 25 N 4 lv [] h Q)
    (p2 : ∀ (c1 : ¬ (I 0 9) ≤ x3), ∀ (v5 : Int32), ∀ (e6 : lrP I x2 x3 v5), ∀ (c9 : ¬ v5 = (-1 : Int32)), ∀ (bb10 : sIn v5 12 = true), ∀ (z11 : I (45 + (v5).toNatClampNeg) 2 = 0 ∨ I (45 + (v5).toNatClampNeg) 2 = 1), ∀ (bb14 : sIn x2 10 = true), ∀ (d15 : 35 ≤ R (x2).toNatClampNeg), ∀ (d16 : R (x2).toNatClampNeg ≤ 44), ∀ (c17 : (I (45 + (v5).toNatClampNeg) 2) = (b2 (hs (I (R (x2).toNatClampNeg) 1) x3 = true))), ∀ lv, qLs lv [some (.ref (0)), some (.int (x1)), some (.int (x2)), some (.int (x3 + (1 : Int32)))] → qW 25 N 14 lv [] h Q)
    (p3 : ∀ (c1 : ¬ (I 0 9) ≤ x3), ∀ (v5 : Int32), ∀ (e6 : lrP I x2 x3 v5), ∀ (c9 : ¬ v5 = (-1 : Int32)), ∀ (bb10 : sIn v5 12 = true), ∀ (z11 : I (45 + (v5).toNatClampNeg) 2 = 0 ∨ I (45 + (v5).toNatClampNeg) 2 = 1), ∀ (bb14 : sIn x2 10 = true), ∀ (d15 : 35 ≤ R (x2).toNatClampNeg), ∀ (d16 : R (x2).toNatClampNeg ≤ 44), ∀ (c17 : ¬ (I (45 + (v5).toNatClampNeg) 2) = (b2 (hs (I (R (x2).toNatClampNeg) 1) x3 = true))), ∀ (c20 : (I (45 + (v5).toNatClampNeg) 2) = 0), ∀ (h27 : sH), ∀ (t28 : qH h27 (upI I (R (x2).toNatClampNeg) 1 (xW (I (R (x2).toNatClampNeg) 1) x3 (I (45 + (v5).toNatClampNeg) 2))) L R), ∀ lv, qLs lv [some (.ref (0)), some (.int (x1 + (1 : Int32))), some (.int (x2)), some (.int (x3 + (1 : Int32)))] → qW 25 N 14 lv [] h27 Q)
    (p4 : ∀ (c1 : ¬ (I 0 9) ≤ x3), ∀ (v5 : Int32), ∀ (e6 : lrP I x2 x3 v5), ∀ (c9 : ¬ v5 = (-1 : Int32)), ∀ (bb10 : sIn v5 12 = true), ∀ (z11 : I (45 + (v5).toNatClampNeg) 2 = 0 ∨ I (45 + (v5).toNatClampNeg) 2 = 1), ∀ (bb14 : sIn x2 10 = true), ∀ (d15 : 35 ≤ R (x2).toNatClampNeg), ∀ (d16 : R (x2).toNatClampNeg ≤ 44), ∀ (c17 : ¬ (I (45 + (v5).toNatClampNeg) 2) = (b2 (hs (I (R (x2).toNatClampNeg) 1) x3 = true))), ∀ (c20 : ¬ (I (45 + (v5).toNatClampNeg) 2) = 0), ∀ (c36 : T_28 I (R (x2).toNatClampNeg) x3 = true), ∀ (h43 : sH), ∀ (t44 : qH h43 (upI I (R (x2).toNatClampNeg) 1 (xW (I (R (x2).toNatClampNeg) 1) x3 (I (45 + (v5).toNatClampNeg) 2))) L R), ∀ lv, qLs lv [some (.ref (0)), some (.int (x1 + (1 : Int32))), some (.int (x2)), some (.int (x3 + (1 : Int32)))] → qW 25 N 14 lv [] h43 Q)
    (p5 : ∀ (c1 : ¬ (I 0 9) ≤ x3), ∀ (v5 : Int32), ∀ (e6 : lrP I x2 x3 v5), ∀ (c9 : ¬ v5 = (-1 : Int32)), ∀ (bb10 : sIn v5 12 = true), ∀ (z11 : I (45 + (v5).toNatClampNeg) 2 = 0 ∨ I (45 + (v5).toNatClampNeg) 2 = 1), ∀ (bb14 : sIn x2 10 = true), ∀ (d15 : 35 ≤ R (x2).toNatClampNeg), ∀ (d16 : R (x2).toNatClampNeg ≤ 44), ∀ (c17 : ¬ (I (45 + (v5).toNatClampNeg) 2) = (b2 (hs (I (R (x2).toNatClampNeg) 1) x3 = true))), ∀ (c20 : ¬ (I (45 + (v5).toNatClampNeg) 2) = 0), ∀ (c36 : ¬ (T_28 I (R (x2).toNatClampNeg) x3 = true)), ∀ lv, qLs lv [some (.ref (0)), some (.int (x1)), some (.int (x2)), some (.int (x3 + (1 : Int32)))] → qW 25 N 14 lv [] h Q)
    (p6 : ∀ (c1 : ¬ (I 0 9) ≤ x3), ∀ (v5 : Int32), ∀ (e6 : lrP I x2 x3 v5), ∀ (c9 : v5 = (-1 : Int32)), ∀ lv, qLs lv [some (.ref (0)), some (.int (x1)), some (.int (x2)), some (.int (x3 + (1 : Int32)))] → qW 25 N 14 lv [] h Q) : qW 25 (N + 1) 14 lv [] h Q := by
  refine q1_iload_n (show mE (mtv 25) 14 = some (.iload_n 3, 1, 0, 0) from rfl) (hl 3 _ rfl) ?_
  refine q_aload_n (show mE (mtv 25) 15 = some (.aload_n 0, 1, 0, 0) from rfl) (hl 0 _ rfl) ?_
  refine q_getI th (show mE (mtv 25) 16 = some (.getfield 88, 3, 8, 9) from rfl) (by decide) rfl ?_
  refine q_ic_ge (t := 40) (show mE (mtv 25) 19 = some (.if_icmp .ge 21, 3, 0, 0) from rfl) rfl (fun c1 => ?_) (fun c1 => ?_)
  · refine q_iinc (show mE (mtv 25) 40 = some (.iinc 2 1, 3, 0, 0) from rfl) (Nat.le_of_ble_eq_true rfl) hl (hl 2 _ rfl) kI_1 (fun lv2 (hl3 : qLs lv2 [some (.ref (0)), some (.int (x1)), some (.int (x2 + (1 : Int32))), some (.int (x3))]) => ?_)
    refine q_goto (t := 4) (show mE (mtv 25) 43 = some (.goto (-39), 3, 0, 0) from rfl) rfl ?_
    exact p1 c1 lv2 (qLs_wk hl3 (⟨rfl, rfl, rfl, trivial⟩))
  · refine q_aload_n (show mE (mtv 25) 22 = some (.aload_n 0, 1, 0, 0) from rfl) (hl 0 _ rfl) ?_
    refine q_iload_n (show mE (mtv 25) 23 = some (.iload_n 2, 1, 0, 0) from rfl) (hl 2 _ rfl) ?_
    refine q_iload_n (show mE (mtv 25) 24 = some (.iload_n 3, 1, 0, 0) from rfl) (hl 3 _ rfl) ?_
    refine q_virtualI (show mE (mtv 25) 25 = some (.invokevirtual 326, 3, 26, 8) from rfl) (by decide) rfl rfl rfl (fun _ => ?_)
    have hl4 : qLs (lv_args 0 [.ref (0), .int (x2), .int (x3)]) [some (.ref (0)), some (.int (x2)), some (.int (x3)), none, none] := qLs_ar 2
    refine q_aload_n (show mE (mtv 26) 0 = some (.aload_n 0, 1, 0, 0) from rfl) (hl4 0 _ rfl) ?_
    refine q_iload_n (show mE (mtv 26) 1 = some (.iload_n 1, 1, 0, 0) from rfl) (hl4 1 _ rfl) ?_
    refine q_iload_n (show mE (mtv 26) 2 = some (.iload_n 2, 1, 0, 0) from rfl) (hl4 2 _ rfl) ?_
    refine q_virtualE (show mE (mtv 26) 3 = some (.invokevirtual 588, 3, 27, 8) from rfl) (by decide) rfl rfl rfl (fun _ g => sp_27 th g) ?_
    rintro _ ⟨v5, rfl, e6⟩
    refine qK_v ?_
    refine q_istore_n (show mE (mtv 26) 6 = some (.istore_n 3, 1, 0, 0) from rfl) (Nat.le_of_ble_eq_true rfl) hl4 (fun lv7 (hl8 : qLs lv7 [some (.ref (0)), some (.int (x2)), some (.int (x3)), some (.int (v5)), none]) => ?_)
    refine q_iload_n (show mE (mtv 26) 7 = some (.iload_n 3, 1, 0, 0) from rfl) (hl8 3 _ rfl) ?_
    refine q_iconst (show mE (mtv 26) 8 = some (.iconst (-1), 1, 0, 0) from rfl) kI_m1 ?_
    refine q_ic_ne (t := 14) (show mE (mtv 26) 9 = some (.if_icmp .ne 5, 3, 0, 0) from rfl) rfl (fun c9 => ?_) (fun c9 => ?_)
    · refine q_aload_n (show mE (mtv 26) 14 = some (.aload_n 0, 1, 0, 0) from rfl) (hl8 0 _ rfl) ?_
      refine q_getR (m := 14) th (show mE (mtv 26) 15 = some (.getfield 37, 3, 8, 4) from rfl) (by decide) rfl rfl ?_
      refine q_iload_n (show mE (mtv 26) 18 = some (.iload_n 3, 1, 0, 0) from rfl) (hl8 3 _ rfl) ?_
      refine q_aaload (n := 12) (t := 7) (m := 45) th (show mE (mtv 26) 19 = some (.aaload, 1, 0, 0) from rfl) (by decide) rfl (fun _ _ => rfl) (fun bb10 => ?_)
      refine q_getB th (show mE (mtv 26) 20 = some (.getfield 323, 3, 6, 2) from rfl) (qB bb10 (by decide)) rfl (fun z11 => ?_)
      refine q_istore (show mE (mtv 26) 23 = some (.istore 4, 2, 0, 0) from rfl) (Nat.le_of_ble_eq_true rfl) hl8 (fun lv12 (hl13 : qLs lv12 [some (.ref (0)), some (.int (x2)), some (.int (x3)), some (.int (v5)), some (.int (I (45 + (v5).toNatClampNeg) 2))]) => ?_)
      refine q_iload (show mE (mtv 26) 25 = some (.iload 4, 2, 0, 0) from rfl) (hl13 4 _ rfl) ?_
      refine q_aload_n (show mE (mtv 26) 27 = some (.aload_n 0, 1, 0, 0) from rfl) (hl13 0 _ rfl) ?_
      refine q_getR (m := 13) th (show mE (mtv 26) 28 = some (.getfield 31, 3, 8, 3) from rfl) (by decide) rfl rfl ?_
      refine q_iload_n (show mE (mtv 26) 31 = some (.iload_n 1, 1, 0, 0) from rfl) (hl13 1 _ rfl) ?_
      refine q_aaloadD th (show mE (mtv 26) 32 = some (.aaload, 1, 0, 0) from rfl) (fun bb14 d15 d16 => ?_)
      refine q_getI th (show mE (mtv 26) 33 = some (.getfield 185, 3, 1, 1) from rfl) (Nat.lt_of_le_of_lt d16 (by decide)) rfl ?_
      refine q_iload_n (show mE (mtv 26) 36 = some (.iload_n 2, 1, 0, 0) from rfl) (hl13 2 _ rfl) ?_
      refine q_staticP (show mE (mtv 26) 37 = some (.invokestatic 197, 3, 15, 0) from rfl) (by decide) rfl rfl rfl (fun _ g => sp_15 g) ?_
      refine q_ic_eq (t := 62) (show mE (mtv 26) 40 = some (.if_icmp .eq 22, 3, 0, 0) from rfl) rfl (fun c17 => ?_) (fun c17 => ?_)
      · refine q_iconst (show mE (mtv 26) 62 = some (.iconst 0, 1, 0, 0) from rfl) kI_0 ?_
        refine q_ireturn (show mE (mtv 26) 63 = some (.ireturn, 1, 0, 0) from rfl) ?_
        refine qK_v ?_
        refine q_ift (t := 34) (show mE (mtv 25) 28 = some (.ifCond .eq 6, 3, 0, 0) from rfl) (by decide) rfl ?_
        refine q_iinc (show mE (mtv 25) 34 = some (.iinc 3 1, 3, 0, 0) from rfl) (Nat.le_of_ble_eq_true rfl) hl (hl 3 _ rfl) kI_1 (fun lv18 (hl19 : qLs lv18 [some (.ref (0)), some (.int (x1)), some (.int (x2)), some (.int (x3 + (1 : Int32)))]) => ?_)
        refine q_goto (t := 14) (show mE (mtv 25) 37 = some (.goto (-23), 3, 0, 0) from rfl) rfl ?_
        exact p2 c1 v5 e6 c9 bb10 z11 bb14 d15 d16 c17 lv18 (qLs_wk hl19 (⟨rfl, rfl, rfl, rfl, trivial⟩))
      · refine q_iload (show mE (mtv 26) 43 = some (.iload 4, 2, 0, 0) from rfl) (hl13 4 _ rfl) ?_
        refine q_if_eq (t := 64) (show mE (mtv 26) 45 = some (.ifCond .eq 19, 3, 0, 0) from rfl) rfl (fun c20 => ?_) (fun c20 => ?_)
        · refine q_aload_n (show mE (mtv 26) 64 = some (.aload_n 0, 1, 0, 0) from rfl) (hl13 0 _ rfl) ?_
          refine q_getR (m := 13) th (show mE (mtv 26) 65 = some (.getfield 31, 3, 8, 3) from rfl) (by decide) rfl rfl ?_
          refine q_iload_n (show mE (mtv 26) 68 = some (.iload_n 1, 1, 0, 0) from rfl) (hl13 1 _ rfl) ?_
          refine q_aaloadD th (show mE (mtv 26) 69 = some (.aaload, 1, 0, 0) from rfl) (fun bb21 d22 d23 => ?_)
          refine q_aload_n (show mE (mtv 26) 70 = some (.aload_n 0, 1, 0, 0) from rfl) (hl13 0 _ rfl) ?_
          refine q_getR (m := 13) th (show mE (mtv 26) 71 = some (.getfield 31, 3, 8, 3) from rfl) (by decide) rfl rfl ?_
          refine q_iload_n (show mE (mtv 26) 74 = some (.iload_n 1, 1, 0, 0) from rfl) (hl13 1 _ rfl) ?_
          refine q_aaloadD th (show mE (mtv 26) 75 = some (.aaload, 1, 0, 0) from rfl) (fun bb24 d25 d26 => ?_)
          refine q_getI th (show mE (mtv 26) 76 = some (.getfield 185, 3, 1, 1) from rfl) (Nat.lt_of_le_of_lt d26 (by decide)) rfl ?_
          refine q_iload_n (show mE (mtv 26) 79 = some (.iload_n 2, 1, 0, 0) from rfl) (hl13 2 _ rfl) ?_
          refine q_iload (show mE (mtv 26) 80 = some (.iload 4, 2, 0, 0) from rfl) (hl13 4 _ rfl) ?_
          refine q_staticP (show mE (mtv 26) 82 = some (.invokestatic 188, 3, 29, 0) from rfl) (by decide) rfl rfl rfl (fun _ g => sp_29 g) ?_
          refine q_putI th (show mE (mtv 26) 85 = some (.putfield 185, 3, 1, 1) from rfl) (Nat.lt_of_le_of_lt d23 (by decide)) rfl (fun h27 t28 => ?_)
          refine q_iconst (show mE (mtv 26) 88 = some (.iconst 1, 1, 0, 0) from rfl) kI_1 ?_
          refine q_ireturn (show mE (mtv 26) 89 = some (.ireturn, 1, 0, 0) from rfl) ?_
          refine qK_v ?_
          refine q_iff (t := 34) (show mE (mtv 25) 28 = some (.ifCond .eq 6, 3, 0, 0) from rfl) (by decide) rfl ?_
          refine q_iinc (show mE (mtv 25) 31 = some (.iinc 1 1, 3, 0, 0) from rfl) (Nat.le_of_ble_eq_true rfl) hl (hl 1 _ rfl) kI_1 (fun lv29 (hl30 : qLs lv29 [some (.ref (0)), some (.int (x1 + (1 : Int32))), some (.int (x2)), some (.int (x3))]) => ?_)
          refine q_iinc (show mE (mtv 25) 34 = some (.iinc 3 1, 3, 0, 0) from rfl) (Nat.le_of_ble_eq_true rfl) hl30 (hl30 3 _ rfl) kI_1 (fun lv31 (hl32 : qLs lv31 [some (.ref (0)), some (.int (x1 + (1 : Int32))), some (.int (x2)), some (.int (x3 + (1 : Int32)))]) => ?_)
          refine q_goto (t := 14) (show mE (mtv 25) 37 = some (.goto (-23), 3, 0, 0) from rfl) rfl ?_
          exact p3 c1 v5 e6 c9 bb10 z11 bb14 d15 d16 c17 c20 h27 t28 lv31 (qLs_wk hl32 (⟨rfl, rfl, rfl, rfl, trivial⟩))
        · refine q_aload_n (show mE (mtv 26) 48 = some (.aload_n 0, 1, 0, 0) from rfl) (hl13 0 _ rfl) ?_
          refine q_aload_n (show mE (mtv 26) 49 = some (.aload_n 0, 1, 0, 0) from rfl) (hl13 0 _ rfl) ?_
          refine q_getR (m := 13) th (show mE (mtv 26) 50 = some (.getfield 31, 3, 8, 3) from rfl) (by decide) rfl rfl ?_
          refine q_iload_n (show mE (mtv 26) 53 = some (.iload_n 1, 1, 0, 0) from rfl) (hl13 1 _ rfl) ?_
          refine q_aaloadD th (show mE (mtv 26) 54 = some (.aaload, 1, 0, 0) from rfl) (fun bb33 d34 d35 => ?_)
          refine q_iload_n (show mE (mtv 26) 55 = some (.iload_n 2, 1, 0, 0) from rfl) (hl13 2 _ rfl) ?_
          refine q_virtualP (show mE (mtv 26) 56 = some (.invokevirtual 179, 3, 28, 8) from rfl) (by decide) rfl rfl rfl (fun _ g => sp_28 th (Nat.lt_of_le_of_lt d35 (by decide)) g) ?_
          refine q_ifb_ne (t := 64) (show mE (mtv 26) 59 = some (.ifCond .ne 5, 3, 0, 0) from rfl) rfl (fun c36 => ?_) (fun c36 => ?_)
          · refine q_aload_n (show mE (mtv 26) 64 = some (.aload_n 0, 1, 0, 0) from rfl) (hl13 0 _ rfl) ?_
            refine q_getR (m := 13) th (show mE (mtv 26) 65 = some (.getfield 31, 3, 8, 3) from rfl) (by decide) rfl rfl ?_
            refine q_iload_n (show mE (mtv 26) 68 = some (.iload_n 1, 1, 0, 0) from rfl) (hl13 1 _ rfl) ?_
            refine q_aaloadD th (show mE (mtv 26) 69 = some (.aaload, 1, 0, 0) from rfl) (fun bb37 d38 d39 => ?_)
            refine q_aload_n (show mE (mtv 26) 70 = some (.aload_n 0, 1, 0, 0) from rfl) (hl13 0 _ rfl) ?_
            refine q_getR (m := 13) th (show mE (mtv 26) 71 = some (.getfield 31, 3, 8, 3) from rfl) (by decide) rfl rfl ?_
            refine q_iload_n (show mE (mtv 26) 74 = some (.iload_n 1, 1, 0, 0) from rfl) (hl13 1 _ rfl) ?_
            refine q_aaloadD th (show mE (mtv 26) 75 = some (.aaload, 1, 0, 0) from rfl) (fun bb40 d41 d42 => ?_)
            refine q_getI th (show mE (mtv 26) 76 = some (.getfield 185, 3, 1, 1) from rfl) (Nat.lt_of_le_of_lt d42 (by decide)) rfl ?_
            refine q_iload_n (show mE (mtv 26) 79 = some (.iload_n 2, 1, 0, 0) from rfl) (hl13 2 _ rfl) ?_
            refine q_iload (show mE (mtv 26) 80 = some (.iload 4, 2, 0, 0) from rfl) (hl13 4 _ rfl) ?_
            refine q_staticP (show mE (mtv 26) 82 = some (.invokestatic 188, 3, 29, 0) from rfl) (by decide) rfl rfl rfl (fun _ g => sp_29 g) ?_
            refine q_putI th (show mE (mtv 26) 85 = some (.putfield 185, 3, 1, 1) from rfl) (Nat.lt_of_le_of_lt d39 (by decide)) rfl (fun h43 t44 => ?_)
            refine q_iconst (show mE (mtv 26) 88 = some (.iconst 1, 1, 0, 0) from rfl) kI_1 ?_
            refine q_ireturn (show mE (mtv 26) 89 = some (.ireturn, 1, 0, 0) from rfl) ?_
            refine qK_v ?_
            refine q_iff (t := 34) (show mE (mtv 25) 28 = some (.ifCond .eq 6, 3, 0, 0) from rfl) (by decide) rfl ?_
            refine q_iinc (show mE (mtv 25) 31 = some (.iinc 1 1, 3, 0, 0) from rfl) (Nat.le_of_ble_eq_true rfl) hl (hl 1 _ rfl) kI_1 (fun lv45 (hl46 : qLs lv45 [some (.ref (0)), some (.int (x1 + (1 : Int32))), some (.int (x2)), some (.int (x3))]) => ?_)
            refine q_iinc (show mE (mtv 25) 34 = some (.iinc 3 1, 3, 0, 0) from rfl) (Nat.le_of_ble_eq_true rfl) hl46 (hl46 3 _ rfl) kI_1 (fun lv47 (hl48 : qLs lv47 [some (.ref (0)), some (.int (x1 + (1 : Int32))), some (.int (x2)), some (.int (x3 + (1 : Int32)))]) => ?_)
            refine q_goto (t := 14) (show mE (mtv 25) 37 = some (.goto (-23), 3, 0, 0) from rfl) rfl ?_
            exact p4 c1 v5 e6 c9 bb10 z11 bb14 d15 d16 c17 c20 c36 h43 t44 lv47 (qLs_wk hl48 (⟨rfl, rfl, rfl, rfl, trivial⟩))
          · refine q_iconst (show mE (mtv 26) 62 = some (.iconst 0, 1, 0, 0) from rfl) kI_0 ?_
            refine q_ireturn (show mE (mtv 26) 63 = some (.ireturn, 1, 0, 0) from rfl) ?_
            refine qK_v ?_
            refine q_ift (t := 34) (show mE (mtv 25) 28 = some (.ifCond .eq 6, 3, 0, 0) from rfl) (by decide) rfl ?_
            refine q_iinc (show mE (mtv 25) 34 = some (.iinc 3 1, 3, 0, 0) from rfl) (Nat.le_of_ble_eq_true rfl) hl (hl 3 _ rfl) kI_1 (fun lv49 (hl50 : qLs lv49 [some (.ref (0)), some (.int (x1)), some (.int (x2)), some (.int (x3 + (1 : Int32)))]) => ?_)
            refine q_goto (t := 14) (show mE (mtv 25) 37 = some (.goto (-23), 3, 0, 0) from rfl) rfl ?_
            exact p5 c1 v5 e6 c9 bb10 z11 bb14 d15 d16 c17 c20 c36 lv49 (qLs_wk hl50 (⟨rfl, rfl, rfl, rfl, trivial⟩))
    · refine q_iconst (show mE (mtv 26) 12 = some (.iconst 0, 1, 0, 0) from rfl) kI_0 ?_
      refine q_ireturn (show mE (mtv 26) 13 = some (.ireturn, 1, 0, 0) from rfl) ?_
      refine qK_v ?_
      refine q_ift (t := 34) (show mE (mtv 25) 28 = some (.ifCond .eq 6, 3, 0, 0) from rfl) (by decide) rfl ?_
      refine q_iinc (show mE (mtv 25) 34 = some (.iinc 3 1, 3, 0, 0) from rfl) (Nat.le_of_ble_eq_true rfl) hl (hl 3 _ rfl) kI_1 (fun lv51 (hl52 : qLs lv51 [some (.ref (0)), some (.int (x1)), some (.int (x2)), some (.int (x3 + (1 : Int32)))]) => ?_)
      refine q_goto (t := 14) (show mE (mtv 25) 37 = some (.goto (-23), 3, 0, 0) from rfl) rfl ?_
      exact p6 c1 v5 e6 c9 lv51 (qLs_wk hl52 (⟨rfl, rfl, rfl, rfl, trivial⟩))
theorem lk_25 {I : Nat → Nat → Int32} {L : Nat → Nat → Int64} {R : Nat → Nat} (hK : RK I L R) (hR : RGr I) {nr : Nat} (hn : nr ≤ 12) (e11 : I 0 11 = Int32.ofNat nr) : ∀ N, (∀ J j lv hh, qH hh J L R → apC I R nr j 0 J → j ≤ ndI I → qLs lv [some (.ref (0)), some (.int (jS (apS I nr) j)), some (.int (Int32.ofNat j)), none] → qW 25 N 4 lv [] hh (apQ I L R nr)) ∧ (∀ J j m lv hh, qH hh J L R → apC I R nr j m J → j < ndI I → m ≤ nkI I → qLs lv [some (.ref (0)), some (.int (jS (apS I nr) j + jS (fun k => bj (chg I nr j k)) m)), some (.int (Int32.ofNat j)), some (.int (Int32.ofNat m))] → qW 25 N 14 lv [] hh (apQ I L R nr)) := by
  have hkb := hK.mi.kb
  have hdb := hK.mi.db
  intro N
  induction N with
  | zero => exact ⟨fun _ _ _ _ _ _ _ _ => qW_0, fun _ _ _ _ _ _ _ _ _ _ => qW_0⟩
  | succ N ih =>
    obtain ⟨ih4, ih14⟩ := ih
    refine ⟨fun J j lv hh t a hj hl => ?_, fun J j m lv hh t a hj hm hl => ?_⟩
    · have f10 : J 0 10 = Int32.ofNat (ndI I) := (a.1 0 10 (by omega)).trans hK.d1
      refine qg_25_4 t hl (fun c1 => ?_) (fun c1 lv' hl' => ?_)
      · rw [f10] at c1
        have := (oN_le (by omega) (by omega)).mp c1
        have ej : j = ndI I := by omega
        subst ej
        exact ⟨J, hh, rfl, t, a⟩
      · rw [f10] at c1
        have := mt (oN_le (by omega) (by omega)).mpr c1
        exact ih14 J j 0 lv' hh t a (by omega) (Nat.zero_le _) (by rw [show jS (fun k => bj (chg I nr j k)) 0 = 0 from rfl, Int32.add_zero]; exact hl')
    · have hr := hK.rr j (by omega)
      have f9 : J 0 9 = Int32.ofNat (nkI I) := (a.1 0 9 (by omega)).trans hK.k1
      have nxt : ∀ m', m' < nkI I → (¬ (J 0 9) ≤ Int32.ofNat m) → m < nkI I := fun m' _ c => by
        rw [f9] at c
        have := mt (oN_le (by omega) (by omega)).mpr c
        omega
      have lt : (¬ (J 0 9) ≤ Int32.ofNat m) → m < nkI I := fun c => by
        rw [f9] at c
        have := mt (oN_le (by omega) (by omega)).mpr c
        omega
      have w0 : m < nkI I → hs (J (R (Int32.ofNat j).toNatClampNeg) 1) (Int32.ofNat m) = hs (I 88 m) (Int32.ofNat j) := fun l => by
        rw [ofN_clamp (by omega), hs_oN (by omega), hs_oN (by omega), a.2 j m (by omega), rvs_h, Bool.false_and, Bool.xor_false]
        exact hK.wi j m (by omega) (by omega)
      have T0 : m < nkI I → T_28 J (R (Int32.ofNat j).toNatClampNeg) (Int32.ofNat m) = T_224 I (Int32.ofNat j) (Int32.ofNat m) := fun l => by
        have w := w0 l
        rw [← canw hK hj l]
        rw [ofN_clamp (show j < 2147483648 by omega)] at w ⊢
        unfold T_28
        rw [w, hK.hw hj l, hs_oN (by omega), ofN_clamp (show m < 2147483648 by omega), a.1 (19 + m) 2 (by omega), a.1 (19 + m) 1 (by omega), a.1 (R j) 0 (by omega)]
      have ru : ∀ v, lrP J (Int32.ofNat j) (Int32.ofNat m) v → (v = -1 ∧ ruM I j m nr = -1) ∨ ∃ i, i < 12 ∧ v = Int32.ofNat i ∧ ruM I j m nr = I (45 + i) 2 := fun v e => by
        rw [e nr ((a.1 0 11 (by omega)).trans e11) hn]
        exact ru_E hR (fun p b hp => a.1 _ b (by omega)) nr hn
      have one : ∀ v, lrP J (Int32.ofNat j) (Int32.ofNat m) v → ¬ v = -1 → ruM I j m nr = J (45 + v.toNatClampNeg) 2 := fun v e h => by
        rcases ru v e with ⟨z, _⟩ | ⟨i, i1, i2, i3⟩
        · exact absurd z h
        · rw [i2, ofN_clamp (by omega), i3, a.1 (45 + i) 2 (by omega)]
      have stay : ∀ lv', m < nkI I → chg I nr j m = false → qLs lv' [some (.ref (0)), some (.int (jS (apS I nr) j + jS (fun k => bj (chg I nr j k)) m)), some (.int (Int32.ofNat j)), some (.int (Int32.ofNat m + (1 : Int32)))] → qW 25 N 14 lv' [] hh (apQ I L R nr) := fun lv' l c hl' => by
        refine ih14 J j (m + 1) lv' hh t (apC_n a c) hj (by omega) ?_
        rw [show jS (fun k => bj (chg I nr j k)) (m + 1) = jS (fun k => bj (chg I nr j k)) m + bj (chg I nr j m) from rfl, c, show bj false = 0 from rfl, Int32.add_zero, ← oN_s]
        exact hl'
      have flip : ∀ lv' h' x, m < nkI I → chg I nr j m = true → decide (¬ x = 0) = !tb (I (R j) 1) m → qH h' (upI J (R (Int32.ofNat j).toNatClampNeg) 1 (xW (J (R (Int32.ofNat j).toNatClampNeg) 1) (Int32.ofNat m) x)) L R → qLs lv' [some (.ref (0)), some (.int (jS (apS I nr) j + jS (fun k => bj (chg I nr j k)) m + (1 : Int32))), some (.int (Int32.ofNat j)), some (.int (Int32.ofNat m + (1 : Int32)))] → qW 25 N 14 lv' [] h' (apQ I L R nr) := fun lv' h' x l c hx t' hl' => by
        rw [ofN_clamp (show j < 2147483648 by omega)] at t'
        refine ih14 _ j (m + 1) lv' h' t' (apC_f hK (by omega) (by omega) a c hx) hj (by omega) ?_
        rw [show jS (fun k => bj (chg I nr j k)) (m + 1) = jS (fun k => bj (chg I nr j k)) m + bj (chg I nr j m) from rfl, c, show bj true = 1 from rfl, ← Int32.add_assoc, ← oN_s]
        exact hl'
      have tbw : m < nkI I → tb (I (R j) 1) m = hs (I 88 m) (Int32.ofNat j) := fun l => by
        rw [hs_oN (by omega)]
        exact hK.wi j m (by omega) (by omega)
      refine qg_25_14 t hl (fun c1 lv' hl' => ?_) (fun c1 v5 e6 c9 _ _ _ _ _ c17 lv' hl' => ?_) (fun c1 v5 e6 c9 _ _ _ _ _ c17 c20 h27 t28 lv' hl' => ?_) (fun c1 v5 e6 c9 _ z11 _ _ _ c17 c20 c36 h43 t44 lv' hl' => ?_) (fun c1 v5 e6 c9 _ z11 _ _ _ c17 c20 c36 lv' hl' => ?_) (fun c1 v5 e6 c9 lv' hl' => ?_)
      · rw [f9] at c1
        have := (oN_le (by omega) (by omega)).mp c1
        have em : m = nkI I := by omega
        subst em
        rw [oN_s] at hl'
        exact ih4 J (j + 1) lv' hh t ⟨a.1, fun d k hd => by rw [a.2 d k hd, rvs_r]⟩ (by omega) hl'
      · have l := lt c1
        rw [w0 l, ← one v5 e6 c9] at c17
        exact stay lv' l (chg_no2 c17) hl'
      · have l := lt c1
        have o := one v5 e6 c9
        rw [w0 l, ← o] at c17
        refine flip lv' h27 _ l (chg_y (by rw [o, c20]; decide) c17 (fun z => by rw [o, c20] at z; exact absurd z (by decide))) ?_ t28 hl'
        rw [tbw l, c20]
        rw [o, c20] at c17
        cases g : hs (I 88 m) (Int32.ofNat j) with
        | true => rfl
        | false => rw [g] at c17; exact absurd rfl c17
      · have l := lt c1
        have o := one v5 e6 c9
        have x1 := z11.resolve_left c20
        rw [w0 l, ← o] at c17
        refine flip lv' h43 _ l (chg_y (by rw [o, x1]; decide) c17 (fun _ => by rw [← T0 l]; exact c36)) ?_ t44 hl'
        rw [tbw l, x1]
        rw [o, x1] at c17
        cases g : hs (I 88 m) (Int32.ofNat j) with
        | false => rfl
        | true => rw [g] at c17; exact absurd rfl c17
      · have l := lt c1
        have o := one v5 e6 c9
        have x1 := z11.resolve_left c20
        exact stay lv' l (chg_no3 (by rw [o, x1]) (by rw [← T0 l]; exact c36)) hl'
      · have l := lt c1
        rcases ru v5 e6 with ⟨_, z⟩ | ⟨i, i1, i2, _⟩
        · exact stay lv' l (chg_no1 z) hl'
        · exfalso
          rw [c9] at i2
          have := congrArg Int32.toInt i2
          rw [ofN_toInt (by omega), show (-1 : Int32).toInt = -1 by decide] at this
          omega
/-! the model -/
def apT (I : Nat → Nat → Int32) (nr : Nat) (k : Nat) : Int32 := jS (fun d => bj (chg I nr d k)) (ndI I)
def apM (I : Nat → Nat → Int32) (nr j m : Nat) (J : Nat → Nat → Int32) : Prop := (∀ a b, a ≠ 88 → J a b = I a b) ∧ ∀ k d, k < 16 → tb (J 88 k) d = (tb (I 88 k) d ^^ (rvs (ndI I) j m k d && chg I nr d k))
theorem apM_n {I J : Nat → Nat → Int32} {nr j m : Nat} (h : apM I nr j m J) (c : chg I nr m j = false) : apM I nr j (m + 1) J := by
  refine ⟨h.1, fun k d hk => ?_⟩
  rw [h.2 k d hk, rvs_s]
  by_cases e : k = j ∧ d = m
  · rw [e.1, e.2, c, Bool.and_false, Bool.and_false]
  · rw [decide_eq_false e, Bool.or_false]
theorem apM_f {I J : Nat → Nat → Int32} {nr j m : Nat} (hm : m < 32) (h : apM I nr j m J) (c : chg I nr m j = true) : apM I nr j (m + 1) (upI J 88 j ((J 88 j) ^^^ ((1 : Int32) <<< (Int32.ofNat m &&& 31)))) := by
  refine ⟨fun a b hn => by rw [upI_ne (fun z => hn z.1)]; exact h.1 a b hn, fun k d hk => ?_⟩
  rw [rvs_s]
  by_cases e : k = j
  · subst e
    rw [upI_s, tb_xor, tb_1shl hm, h.2 k d hk]
    by_cases e2 : d = m
    · subst e2
      rw [decide_eq_true rfl, decide_eq_true ⟨rfl, rfl⟩, rvs_h, c]
      cases tb (I 88 k) d <;> rfl
    · rw [decide_eq_false e2, Bool.xor_false, decide_eq_false (fun z => e2 z.2), Bool.or_false]
  · rw [upI_ne (fun z => e z.2), h.2 k d hk, decide_eq_false (fun z => e z.1), Bool.or_false]
theorem sem_265 {I : Nat → Nat → Int32} (hm : MI I) {nr : Nat} (hn : nr ≤ 12) (e45 : I 85 45 = Int32.ofNat nr) : ∀ n, (∀ J j x3 x4 x5 r, apM I nr j 0 J → j ≤ nkI I → F_265 n 9 J (jS (apT I nr) j) (Int32.ofNat j) x3 x4 x5 = some r → r.1 = jS (apT I nr) (nkI I) ∧ apM I nr (nkI I) 0 r.2) ∧ (∀ J j m x4 x5 r, apM I nr j m J → j < nkI I → m ≤ ndI I → F_265 n 19 J (jS (apT I nr) j + jS (fun d => bj (chg I nr d j)) m) (Int32.ofNat j) (Int32.ofNat m) x4 x5 = some r → r.1 = jS (apT I nr) (nkI I) ∧ apM I nr (nkI I) 0 r.2) ∧ (∀ J j m q r, apM I nr j m J → j < nkI I → m < ndI I → q ≤ nr → F_265 n 33 J (jS (apT I nr) j + jS (fun d => bj (chg I nr d j)) m) (Int32.ofNat j) (Int32.ofNat m) (ruM I m j q) (Int32.ofNat q) = some r → r.1 = jS (apT I nr) (nkI I) ∧ apM I nr (nkI I) 0 r.2) := by
  have hkb := hm.kb
  have hdb := hm.db
  intro n
  induction n with
  | zero => exact ⟨fun _ _ _ _ _ _ _ _ h => (by cases h), fun _ _ _ _ _ _ _ _ _ h => (by cases h), fun _ _ _ _ _ _ _ _ _ h => (by cases h)⟩
  | succ n ih =>
    obtain ⟨ih9, ih19, ih33⟩ := ih
    refine ⟨fun J j x3 x4 x5 r a hj h => ?_, fun J j m x4 x5 r a hj hm' h => ?_, fun J j m q r a hj hm' hq h => ?_⟩
    · simp only [F_265, Nat.reduceEqDiff, reduceIte] at h
      rw [a.1 85 35 (by decide), hm.k] at h
      by_cases g : Int32.ofNat (nkI I) ≤ Int32.ofNat j
      · have := (oN_le (by omega) (by omega)).mp g
        rw [if_pos g] at h
        have ej : j = nkI I := by omega
        subst ej
        cases h
        exact ⟨rfl, a⟩
      · have := mt (oN_le (by omega) (by omega)).mpr g
        rw [if_neg g] at h
        refine ih19 J j 0 x4 x5 r a (by omega) (Nat.zero_le _) ?_
        rw [show jS (fun d => bj (chg I nr d j)) 0 = 0 from rfl, Int32.add_zero]
        exact h
    · simp only [F_265, Nat.reduceEqDiff, reduceIte] at h
      rw [a.1 85 36 (by decide), hm.d] at h
      by_cases g : Int32.ofNat (ndI I) ≤ Int32.ofNat m
      · have := (oN_le (by omega) (by omega)).mp g
        rw [if_pos g] at h
        have em : m = ndI I := by omega
        subst em
        rw [oN_s] at h
        exact ih9 J (j + 1) _ x4 x5 r ⟨a.1, fun k d hk => by rw [a.2 k d hk, rvs_r]⟩ (by omega) h
      · have := mt (oN_le (by omega) (by omega)).mpr g
        rw [if_neg g] at h
        exact ih33 J j m 0 r a hj (by omega) (Nat.zero_le _) h
    · simp only [F_265, Nat.reduceEqDiff, reduceIte] at h
      rw [a.1 85 45 (by decide), e45] at h
      have w0 : hs (J 88 (Int32.ofNat j).toNatClampNeg) (Int32.ofNat m) = hs (I 88 j) (Int32.ofNat m) := by
        rw [ofN_clamp (by omega), hs_oN (by omega), hs_oN (by omega), a.2 j m (by omega), rvs_h, Bool.false_and, Bool.xor_false]
      have T0 : T_224 J (Int32.ofNat m) (Int32.ofNat j) = T_224 I (Int32.ofNat m) (Int32.ofNat j) := by
        unfold T_224 T_225
        rw [w0, a.1 92 _ (by decide), a.1 95 _ (by decide), a.1 97 _ (by decide), ofN_clamp (show j < 2147483648 by omega)]
      by_cases g : Int32.ofNat nr ≤ Int32.ofNat q
      · have := (oN_le (by omega) (by omega)).mp g
        rw [if_pos g] at h
        have eq : q = nr := by omega
        subst eq
        have stay : ∀ x, chg I q m j = false → F_265 n 19 J (jS (apT I q) j + jS (fun d => bj (chg I q d j)) m) (Int32.ofNat j) (Int32.ofNat m + (1 : Int32)) x (Int32.ofNat q) = some r → r.1 = jS (apT I q) (nkI I) ∧ apM I q (nkI I) 0 r.2 := fun x c h' => by
          refine ih19 J j (m + 1) x (Int32.ofNat q) r (apM_n a c) hj (by omega) ?_
          rw [show jS (fun d => bj (chg I q d j)) (m + 1) = jS (fun d => bj (chg I q d j)) m + bj (chg I q m j) from rfl, c, show bj false = 0 from rfl, Int32.add_zero, ← oN_s]
          exact h'
        have flip : ∀ x, chg I q m j = true → F_265 n 19 (upI J 88 ((Int32.ofNat j).toNatClampNeg) ((J 88 ((Int32.ofNat j).toNatClampNeg)) ^^^ ((1 : Int32) <<< (Int32.ofNat m &&& 31)))) (jS (apT I q) j + jS (fun d => bj (chg I q d j)) m + (1 : Int32)) (Int32.ofNat j) (Int32.ofNat m + (1 : Int32)) x (Int32.ofNat q) = some r → r.1 = jS (apT I q) (nkI I) ∧ apM I q (nkI I) 0 r.2 := fun x c h' => by
          rw [ofN_clamp (show j < 2147483648 by omega)] at h'
          refine ih19 _ j (m + 1) x (Int32.ofNat q) r (apM_f (by omega) a c) hj (by omega) ?_
          rw [show jS (fun d => bj (chg I q d j)) (m + 1) = jS (fun d => bj (chg I q d j)) m + bj (chg I q m j) from rfl, c, show bj true = 1 from rfl, ← Int32.add_assoc, ← oN_s]
          exact h'
        by_cases g1 : ruM I m j q = -1
        · rw [if_pos g1] at h
          exact stay _ (chg_no1 g1) h
        · rw [if_neg g1] at h
          by_cases g2 : ruM I m j q = b2 (hs (J 88 (Int32.ofNat j).toNatClampNeg) (Int32.ofNat m) = true)
          · rw [if_pos g2] at h
            exact stay _ (chg_no2 (by rw [← w0]; exact g2)) h
          · rw [if_neg g2] at h
            have g2' : ¬ ruM I m j q = b2 (hs (I 88 j) (Int32.ofNat m) = true) := by rw [← w0]; exact g2
            by_cases g3 : ruM I m j q = 1
            · rw [if_pos g3] at h
              by_cases g4 : T_224 J (Int32.ofNat m) (Int32.ofNat j) = true
              · rw [if_pos g4] at h
                exact flip _ (chg_y g1 g2' (fun _ => by rw [← T0]; exact g4)) h
              · rw [if_neg g4] at h
                exact stay _ (chg_no3 g3 (by rw [← T0]; exact g4)) h
            · rw [if_neg g3] at h
              exact flip _ (chg_y g1 g2' (fun z => absurd z g3)) h
      · have := mt (oN_le (by omega) (by omega)).mpr g
        rw [if_neg g, ofN_clamp (show q < 2147483648 by omega), a.1 101 _ (by decide), a.1 102 _ (by decide), a.1 103 _ (by decide), oN_s] at h
        refine ih33 J j m (q + 1) r a hj hm' (by omega) ?_
        unfold ruM
        by_cases g1 : hs (I 101 q) (Int32.ofNat j) = true
        · rw [if_pos g1] at h
          by_cases g2 : hs (I 102 q) (Int32.ofNat m) = true
          · rw [if_pos g2] at h
            rw [if_pos ⟨g1, g2⟩]; exact h
          · rw [if_neg g2] at h
            rw [if_neg (fun z => g2 z.2)]; exact h
        · rw [if_neg g1] at h
          rw [if_neg (fun z => g1 z.1)]; exact h
/-- the rules are applied: both sides -/
theorem ok_27 {h : sH} {I : Nat → Nat → Int32} {L : Nat → Nat → Int64} {R : Nat → Nat} (th : qH h I L R) (hK : RK I L R) (hG : RG I) (hB : BG I) {r : sR} (gW : qGo 25 [.ref (0)] h r) : ∀ r2 : sR, qGo 265 [.ref (85)] r.2 r2 → opD r.1 r2.1 r2.2 RK := by
  have hm := hK.mi
  have hkb := hm.kb
  have hdb := hm.db
  have hR : RGr I := hG.2.2.2.2.2
  have b11 := hB.2.2.2.1
  have e11 : I 0 11 = Int32.ofNat (I 0 11).toNatClampNeg := i32_clamp b11.1
  have hn : (I 0 11).toNatClampNeg ≤ 12 := clampB b11
  generalize (I 0 11).toNatClampNeg = nr at e11 hn
  have W : apQ I L R nr r := qg_25 (Q := apQ I L R nr) gW (fun N lv hl => (lk_25 hK hR hn e11 N).1 I 0 lv h th ⟨fun _ _ _ => rfl, fun d k hd => by
    unfold rvs
    rw [decide_eq_false (by omega), Bool.false_and, Bool.xor_false]⟩ (Nat.zero_le _) hl)
  obtain ⟨Jc, h1, rfl, tc, ac⟩ := W
  intro r2 g
  refine qg_265 (Q := fun r2 => opD _ r2.1 r2.2 RK) tc g (fun h2 t2 N lv hl => ?_)
  have eM : ∀ a b, 45 ≤ a → ¬ (a = 85 ∧ b = 42) → upI Jc 85 42 (0 : Int32) a b = I a b := fun a b q1 q2 => by rw [upI_ne q2, ac.1 a b (by omega)]
  have hmM : MI (upI Jc 85 42 (0 : Int32)) := MI_V (I := I) (fun a b q1 q2 => eM a b (by omega) (fun z => q2 (by unfold scr; omega))) hm
  have q_nk : nkI (upI Jc 85 42 (0 : Int32)) = nkI I := by unfold nkI; rw [eM 85 35 (by omega) (by omega)]
  have q_nd : ndI (upI Jc 85 42 (0 : Int32)) = ndI I := by unfold ndI; rw [eM 85 36 (by omega) (by omega)]
  have cg : ∀ d k, chg (upI Jc 85 42 (0 : Int32)) nr d k = chg I nr d k := fun d k => chg_cg (fun a b q => eM a b (by omega) (by omega))
  refine qW_mono ?_ ((fl_265 N).1 _ 0 0 0 0 0 lv h2 t2 hl)
  rintro r3 ⟨n, x, e, h3, rfl, q⟩
  obtain ⟨s1, s2, s3⟩ := (sem_265 hmM hn ((eM 85 45 (by omega) (by omega)).trans (hG.1.2.2.2.2.2.1.trans e11)) n).1 _ 0 0 0 0 x ⟨fun _ _ _ => rfl, fun k d hk => by
    unfold rvs
    rw [decide_eq_false (by omega), Bool.false_and, Bool.xor_false]⟩ (Nat.zero_le _) e
  rw [q_nk] at s1 s3
  rw [q_nd] at s3
  have cnt : jS (apS I nr) (ndI I) = x.1 := by
    rw [s1]
    have e1 : apT (upI Jc 85 42 (0 : Int32)) nr = fun k => jS (fun d => bj (chg I nr d k)) (ndI I) := by
      funext k
      unfold apT
      rw [q_nd]
      exact jS_ext (fun d _ => by rw [cg])
    rw [e1]
    exact jS_swap (f := fun d k => bj (chg I nr d k))
  have hd88 : ∀ k d, k < 16 → tb (x.2 88 k) d = (tb (I 88 k) d ^^ (decide (k < nkI I ∧ d < ndI I) && chg I nr d k)) := fun k d hk => by
    rw [s3 k d hk, eM 88 k (by omega) (by omega), cg]
    unfold rvs
    rw [show decide ((k < nkI I ∧ d < ndI I) ∨ (k = nkI I ∧ d < 0)) = decide (k < nkI I ∧ d < ndI I) from decide_eq_decide.mpr (by omega)]
  have hfr : ∀ a b, ¬ scr a b → ¬ (a = 88 ∨ (35 ≤ a ∧ a ≤ 44 ∧ b = 1)) → x.2 a b = I a b := fun a b q1 q2 => by
    rw [s2 a b (by omega), upI_ne (fun z => q1 (by unfold scr; omega)), ac.1 a b (by omega)]
  have hf : ∀ k d, k < nkI I → d < ndI I → tb (I 88 k) d = false → chg I nr d k = true → (I 95 k &&& I 97 d) = 0 := fun k d hk hd hw hc => by
    have o := ru_E hR (J := I) (fun _ _ _ => rfl) (d := d) (k := k) nr hn
    refine can_fit hm hd hk ?_
    refine Decidable.of_not_not (fun nT => ?_)
    rcases o with ⟨_, z⟩ | ⟨i, i1, _, i3⟩
    · rw [chg_no1 z] at hc; cases hc
    · rcases rule_z th i1 with z | z
      · rw [chg_no2 (by rw [i3, z, hs_oN (by omega), hw]; rfl)] at hc; cases hc
      · rw [chg_no3 (by rw [i3, z]) nT] at hc; cases hc
  have q_nk' : nkI x.2 = nkI I := by unfold nkI; rw [hfr 85 35 (by unfold scr; omega) (by omega)]
  have q_nd' : ndI x.2 = ndI I := by unfold ndI; rw [hfr 85 36 (by unfold scr; omega) (by omega)]
  refine ⟨_, x.2, L, R, rfl, congrArg (fun z => Sum.inl (some (Value.int z))) cnt.symm, q, RK_up_wish hK hfr (fun _ _ => rfl) rfl (fun _ => rfl) (MI_up_wish hm hfr (fun d k hk hb => ?_) (fun d k hk hb => ?_)) (fun d k hd hk => ?_) (fun d k hd hk => ?_)⟩
  · rw [hd88 k d hk] at hb
    rw [q_nk', q_nd']
    by_cases g : k < nkI I ∧ d < ndI I
    · exact g
    · rw [decide_eq_false g, Bool.false_and, Bool.xor_false] at hb
      exact hm.wu d k hk hb
  · rw [hd88 k d hk] at hb
    rw [hfr 95 k (by unfold scr; omega) (by omega), hfr 97 d (by unfold scr; omega) (by omega)]
    cases g : tb (I 88 k) d with
    | true => exact hm.wf d k hk g
    | false =>
      rw [g, Bool.false_xor, Bool.and_eq_true, decide_eq_true_eq] at hb
      exact hf k d hb.1.1 hb.1.2 g hb.2
  · have hr := hK.rr d hd
    rw [hd88 k d hk, s2 (R d) 1 (by omega), upI_ne (by omega), ac.2 d k hd, hK.wi d k hd hk]
    unfold rvs
    rw [show decide ((d < ndI I ∧ k < nkI I) ∨ (d = ndI I ∧ k < 0)) = decide (k < nkI I ∧ d < ndI I) from decide_eq_decide.mpr (by omega)]
  · have hr := hK.rr d hd
    rw [s2 (R d) 1 (by omega), upI_ne (by omega), ac.2 d k hd, hK.w0 d k hd hk]
    unfold rvs
    rw [decide_eq_false (by omega)]; rfl
