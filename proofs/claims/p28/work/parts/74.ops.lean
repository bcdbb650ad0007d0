/-! part 74: rows and rules for the calls on keys and doors -/
theorem qH_pR {h : sH} {I : Nat → Nat → Int32} {L : Nat → Nat → Int64} {R : Nat → Nat} {t j x : Nat} {w : List Value} (th : qH h I L R) (hc : h[13]? = some (.inl (t, w))) (hj : j < w.length) (ht : t = 6) (h1 : 35 ≤ x) (h2 : x ≤ 44) : qH (h.set 13 (.inl (t, w.set j (.ref x)))) I L (upR R j x) := by
  obtain ⟨t1, rfl, rfl, rfl⟩ := th
  subst ht
  have hj' : j < (sVs (.inl (6, w))).length := hj
  have hv : (sVs (.inl (6, w)))[j]? = some (w[j]'hj) := List.getElem?_eq_getElem hj
  obtain ⟨k, hk, -⟩ : ∃ k, w[j]'hj = .ref k ∧ True := by
    obtain ⟨k, hk, -⟩ := (t1.2.1 13 _ (by decide) hc).2 j _ hv
    exact ⟨k, hk, trivial⟩
  rw [hk] at hv
  have e : (.inl (6, w.set j (.ref x)) : sC) = tPut (.inl (6, w)) j (.ref x) := rfl
  rw [e]
  refine ⟨tInv_put t1 hc ⟨x, rfl, h1, h2⟩ (fun z => absurd z (by decide)), ?_, ?_, ?_⟩
  · rw [vI_put hc hj']
    exact upI_eq ((vI_at hc hv).trans rfl)
  · rw [vL_put hc hj']
    exact upL_eq ((vL_at hc hv).trans rfl)
  · rw [vR_put hc hj', if_pos rfl]; rfl
theorem q_aastoreD {K N pc a1 a2 ln : Nat} {Q : sR → Prop} {lv : sL} {st : List Value} {h : sH} {I : Nat → Nat → Int32} {L : Nat → Nat → Int64} {R : Nat → Nat} {i : Int32} {x : Nat} (th : qH h I L R) (he : mE (mtv K) pc = some (.aastore, ln, a1, a2)) (hx : 35 ≤ x) (hx2 : x ≤ 44) (k : sIn i 10 = true → ∀ h', qH h' I L (upR R i.toNatClampNeg x) → qW K N (pc + 1) lv st h' Q) : qW K N pc lv (.ref x :: .int i :: .ref 13 :: st) h Q := q_H he rfl (fun z hz => by
  unfold sHp at hz; dsimp only at hz
  split at hz
  · next t w hq =>
    split at hz
    · split at hz
      · next e =>
        cases hz
        obtain ⟨e1, -, -, -⟩ := e
        obtain ⟨g1, g⟩ := tSh_ln th.1 (a := 13) (by decide) hq (t := 6) (n := 10) rfl
        have hj := sIn_lt e1
        rw [g] at e1
        exact k e1 _ (qH_pR th hq hj g1 hx hx2)
      · cases hz
    · cases hz
  · cases hz) (fun g D cl sl => sNo he rfl g rfl rfl rfl rfl)
theorem upR_s {R : Nat → Nat} {f x : Nat} : upR R f x f = x := if_pos rfl
theorem upR_ne {R : Nat → Nat} {f x g : Nat} (h : ¬ g = f) : upR R f x g = R g := if_neg h
/-! bounds of the counts -/
theorem inR_oN {x : Int32} {n : Nat} {lo hi : Int} (e : x = Int32.ofNat n) (h1 : lo ≤ (n : Int)) (h2 : (n : Int) ≤ hi) (h3 : n < 2147483648) : inR x lo hi := by
  unfold inR
  rw [e, ofN_toInt h3]
  exact ⟨h1, h2⟩
theorem RK.bk {I : Nat → Nat → Int32} {L : Nat → Nat → Int64} {R : Nat → Nat} (h : RK I L R) : inR (I 0 9) 0 16 := inR_oN h.k1 (by omega) (by have := h.mi.kb; omega) (by have := h.mi.kb; omega)
theorem RK.bd {I : Nat → Nat → Int32} {L : Nat → Nat → Int64} {R : Nat → Nat} (h : RK I L R) : inR (I 0 10) 0 10 := inR_oN h.d1 (by omega) (by have := h.mi.db; omega) (by have := h.mi.db; omega)
theorem RK.bb {I : Nat → Nat → Int32} {L : Nat → Nat → Int64} {R : Nat → Nat} (h : RK I L R) : inR (I 0 12) 0 4 := inR_oN h.b1 (by omega) (by have := h.mi.bb; omega) (by have := h.mi.bb; omega)
theorem RK.bc {I : Nat → Nat → Int32} {L : Nat → Nat → Int64} {R : Nat → Nat} (h : RK I L R) : inR (I 1 1) 3 6 := inR_oN h.c1 (by have := h.mi.c3; omega) (by have := h.mi.c6; omega) (by have := h.mi.c6; omega)
theorem RK.bm {I : Nat → Nat → Int32} {L : Nat → Nat → Int64} {R : Nat → Nat} (h : RK I L R) : inR (I 1 2) 2 6 := inR_oN h.m1 (by have := h.mi.m2; omega) (by have := h.mi.m6; omega) (by have := h.mi.m6; omega)
theorem RK.ba {I : Nat → Nat → Int32} {L : Nat → Nat → Int64} {R : Nat → Nat} (h : RK I L R) : inR (I 1 3) 1 5 := by
  rw [h.ap]; exact h.mi.ap
theorem RK.s1 {I : Nat → Nat → Int32} {L : Nat → Nat → Int64} {R : Nat → Nat} (h : RK I L R) : I 1 6 = Int32.ofNat (szI I) := h.sz.trans h.mi.s
theorem RK.bs {I : Nat → Nat → Int32} {L : Nat → Nat → Int64} {R : Nat → Nat} (h : RK I L R) : inR (I 1 6) 0 6 := inR_oN h.s1 (by omega) (by have := h.mi.sc; have := h.mi.c6; omega) (by have := h.mi.sc; have := h.mi.c6; omega)
/-! what scratch cells don't touch -/
theorem RK_s {I J : Nat → Nat → Int32} {L K : Nat → Nat → Int64} {R : Nat → Nat} (h : RK I L R) (e : agS J I) (eL0 : ∀ k, k < 16 → K (19 + k) 0 = L (19 + k) 0) (eL1 : K 1 5 = L 1 5) (eL15 : ∀ b, K 15 b = L 15 b) : RK J K R := RK_up_0 h e eL0 eL1 eL15 (MI_S e h.mi)
theorem agS_up {J I : Nat → Nat → Int32} {a b : Nat} {x : Int32} (hs : scr a b) (h : agS J I) : agS (upI J a b x) I := fun c d hn => by
  rw [upI_ne (fun q => hn (by rw [q.1, q.2]; exact hs))]
  exact h c d hn
theorem agS_0 {I : Nat → Nat → Int32} : agS I I := fun _ _ _ => rfl
theorem scr_t : scr 85 42 := by unfold scr; omega
theorem RK_t {I : Nat → Nat → Int32} {L : Nat → Nat → Int64} {R : Nat → Nat} (k : Int32) (h : RK I L R) : RK (upI I 85 42 k) L R := RK_s h (agS_up scr_t agS_0) (fun _ _ => rfl) rfl (fun _ => rfl)
theorem RK_L {I : Nat → Nat → Int32} {L : Nat → Nat → Int64} {R : Nat → Nat} {f : Nat} {x : Int64} (h : RK I L R) : RK I (upL L 117 f x) R := RK_s h agS_0 (fun k _ => upL_ne (by omega)) (upL_ne (by omega)) (fun b => upL_ne (by omega))
/-! numbers that may be -/
theorem rg_n {x y : Int32} {n : Nat} (e : y = Int32.ofNat n) (hn : n < 2147483648) (h0 : ¬ x < 0) (h1 : x < y) : ∃ k, k < n ∧ x = Int32.ofNat k := by
  have z : (0 : Int32).toInt = 0 := rfl
  rw [Int32.lt_iff_toInt_lt, z] at h0
  have e2 := i32_clamp (d := x) (by omega)
  refine ⟨x.toNatClampNeg, ?_, e2⟩
  rw [e, e2] at h1
  exact (oN_lt (nn_lt x) hn).mp h1
theorem RK.gk {I : Nat → Nat → Int32} {L : Nat → Nat → Int64} {R : Nat → Nat} (h : RK I L R) {x : Int32} (h0 : ¬ x < 0) (h1 : x < I 0 9) : ∃ k, k < nkI I ∧ x = Int32.ofNat k := rg_n h.k1 (by have := h.mi.kb; omega) h0 h1
theorem RK.gd {I : Nat → Nat → Int32} {L : Nat → Nat → Int64} {R : Nat → Nat} (h : RK I L R) {x : Int32} (h0 : ¬ x < 0) (h1 : x < I 0 10) : ∃ k, k < ndI I ∧ x = Int32.ofNat k := rg_n h.d1 (by have := h.mi.db; omega) h0 h1
theorem RK.gc {I : Nat → Nat → Int32} {L : Nat → Nat → Int64} {R : Nat → Nat} (h : RK I L R) {x : Int32} (h0 : ¬ x < 0) (h1 : x < I 1 1) : ∃ k, k < ncI I ∧ x = Int32.ofNat k := rg_n h.c1 (by have := h.mi.c6; omega) h0 h1
theorem rg_b {x lo hi : Int32} {a b : Nat} (e1 : lo = Int32.ofNat a) (e2 : hi = Int32.ofNat b) (ha : a < 2147483648) (hb : b < 2147483648) (h : lo ≤ x ∧ x ≤ hi) : ∃ k, a ≤ k ∧ k ≤ b ∧ x = Int32.ofNat k := by
  have h1 := h.1
  rw [e1, Int32.le_iff_toInt_le, ofN_toInt ha] at h1
  have e3 := i32_clamp (d := x) (by omega)
  refine ⟨x.toNatClampNeg, ?_, ?_, e3⟩
  · have := h.1
    rw [e1, e3] at this
    exact (oN_le ha (nn_lt x)).mp this
  · have := h.2
    rw [e2, e3] at this
    exact (oN_le (nn_lt x) hb).mp this
/-- a wish, on both sides -/
theorem RK.hw {I : Nat → Nat → Int32} {L : Nat → Nat → Int64} {R : Nat → Nat} (h : RK I L R) {d k : Nat} (hd : d < ndI I) (hk : k < nkI I) : hs (I (R d) 1) (Int32.ofNat k) = tb (I 88 k) d := by
  have := h.mi.db
  have := h.mi.kb
  rw [hs_oN (by omega), h.wi d k (by omega) (by omega)]
theorem canw {I : Nat → Nat → Int32} {L : Nat → Nat → Int64} {R : Nat → Nat} (h : RK I L R) {d k : Nat} (hd : d < ndI I) (hk : k < nkI I) : T_28 I (R d) (Int32.ofNat k) = T_224 I (Int32.ofNat d) (Int32.ofNat k) := by
  have h1 := h.mi.db
  have h2 := h.mi.kb
  unfold T_28 T_224 T_225
  rw [ofN_clamp (by omega), ofN_clamp (by omega), h.hw hd hk, hs_oN (by omega), h.kl k (by omega), h.kp k hk, h.wa d (by omega)]
  cases tb (I 88 k) d <;> rfl
/-- counts of bits: two halves are counted each on its own -/
theorem land_sp {a b c d : Nat} (hb : b < 256) (hd : d < 256) : Nat.land (256 * a + b) (256 * c + d) = 256 * Nat.land a c + Nat.land b d := by
  have hbd : (b &&& d) < 2 ^ 8 := Nat.lt_of_le_of_lt Nat.and_le_left hb
  have hb' : b < 2 ^ 8 := hb
  have hd' : d < 2 ^ 8 := hd
  apply Nat.eq_of_testBit_eq
  intro j
  show ((2 ^ 8 * a + b) &&& (2 ^ 8 * c + d)).testBit j = (2 ^ 8 * (a &&& c) + (b &&& d)).testBit j
  rw [Nat.testBit_and, Nat.testBit_two_pow_mul_add _ hb', Nat.testBit_two_pow_mul_add _ hd', Nat.testBit_two_pow_mul_add _ hbd]
  by_cases g : j < 8
  · rw [if_pos g, if_pos g, if_pos g, Nat.testBit_and]
  · rw [if_neg g, if_neg g, if_neg g, Nat.testBit_and]
def pb1 (h : Nat) : Nat := h - Nat.land (h / 2) 85
def pb2 (n : Nat) : Nat := Nat.land n 51 + Nat.land (n / 4) 51
def pb3 (n : Nat) : Nat := Nat.land (n + n / 16) 15
set_option maxRecDepth 100000 in
theorem pb_a : ∀ h, h < 256 → Nat.land (h / 2) 85 ≤ h ∧ pb1 h ≤ 170 ∧ (∀ b, b < 2 → Nat.land (128 * b + h / 2) 85 = Nat.land (h / 2) 85) := by decide +kernel
set_option maxRecDepth 100000 in
theorem pb_b : ∀ h, h < 256 → pb2 (pb1 h) ≤ 68 ∧ pb2 (pb1 h) % 16 ≤ 4 ∧ (∀ b, b < 4 → Nat.land (64 * b + pb1 h / 4) 51 = Nat.land (pb1 h / 4) 51) := by decide +kernel
set_option maxRecDepth 100000 in
theorem pb_c : ∀ n, n < 69 → pb3 n ≤ 15 ∧ ∀ b, b < 5 → Nat.land (n + n / 16 + 16 * b) 15 = pb3 n := by decide +kernel
set_option maxRecDepth 100000 in
theorem pb_d : ∀ h, h < 256 → pb3 (pb2 (pb1 h)) = pcN h 8 := by decide +kernel
theorem pb_e : ∀ n, n < 31 → Nat.land n 63 = n := by decide +kernel
theorem land_0 {a c : Nat} (ha : a < 256) (hc : c < 256) (m : Nat) : Nat.land a (256 * m + c) = Nat.land a c := by
  have := land_sp (a := 0) (b := a) (c := m) (d := c) ha hc
  rw [Nat.mul_zero, Nat.zero_add] at this
  rw [this, show Nat.land 0 m = 0 from Nat.zero_and m, Nat.mul_zero, Nat.zero_add]
theorem pcN_lo {a b : Nat} : ∀ j, j ≤ 8 → pcN (256 * a + b) j = pcN b j
  | 0, _ => rfl
  | j + 1, hj => by
    show pcN (256 * a + b) j + (256 * a + b) / 2 ^ j % 2 = pcN b j + b / 2 ^ j % 2
    rw [pcN_lo j (by omega)]
    congr 1
    rcases (show j = 0 ∨ j = 1 ∨ j = 2 ∨ j = 3 ∨ j = 4 ∨ j = 5 ∨ j = 6 ∨ j = 7 by omega) with rfl | rfl | rfl | rfl | rfl | rfl | rfl | rfl <;> simp only [Nat.reducePow] <;> omega
theorem pcN_hi {a b : Nat} (hb : b < 256) : ∀ j, pcN (256 * a + b) (8 + j) = pcN (256 * a + b) 8 + pcN a j
  | 0 => rfl
  | j + 1 => by
    show pcN (256 * a + b) (8 + j) + (256 * a + b) / 2 ^ (8 + j) % 2 = pcN (256 * a + b) 8 + (pcN a j + a / 2 ^ j % 2)
    rw [pcN_hi hb j, Nat.pow_add, ← Nat.div_div_eq_div_mul, show (256 * a + b) / 2 ^ 8 = a by simp only [Nat.reducePow]; omega, Nat.add_assoc]
theorem bcN16 {n : Nat} (hn : n < 65536) : bcN n = pcN n 16 := by
  obtain ⟨a, b, rfl, ha, hb⟩ : ∃ a b, n = 256 * a + b ∧ a < 256 ∧ b < 256 := ⟨n / 256, n % 256, by omega, by omega, Nat.mod_lt _ (by decide)⟩
  obtain ⟨p1, p2, p3⟩ := pb_a a ha
  obtain ⟨q1, q2, q3⟩ := pb_a b hb
  have e1 : bc1 (256 * a + b) = 256 * pb1 a + pb1 b := by
    have s : (256 * a + b) >>> 1 = 256 * (a / 2) + (128 * (a % 2) + b / 2) := by
      rw [Nat.shiftRight_eq_div_pow]; simp only [Nat.reducePow]; omega
    have m : Nat.land ((256 * a + b) >>> 1) 1431655765 = 256 * Nat.land (a / 2) 85 + Nat.land (b / 2) 85 := by
      rw [s, show (1431655765 : Nat) = 256 * 5592405 + 85 from rfl, land_sp (by omega) (by decide), q3 _ (Nat.mod_lt _ (by decide)), show (5592405 : Nat) = 256 * 21845 + 85 from rfl, land_0 (by omega) (by decide)]
    unfold bc1 nSub pb1
    rw [m]
    omega
  have ed : pb3 (pb2 (pb1 a)) = pcN a 8 := pb_d a ha
  have ed' : pb3 (pb2 (pb1 b)) = pcN b 8 := pb_d b hb
  obtain ⟨r1, r2, _⟩ := pb_b a ha
  obtain ⟨s1, s2, s3⟩ := pb_b b hb
  generalize pb1 a = a1 at e1 p2 ed r1 r2
  generalize pb1 b = b1 at e1 q2 ed' s1 s2 s3
  have e2 : bc2 (256 * a1 + b1) = 256 * pb2 a1 + pb2 b1 := by
    have s : (256 * a1 + b1) >>> 2 = 256 * (a1 / 4) + (64 * (a1 % 4) + b1 / 4) := by
      rw [Nat.shiftRight_eq_div_pow]; simp only [Nat.reducePow]; omega
    have m : Nat.land ((256 * a1 + b1) >>> 2) 858993459 = 256 * Nat.land (a1 / 4) 51 + Nat.land (b1 / 4) 51 := by
      rw [s, show (858993459 : Nat) = 256 * 3355443 + 51 from rfl, land_sp (by omega) (by decide), s3 _ (Nat.mod_lt _ (by decide)), show (3355443 : Nat) = 256 * 13107 + 51 from rfl, land_0 (by omega) (by decide)]
    have m2 : Nat.land (256 * a1 + b1) 858993459 = 256 * Nat.land a1 51 + Nat.land b1 51 := by
      rw [show (858993459 : Nat) = 256 * 3355443 + 51 from rfl, land_sp (by omega) (by decide), show (3355443 : Nat) = 256 * 13107 + 51 from rfl, land_0 (by omega) (by decide)]
    unfold pb2 at r1 s1
    unfold bc2 nAdd pb2
    rw [m, m2, Nat.mod_eq_of_lt (by omega)]
    omega
  generalize pb2 a1 = a2 at e2 r1 r2 ed
  generalize pb2 b1 = b2 at e2 s1 s2 ed'
  obtain ⟨t1, t2⟩ := pb_c a2 (by omega)
  obtain ⟨u1, u2⟩ := pb_c b2 (by omega)
  have e3 : bc3 (256 * a2 + b2) = 256 * pb3 a2 + pb3 b2 := by
    have s : nAdd (256 * a2 + b2) ((256 * a2 + b2) >>> 4) = 256 * (a2 + a2 / 16) + (b2 + b2 / 16 + 16 * (a2 % 16)) := by
      unfold nAdd
      rw [Nat.shiftRight_eq_div_pow]
      simp only [Nat.reducePow]
      rw [Nat.mod_eq_of_lt (by omega)]
      omega
    unfold bc3
    rw [s, show (252645135 : Nat) = 256 * 986895 + 15 from rfl, land_sp (by omega) (by decide), u2 _ (by omega), show (986895 : Nat) = 256 * 3855 + 15 from rfl, land_0 (by omega) (by decide)]
    rfl
  generalize pb3 a2 = a3 at e3 t1 ed
  generalize pb3 b2 = b3 at e3 u1 ed'
  have e4 : bc4 (256 * a3 + b3) = 256 * a3 + (b3 + a3) := by
    unfold bc4 nAdd
    rw [Nat.shiftRight_eq_div_pow]
    simp only [Nat.reducePow]
    rw [Nat.mod_eq_of_lt (by omega)]
    omega
  have e5 : bc5 (256 * a3 + (b3 + a3)) = b3 + a3 := by
    have s : nAdd (256 * a3 + (b3 + a3)) ((256 * a3 + (b3 + a3)) >>> 16) = 256 * a3 + (b3 + a3) := by
      unfold nAdd
      rw [Nat.shiftRight_eq_div_pow]
      simp only [Nat.reducePow]
      rw [Nat.mod_eq_of_lt (by omega)]
      omega
    unfold bc5
    rw [s, show (63 : Nat) = 256 * 0 + 63 from rfl, land_sp (by omega) (by decide), show Nat.land a3 0 = 0 from Nat.and_zero a3, pb_e _ (by omega)]
    omega
  have e6 : pcN (256 * a + b) 16 = pcN b 8 + pcN a 8 := by
    have := pcN_hi (a := a) (b := b) hb 8
    rw [this, pcN_lo 8 (Nat.le_refl _)]
  unfold bcN
  rw [e1, e2, e3, e4, e5, e6, ← ed, ← ed']
theorem bc_eq16 {x : Int32} (h : 0 ≤ x.toInt ∧ x.toInt ≤ 65535) : bc32 x = bcs x 31 := by
  apply nJn_inj
  have h1 := (i32_nn h.1).2
  have h2 : nJn x < 65536 := by
    show x.toBitVec.toNat < 65536
    omega
  rw [nJn_bc, nJn_bcs x 31 (by decide), bcN16 h2]
  exact (pcN_st (m := 16) h2 15).symm
theorem bcs_jS (x : Int32) : ∀ j, bcs x j = jS (fun k => bj (tb x k)) j
  | 0 => rfl
  | j + 1 => by
    show bcs x j + b2 (tb x j = true) = jS (fun k => bj (tb x k)) j + bj (tb x j)
    rw [bcs_jS x j, bj_b2]
theorem jS_trunc {f : Nat → Int32} {m : Nat} (h : ∀ k, m ≤ k → f k = 0) : ∀ j, jS f (m + j) = jS f m
  | 0 => rfl
  | j + 1 => by
    show jS f (m + j) + f (m + j) = _
    rw [jS_trunc h j, h (m + j) (by omega), Int32.add_zero]
theorem bc_w {x : Int32} {m : Nat} (hm : m ≤ 16) (h : ∀ k, m ≤ k → tb x k = false) : bc32 x = jS (fun k => bj (tb x k)) m := by
  have h1 := tb_small (x := x) (m := 16) (by decide) (fun k hk => h k (by omega))
  rw [bc_eq16 (by omega), bcs_jS]
  have := jS_trunc (f := fun k => bj (tb x k)) (m := m) (fun k hk => by rw [h k hk]; rfl) (31 - m)
  rw [show m + (31 - m) = 31 by omega] at this
  exact this
/-- how many keys are wished for a door, of the model -/
theorem cnt_226 {I : Nat → Nat → Int32} {d : Nat} (hd : d < 32) : ∀ m j x, j + m < 1000 → G_226 I (Int32.ofNat d) j x m = x + jS (fun k => bj (tb (I 88 (j + k)) d)) m
  | 0, _, x, _ => (Int32.add_zero x).symm
  | m + 1, j, x, h => by
    unfold G_226
    rw [ofN_clamp (by omega), hs_oN hd, bj_b2, cnt_226 hd m (j + 1) _ (by omega)]
    have e : jS (fun k => bj (tb (I 88 (j + k)) d)) (m + 1) = bj (tb (I 88 j) d) + jS (fun k => bj (tb (I 88 (j + 1 + k)) d)) m := by
      have sh : ∀ n, jS (fun k => bj (tb (I 88 (j + k)) d)) (n + 1) = bj (tb (I 88 j) d) + jS (fun k => bj (tb (I 88 (j + 1 + k)) d)) n := fun n => by
        induction n with
        | zero => show (0 : Int32) + bj (tb (I 88 (j + 0)) d) = bj (tb (I 88 j) d) + 0; rw [Int32.zero_add, Int32.add_zero]; rfl
        | succ n ih =>
          show jS (fun k => bj (tb (I 88 (j + k)) d)) (n + 1) + bj (tb (I 88 (j + (n + 1))) d) = bj (tb (I 88 j) d) + (jS (fun k => bj (tb (I 88 (j + 1 + k)) d)) n + bj (tb (I 88 (j + 1 + n)) d))
          rw [ih, Int32.add_assoc, show j + (n + 1) = j + 1 + n by omega]
      exact sh m
    rw [e, Int32.add_assoc]
/-- .. and of the class -/
theorem wish_cnt {I : Nat → Nat → Int32} {L : Nat → Nat → Int64} {R : Nat → Nat} (h : RK I L R) {d : Nat} (hd : d < ndI I) : bc32 (I (R d) 1) = G_226 I (Int32.ofNat d) 0 0 (nkI I) := by
  have hm := h.mi
  have h1 := hm.db
  have h2 := hm.kb
  rw [cnt_226 (by omega) _ _ _ (by omega), Int32.zero_add, bc_w h2 (fun k hk => ?_)]
  · refine jS_ext (fun k hk => ?_)
    rw [h.wi d k (by omega) (by omega), Nat.zero_add]
  · by_cases g : k < 16
    · rw [h.wi d k (by omega) g]
      exact Bool.eq_false_iff.mpr (fun z => absurd (hm.wu d k g z).1 (by omega))
    · exact h.w0 d k (by omega) (by omega)
/-! adding a key, of the model -/
def adP (I : Nat → Nat → Int32) (D : Int32) (J : Nat → Nat → Int32) (v : Int32) : Prop := ∀ nk nc, I 85 35 = Int32.ofNat nk → nk < 16 → I 85 31 = Int32.ofNat nc → nc ≤ 6 → v = Int32.ofNat nk ∧ J 85 35 = Int32.ofNat (nk + 1) ∧ J 88 nk = D ∧ J 95 nk = I 85 43 ∧ (∀ c, c < nc → J 86 (6 * nk + c) = I 91 c) ∧ ∀ a b, ¬ ((a = 85 ∧ b = 35) ∨ (a = 88 ∧ b = nk) ∨ (a = 95 ∧ b = nk) ∨ (a = 86 ∧ 6 * nk ≤ b)) → J a b = I a b
theorem sem_218 {I : Nat → Nat → Int32} {D : Int32} {nk nc : Nat} (ek : I 85 35 = Int32.ofNat nk) (hk : nk < 16) (ec : I 85 31 = Int32.ofNat nc) (hc : nc ≤ 6) : ∀ n J j r, j ≤ nc → (∀ a b, ¬ (a = 86 ∧ 6 * nk ≤ b) → J a b = I a b) → (∀ c, c < j → J 86 (6 * nk + c) = I 91 c) → F_218 n 2 J D (Int32.ofNat j) = some r → r.1 = Int32.ofNat nk ∧ r.2 85 35 = Int32.ofNat (nk + 1) ∧ r.2 88 nk = D ∧ r.2 95 nk = I 85 43 ∧ (∀ c, c < nc → r.2 86 (6 * nk + c) = I 91 c) ∧ ∀ a b, ¬ ((a = 85 ∧ b = 35) ∨ (a = 88 ∧ b = nk) ∨ (a = 95 ∧ b = nk) ∨ (a = 86 ∧ 6 * nk ≤ b)) → r.2 a b = I a b
  | 0, _, _, _, _, _, _, h => by cases h
  | n + 1, J, j, r, hj, ha, hd, h => by
    have e1 : J 85 35 = Int32.ofNat nk := (ha 85 35 (by omega)).trans ek
    simp only [F_218, reduceIte] at h
    rw [ha 85 31 (by omega), ec, e1, ofN_clamp (by omega)] at h
    by_cases g : Int32.ofNat nc ≤ Int32.ofNat j
    · rw [if_pos g] at h
      have := (oN_le (by omega) (by omega)).mp g
      cases h
      dsimp only
      refine ⟨i32_p1m1 _, ?_, ?_, ?_, fun c hc' => ?_, fun a b hn => ?_⟩
      · rw [upI_s, oN_s]
      · rw [upI_ne (by omega), upI_ne (by omega), upI_s]
      · rw [upI_ne (by omega), upI_s]; exact ha 85 43 (by omega)
      · rw [upI_ne (by omega), upI_ne (by omega), upI_ne (by omega)]
        exact hd c (by omega)
      · rw [upI_ne (by omega), upI_ne (by omega), upI_ne (by omega)]
        exact ha a b (by omega)
    · rw [if_neg g, oN_6, ofN_clamp (by omega), ofN_clamp (by omega), oN_s, ha 91 j (by omega)] at h
      have := mt (oN_le (by omega) (by omega)).mpr g
      refine sem_218 ek hk ec hc n _ (j + 1) r (by omega) (fun a b hn => ?_) (fun c hc' => ?_) h
      · rw [upI_ne (by omega)]; exact ha a b hn
      · by_cases e : c = j
        · subst e; exact upI_s
        · rw [upI_ne (by omega)]; exact hd c (by omega)
theorem sp_218 {h : sH} {r : sR} {D : Int32} {I : Nat → Nat → Int32} {L : Nat → Nat → Int64} {R : Nat → Nat} (th : qH h I L R) (g : qGo 218 [.ref (85), .int D] h r) : ∃ v J h1, r = (.inl (some (.int v)), h1) ∧ qH h1 J L R ∧ adP I D J v := by
  refine qg_218 (Q := fun r => ∃ v J h1, r = (.inl (some (.int v)), h1) ∧ qH h1 J L R ∧ adP I D J v) g (fun N lv hl => ?_)
  refine qW_mono ?_ (fl_218 N I D 0 lv h th hl)
  intro r ⟨n, x, e, h1, q1, q2⟩
  exact ⟨x.1, x.2, h1, q1, q2, fun nk nc ek hk ec hc => sem_218 ek hk ec hc n I 0 x (Nat.zero_le _) (fun _ _ _ => rfl) (fun c hc => absurd hc (Nat.not_lt_zero c)) e⟩
/-! wishes of a key at some doors, of the class -/
def wsP (I : Nat → Nat → Int32) (R : Nat → Nat) (D a2 a3 : Int32) (J : Nat → Nat → Int32) : Prop := (∀ d, d < 10 → 35 ≤ R d ∧ R d ≤ 44) → (∀ d e, d < 10 → e < 10 → R d = R e → d = e) → ∀ nd k, I 0 10 = Int32.ofNat nd → nd ≤ 10 → a2 = Int32.ofNat k → k < 32 → (∀ a b, ¬ (35 ≤ a ∧ a ≤ 44 ∧ b = 1) → J a b = I a b) ∧ ∀ d j, d < 10 → tb (J (R d) 1) j = if j = k ∧ d < nd ∧ tb D d = true then decide (¬ a3 = 0) else tb (I (R d) 1) j
theorem sem_98 {I : Nat → Nat → Int32} {R : Nat → Nat} {D a3 : Int32} {nd k : Nat} (hR : ∀ d, d < 10 → 35 ≤ R d ∧ R d ≤ 44) (hi : ∀ d e, d < 10 → e < 10 → R d = R e → d = e) (ed : I 0 10 = Int32.ofNat nd) (hd : nd ≤ 10) (hk : k < 32) : ∀ n J j r, j ≤ nd → (∀ a b, ¬ (35 ≤ a ∧ a ≤ 44 ∧ b = 1) → J a b = I a b) → (∀ d i, d < 10 → tb (J (R d) 1) i = if i = k ∧ d < j ∧ tb D d = true then decide (¬ a3 = 0) else tb (I (R d) 1) i) → F_98 R n 3 J D (Int32.ofNat k) a3 (Int32.ofNat j) = some r → (∀ a b, ¬ (35 ≤ a ∧ a ≤ 44 ∧ b = 1) → r.2 a b = I a b) ∧ ∀ d i, d < 10 → tb (r.2 (R d) 1) i = if i = k ∧ d < nd ∧ tb D d = true then decide (¬ a3 = 0) else tb (I (R d) 1) i
  | 0, _, _, _, _, _, _, h => by cases h
  | n + 1, J, j, r, hj, ha, hb, h => by
    simp only [F_98, reduceIte] at h
    rw [ha 0 10 (by omega), ed] at h
    by_cases g : Int32.ofNat nd ≤ Int32.ofNat j
    · rw [if_pos g] at h
      have := (oN_le (by omega) (by omega)).mp g
      have ej : j = nd := by omega
      subst ej
      cases h
      exact ⟨ha, hb⟩
    · have gj := mt (oN_le (by omega) (by omega)).mpr g
      rw [if_neg g, ofN_clamp (by omega), oN_s, hs_oN (by omega)] at h
      have hr := hR j (by omega)
      by_cases g2 : tb D j = true
      · rw [if_pos g2] at h
        refine sem_98 hR hi ed hd hk n _ (j + 1) r (by omega) (fun a b hn => ?_) (fun d i hd' => ?_) h
        · rw [upI_ne (fun q => hn ⟨by omega, by omega, q.2⟩)]; exact ha a b hn
        · by_cases e : d = j
          · subst e
            rw [upI_s, tb_xW, shD_nat hk, hb d i hd']
            by_cases e2 : i = k
            · rw [if_pos e2, if_pos ⟨e2, by omega, g2⟩]
            · rw [if_neg e2, if_neg (fun q => e2 q.1), if_neg (fun q => e2 q.1)]
          · rw [upI_ne (fun q => e (hi d j hd' (by omega) q.1)), hb d i hd']
            by_cases e2 : i = k ∧ d < j ∧ tb D d = true
            · rw [if_pos e2, if_pos ⟨e2.1, by omega, e2.2.2⟩]
            · rw [if_neg e2, if_neg (fun q => e2 ⟨q.1, by omega, q.2.2⟩)]
      · rw [if_neg g2] at h
        refine sem_98 hR hi ed hd hk n J (j + 1) r (by omega) ha (fun d i hd' => ?_) h
        rw [hb d i hd']
        by_cases e2 : i = k ∧ d < j ∧ tb D d = true
        · rw [if_pos e2, if_pos ⟨e2.1, by omega, e2.2.2⟩]
        · rw [if_neg e2, if_neg (fun q => by
            by_cases e : d = j
            · exact g2 (e ▸ q.2.2)
            · exact e2 ⟨q.1, by omega, q.2.2⟩)]
theorem sp_98 {h : sH} {r : sR} {D a2 a3 : Int32} {I : Nat → Nat → Int32} {L : Nat → Nat → Int64} {R : Nat → Nat} (th : qH h I L R) (g : qGo 98 [.ref (0), .int D, .int a2, .int a3] h r) : ∃ J h1, r = (.inl none, h1) ∧ qH h1 J L R ∧ wsP I R D a2 a3 J := by
  refine qg_98 (Q := fun r => ∃ J h1, r = (.inl none, h1) ∧ qH h1 J L R ∧ wsP I R D a2 a3 J) g (fun N lv hl => ?_)
  refine qW_mono ?_ (fl_98 N I D a2 a3 0 lv h th hl)
  intro r ⟨n, x, e, h1, q1, q2⟩
  refine ⟨x.2, h1, q1, q2, fun hR hi nd k ed hd ek hk => ?_⟩
  rw [ek] at e
  exact sem_98 hR hi ed hd hk n I 0 x (Nat.zero_le _) (fun _ _ _ => rfl) (fun d i _ => (if_neg (fun q => absurd q.2.1 (Nat.not_lt_zero d))).symm) e
/-! scratch of the class's calls -/
theorem cw_ag {I J : Nat → Nat → Int32} {L : Nat → Nat → Int64} {R : Nat → Nat} (h : RK I L R) {x : Int64} {lim v : Int32} (e : cwP I x lim J v) : agS J I := agW_S (e (mdI I) (ncI I) (by rw [h.dp]; rfl) h.c1 h.mi.m6 h.mi.c6 (by have := h.mi.c3; omega)).1
theorem srS {I J : Nat → Nat → Int32} {L K : Nat → Nat → Int64} {R : Nat → Nat} {D rep blk : Int32} {v : Int64} (e : srP I L R D rep blk J K v) : agS J I := fun a b hn => e.1 a b (fun z => hn (by unfold scr; omega))
theorem csS {I J : Nat → Nat → Int32} {L : Nat → Nat → Int64} {R : Nat → Nat} (h : RK I L R) {a0 a1 a2 : Int32} {v : Int64} (h0 : ¬ a0 < 0) (h1 : a0 < I 0 9) (e : csP I L a0 a1 a2 J v) : agS J I := by
  obtain ⟨k, hk, rfl⟩ := h.gk h0 h1
  exact agW_S (e R h k hk rfl).1
/-- the pins of a door are laid -/
theorem lay_E {I J : Nat → Nat → Int32} {L : Nat → Nat → Int64} {R : Nat → Nat} (h : RK I L R) {d : Nat} (hd : d < ndI I) (e : layP I (Int32.ofNat d) J) : agr 106 J I ∧ RK J L R ∧ J 85 42 = I 85 42 := by
  have := h.mi.db
  have g := (lay_get h.mi (show d < 32 by omega) e).1
  exact ⟨g, RK_s h (agS_r g) (fun _ _ => rfl) rfl (fun _ => rfl), g 85 42 (by decide)⟩
