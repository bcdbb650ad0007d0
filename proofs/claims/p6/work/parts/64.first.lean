/-! part 64: the search of the class: the first key that nothing rules out -/
/-- what a key that begins so may still have -/
def posL (al x : Int64) (a : Int32) : Int64 := x ||| (((((al)).toUInt64 >>> ((((8 : Int32) * a)).toInt64.toUInt64 &&& Int64.toUInt64 63)).toInt64) <<< ((((8 : Int32) * a)).toInt64 &&& 63))
theorem lb_pos {al x : Int64} {c n : Nat} (hc : c < 7) (hn : n < 64) : lb (posL al x (Int32.ofNat c)) n = (lb x n || (decide (8 * c ≤ n) && lb al n)) := by
  have e := i32_8 (c := c) (by omega)
  have e2 : ((8 : Int32) * Int32.ofNat c).toNatClampNeg = 8 * c := by
    show ((8 : Int32) * Int32.ofNat c).toInt.toNat = _
    rw [e]; rfl
  unfold posL
  rw [lb_or, lb_shlX (by rw [e]; omega) (by rw [e]; omega), e2, lb_shr (by rw [e]; omega) (by rw [e]; omega), e2, decide_eq_true hn, Bool.true_and]
  by_cases g : 8 * c ≤ n
  · rw [show 8 * c + (n - 8 * c) = n by omega]
  · rw [decide_eq_false g]; rfl
def roQ (I : Nat → Nat → Int32) (L : Nat → Nat → Int64) (a : Int32) (x : Int64) : Prop := (∃ i, i < (I 9 2).toNatClampNeg ∧ letIn (L 10 i) x) ∨ (∃ i, i < (I 9 3).toNatClampNeg ∧ letIn (posL (L 9 8) x a) (L 11 i))
noncomputable def isRO (I : Nat → Nat → Int32) (L : Nat → Nat → Int64) (a : Int32) (x : Int64) : Bool := pB (roQ I L a x)
theorem isRO_t {I : Nat → Nat → Int32} {L : Nat → Nat → Int64} {a : Int32} {x : Int64} (h : roQ I L a x) : (1 : Int32) = b2 (isRO I L a x = true) := (b2_t (pB_t h)).symm
theorem sem_95 {I : Nat → Nat → Int32} {L : Nat → Nat → Int64} {a : Int32} {x : Int64} : ∀ n, (∀ i x5 x7 r, i ≤ (I 9 2).toNatClampNeg → (∀ j, j < i → ¬ letIn (L 10 j) x) → F_95 I L n 3 a x (Int32.ofNat i) x5 x7 = some r → r = b2 (isRO I L a x = true)) ∧
      (∀ i x4 r, i ≤ (I 9 3).toNatClampNeg → (∀ j, j < (I 9 2).toNatClampNeg → ¬ letIn (L 10 j) x) → (∀ j, j < i → ¬ letIn (posL (L 9 8) x a) (L 11 j)) → F_95 I L n 61 a x x4 (posL (L 9 8) x a) (Int32.ofNat i) = some r → r = b2 (isRO I L a x = true))
  | 0 => ⟨fun _ _ _ _ _ _ h => (by cases h), fun _ _ _ _ _ _ h => (by cases h)⟩
  | n + 1 => by
    obtain ⟨ih1, ih2⟩ := sem_95 (I := I) (L := L) (a := a) (x := x) n
    have b1 := nn_lt (I 9 2)
    have b2' := nn_lt (I 9 3)
    refine ⟨?_, ?_⟩
    · intro i x5 x7 r hi hn h
      simp only [F_95, reduceIte] at h
      by_cases g : I 9 2 ≤ Int32.ofNat i
      · rw [if_pos g] at h
        have := (le_oN (by omega)).mp g
        exact ih2 0 _ r (Nat.zero_le _) (fun j hj => hn j (by omega)) (fun j hj => absurd hj (Nat.not_lt_zero j)) h
      · rw [if_neg g, ofN_clamp (by omega), oN_s] at h
        have := mt (le_oN (by omega)).mpr g
        by_cases g2 : (L 10 i &&& (x ^^^ 18446744073709551615)) = 0
        · rw [if_pos g2] at h
          cases h
          exact isRO_t (.inl ⟨i, by omega, g2⟩)
        · rw [if_neg g2] at h
          refine ih1 (i + 1) x5 x7 r (by omega) (fun j hj => ?_) h
          by_cases e : j = i
          · rw [e]; exact g2
          · exact hn j (by omega)
    · intro i x4 r hi hn hk h
      simp only [F_95, Nat.reduceEqDiff, reduceIte] at h
      by_cases g : I 9 3 ≤ Int32.ofNat i
      · rw [if_pos g] at h
        cases h
        have := (le_oN (by omega)).mp g
        refine (b2_f (fun q => ?_)).symm
        rcases pB_iff.mp q with ⟨j, q1, q2⟩ | ⟨j, q1, q2⟩
        · exact hn j q1 q2
        · exact hk j (by omega) q2
      · rw [if_neg g, ofN_clamp (by omega), oN_s] at h
        have := mt (le_oN (by omega)).mpr g
        by_cases g2 : letIn (posL (L 9 8) x a) (L 11 i)
        · rw [if_pos g2] at h
          cases h
          exact isRO_t (.inr ⟨i, by omega, g2⟩)
        · rw [if_neg g2] at h
          refine ih2 (i + 1) x4 r (by omega) hn (fun j hj => ?_) h
          by_cases e : j = i
          · rw [e]; exact g2
          · exact hk j (by omega)
theorem sp_95 {h : sH} {r : sR} {a : Int32} {x : Int64} {I : Nat → Nat → Int32} {L : Nat → Nat → Int64} {R : Nat → Nat} (th : qH h I L R) (g : qGo 95 [.ref (9), .int a, .long x] h r) : r = (.inl (some (.int (b2 (isRO I L a x = true)))), h) := by
  refine qg_95 (Q := fun r => r = _) g (fun N lv hl => ?_)
  refine qW_mono ?_ ((fl_95 N).1 a x 0 0 0 lv h th hl)
  intro r ⟨n, z, e, q⟩
  rw [q, (sem_95 n).1 0 0 0 z (Nat.zero_le _) (fun j hj => absurd hj (Nat.not_lt_zero j)) e]
/-- a key that nothing is held against -/
def gdN (I : Nat → Nat → Int32) (L : Nat → Nat → Int64) (m nc N : Nat) : Prop := ∀ x, isCuts x (dg m nc N) nc → ¬ badV I L x
def goodF (I : Nat → Nat → Int32) (L : Nat → Nat → Int64) (m nc c N : Nat) : Prop := nearF (I 9 7) m nc c N ∧ gdN I L m nc N
def cnd94 (I : Nat → Nat → Int32) (L : Nat → Nat → Int64) (a b : Int32) (y : Int64) (m nc c p : Nat) : Prop := I 9 6 = Int32.ofNat m ∧ I 9 5 = Int32.ofNat nc ∧ 1 ≤ m ∧ m ≤ 6 ∧ 1 ≤ nc ∧ nc ≤ 6 ∧ a = Int32.ofNat c ∧ c ≤ nc ∧ isCuts y (dg m c p) c ∧ (0 < c → b = Int32.ofNat (p % m)) ∧ (∀ i, i < c → lb (L 9 8) (8 * i + dg m c p i) = true) ∧ (∀ n, 8 * nc ≤ n → lb (L 9 8) n = false) ∧ I 9 4 = 0
def noneIn (I : Nat → Nat → Int32) (L : Nat → Nat → Int64) (m nc c lo k : Nat) : Prop := ∀ N, lo ≤ N → N < lo + k → ¬ goodF I L m nc c N
def fndIn (I : Nat → Nat → Int32) (L : Nat → Nat → Int64) (m nc c lo k : Nat) (v : Int64) : Prop := ∃ N, lo ≤ N ∧ N < lo + k ∧ goodF I L m nc c N ∧ isCuts v (dg m nc N) nc ∧ ∀ N', lo ≤ N' → N' < N → ¬ goodF I L m nc c N'
def fstV (I : Nat → Nat → Int32) (L : Nat → Nat → Int64) (a b : Int32) (y v : Int64) : Prop := ∀ m nc c p, cnd94 I L a b y m nc c p → (v = 0 ∧ noneIn I L m nc c (p * m ^ (nc - c)) (m ^ (nc - c))) ∨ (¬ v = 0 ∧ fndIn I L m nc c (p * m ^ (nc - c)) (m ^ (nc - c)) v)
def inv94 (I : Nat → Nat → Int32) (L : Nat → Nat → Int64) (a b : Int32) (y : Int64) (d : Int32) : Prop := ∀ m nc c p, cnd94 I L a b y m nc c p → ∃ dn, d = Int32.ofNat dn ∧ dn ≤ m ∧ noneIn I L m nc c (p * m ^ (nc - c)) (dn * m ^ (nc - c - 1))
theorem isCuts_ex {f : Nat → Nat} (hf : ∀ c, f c < 8) : ∀ n, n ≤ 7 → ∃ x, isCuts x f n
  | 0, _ => ⟨0, isCuts_0⟩
  | n + 1, hn => by
    obtain ⟨x, hx⟩ := isCuts_ex hf n (by omega)
    refine ⟨x ||| bitL (Int32.ofNat n) (Int32.ofNat (f n)), fun c e he => ?_⟩
    have := hf n
    rw [lb_or, hx c e he, lb_bit (by omega) (by omega), ← Bool.decide_or]
    refine decide_eq_decide.mpr ?_
    constructor
    · rintro (q | q)
      · exact ⟨by omega, q.2⟩
      · have : c = n := by omega
        subst this
        exact ⟨by omega, by omega⟩
    · rintro ⟨q1, q2⟩
      by_cases e2 : c = n
      · subst e2
        exact .inr (by omega)
      · exact .inl ⟨by omega, q2⟩
theorem isCuts_cg {x : Int64} {f g : Nat → Nat} {n : Nat} (h : isCuts x f n) (e : ∀ c, c < n → f c = g c) : isCuts x g n := fun c d hd => by
  rw [h c d hd]
  refine decide_eq_decide.mpr ⟨fun q => ⟨q.1, (e c q.1) ▸ q.2⟩, fun q => ⟨q.1, (e c q.1).symm ▸ q.2⟩⟩
theorem isCuts_at {x : Int64} {f : Nat → Nat} {n c : Nat} (h : isCuts x f n) (hc : c < n) (hf : f c < 8) : lb x (8 * c + f c) = true := by
  rw [h c (f c) hf]
  exact decide_eq_true ⟨hc, rfl⟩
theorem dg_p {m nc c p N i : Nat} (hm : 0 < m) (hc : c ≤ nc) (h1 : p * m ^ (nc - c) ≤ N) (h2 : N < p * m ^ (nc - c) + m ^ (nc - c)) (hi : i < c) : dg m nc N i = dg m c p i := by
  rw [dg_hi hm h1 h2 (by omega), show nc - 1 - i - (nc - c) = c - 1 - i by omega]; rfl
/-- bits of a key -/
theorem isCuts_bit {x : Int64} {f : Nat → Nat} {n k : Nat} (h : isCuts x f n) (hb : lb x k = true) : k / 8 < n ∧ f (k / 8) = k % 8 := by
  have e : k = 8 * (k / 8) + k % 8 := by omega
  rw [e, h _ _ (Nat.mod_lt _ (by decide)), decide_eq_true_eq] at hb
  have e1 : (8 * (k / 8) + k % 8) / 8 = k / 8 := by omega
  exact hb
theorem noRO {I : Nat → Nat → Int32} {L : Nat → Nat → Int64} {a b : Int32} {y : Int64} {m nc c p : Nat} (hc : cnd94 I L a b y m nc c p) (hr : roQ I L a y) : noneIn I L m nc c (p * m ^ (nc - c)) (m ^ (nc - c)) := by
  obtain ⟨em, ec, m1, m6, n1, n6, ea, cn, hy, hb, hal, hbd, hv⟩ := hc
  intro N h1 h2 ⟨_, h3⟩
  have hm : 0 < m := by omega
  obtain ⟨x, hx⟩ := isCuts_ex (f := dg m nc N) (fun c => Nat.lt_of_lt_of_le (dg_lt hm) (by omega)) nc (by omega)
  refine h3 x hx ?_
  have hyx : letIn y x := by
    rw [letIn_b]
    intro n hn q
    obtain ⟨q1, q2⟩ := isCuts_bit hy q
    have e : n = 8 * (n / 8) + n % 8 := by omega
    rw [e, hx _ _ (Nat.mod_lt _ (by decide)), decide_eq_true_eq]
    exact ⟨by omega, by rw [dg_p hm cn h1 h2 q1]; exact q2⟩
  by_cases g : letIn x (L 9 8)
  · rcases hr with ⟨i, i1, i2⟩ | ⟨i, i1, i2⟩
    · exact .inr (.inl ⟨i, i1, letIn_t i2 hyx⟩)
    · refine .inr (.inr (.inl ⟨i, i1, letIn_t ?_ i2⟩))
      rw [letIn_b]
      intro n hn q
      rw [ea, lb_pos (by omega) hn]
      by_cases g2 : 8 * c ≤ n
      · rw [decide_eq_true g2, letIn_b.mp g n hn q, Bool.true_and, Bool.or_true]
      · obtain ⟨q1, q2⟩ := isCuts_bit hx q
        have e : n = 8 * (n / 8) + n % 8 := by omega
        have : lb y n = true := by
          rw [e, hy _ _ (Nat.mod_lt _ (by decide)), decide_eq_true_eq]
          exact ⟨by omega, by rw [← dg_p hm cn h1 h2 (by omega)]; exact q2⟩
        rw [this, Bool.true_or]
  · exact .inr (.inr (.inr g))
theorem goodF_blk {I : Nat → Nat → Int32} {L : Nat → Nat → Int64} {m nc j c p e N : Nat} (hm : 0 < m) (he : e < m) (hn : c + j + 1 = nc) (h1 : (p * m + e) * m ^ j ≤ N) (h2 : N < (p * m + e) * m ^ j + m ^ j) : goodF I L m nc c N ↔ (c = 0 ∨ lA (I 9 7) e (p % m) = true) ∧ goodF I L m nc (c + 1) N := by
  unfold goodF
  rw [nearF_blk hm he hn h1 h2]
  exact and_assoc
theorem cnd94_lt {I : Nat → Nat → Int32} {L : Nat → Nat → Int64} {a b : Int32} {y : Int64} {m nc c p : Nat} (h : cnd94 I L a b y m nc c p) (ca : a < I 9 5) : c < nc := by
  obtain ⟨em, ec, m1, m6, n1, n6, ea, cn, -⟩ := h
  rw [ea, ec] at ca
  exact (oN_lt (by omega) (by omega)).mp ca
theorem inv94_s {I : Nat → Nat → Int32} {L : Nat → Nat → Int64} {a b : Int32} {y : Int64} {d : Int32} (ca : a < I 9 5) (hv : inv94 I L a b y d) (hd : ¬ I 9 6 ≤ d)
    (hw : ∀ m nc c p dn, cnd94 I L a b y m nc c p → c < nc → d = Int32.ofNat dn → dn < m → noneIn I L m nc c ((p * m + dn) * m ^ (nc - c - 1)) (m ^ (nc - c - 1))) : inv94 I L a b y (d + 1) := by
  intro m nc c p hc
  obtain ⟨dn, e1, e2, e3⟩ := hv m nc c p hc
  have hl := cnd94_lt hc ca
  have hdn : dn < m := by
    obtain ⟨em, ec, m1, m6, -⟩ := hc
    rw [em, e1] at hd
    have := mt (oN_le (by omega) (by omega)).mpr hd
    omega
  refine ⟨dn + 1, by rw [e1, oN_s], hdn, fun N h1 h2 => ?_⟩
  have hb := blk_s (m := m) (j := nc - c - 1) (p := p) dn
  rw [show nc - c - 1 + 1 = nc - c by omega] at hb
  rw [Nat.succ_mul] at h2
  by_cases g : N < p * m ^ (nc - c) + dn * m ^ (nc - c - 1)
  · exact e3 N h1 g
  · exact hw m nc c p dn hc hl e1 hdn N (by omega) (by omega)
/-- a depth that is not allowed -/
theorem noAl {I : Nat → Nat → Int32} {L : Nat → Nat → Int64} {a b d : Int32} {y : Int64} (h0 : (L 9 8 &&& bitL a d) = 0) {m nc c p dn : Nat} (hc : cnd94 I L a b y m nc c p) (hl : c < nc) (e : d = Int32.ofNat dn) (hd : dn < m) : noneIn I L m nc c ((p * m + dn) * m ^ (nc - c - 1)) (m ^ (nc - c - 1)) := by
  obtain ⟨em, ec, m1, m6, n1, n6, ea, cn, hy, hb, hal, hbd, hv⟩ := hc
  intro N h1 h2 ⟨_, h3⟩
  have hm : 0 < m := by omega
  obtain ⟨x, hx⟩ := isCuts_ex (f := dg m nc N) (fun c => Nat.lt_of_lt_of_le (dg_lt hm) (by omega)) nc (by omega)
  refine h3 x hx (.inr (.inr (.inr (fun q => ?_))))
  have hl' : dg m nc N c = dn := by rw [dg_last hm h1 h2 (by omega), md_e hd]
  have h5 := isCuts_at hx hl (by rw [hl']; omega)
  rw [hl'] at h5
  have h6 := letIn_b.mp q _ (by omega) h5
  have := congrArg (fun z => lb z (8 * c + dn)) h0
  simp only [ea, e] at this
  rw [lb_and, h6, lb_bit (by omega) (by omega), lb_0, decide_eq_true rfl] at this
  cases this
/-- what the next chamber says of its block -/
theorem fstV_s {I : Nat → Nat → Int32} {L : Nat → Nat → Int64} {a b d : Int32} {y v : Int64} (h : fstV I L (a + 1) d (y ||| bitL a d) v) (h0 : ¬ (L 9 8 &&& bitL a d) = 0) {m nc c p dn : Nat} (hc : cnd94 I L a b y m nc c p) (hl : c < nc) (e : d = Int32.ofNat dn) (hd : dn < m) : (v = 0 ∧ noneIn I L m nc (c + 1) ((p * m + dn) * m ^ (nc - c - 1)) (m ^ (nc - c - 1))) ∨ (¬ v = 0 ∧ fndIn I L m nc (c + 1) ((p * m + dn) * m ^ (nc - c - 1)) (m ^ (nc - c - 1)) v) := by
  obtain ⟨em, ec, m1, m6, n1, n6, ea, cn, hy, hb, hal, hbd, hv⟩ := hc
  subst ea e
  refine h m nc (c + 1) (p * m + dn) ⟨em, ec, m1, m6, n1, n6, oN_s c, hl, isCuts_up (by omega) hd m6 hy, fun _ => by rw [md_e hd], fun i hi => ?_, hbd, hv⟩
  by_cases e2 : i = c
  · subst e2
    rw [dg_e hd]
    cases g : lb (L 9 8) (8 * i + dn) with
    | true => rfl
    | false =>
      refine absurd (lb_ext (fun n hn => ?_)) h0
      rw [lb_and, lb_0, lb_bit (by omega) (by omega)]
      by_cases e3 : n = 8 * i + dn
      · rw [e3, g]; rfl
      · rw [decide_eq_false e3, Bool.and_false]
  · rw [dg_s hd (by omega)]
    exact hal i (by omega)
theorem near94 {I : Nat → Nat → Int32} {L : Nat → Nat → Int64} {a b d : Int32} {y : Int64} {m nc c p dn : Nat} (hc : cnd94 I L a b y m nc c p) (e : d = Int32.ofNat dn) (h : a = 0 ∨ ¬ I 9 7 < (if 0 ≤ d - b then d - b else 0 - (d - b))) : c = 0 ∨ lA (I 9 7) dn (p % m) = true := by
  obtain ⟨em, ec, m1, m6, n1, n6, ea, cn, hy, hb, -⟩ := hc
  by_cases g : c = 0
  · exact .inl g
  · rcases h with h | h
    · rw [ea] at h
      exact .inl ((oN_inj (b := 0) (by omega) (by decide)).mp h)
    · rw [hb (by omega), e] at h
      exact .inr (decide_eq_true h)
theorem qg_94 {h : sH} {r : sR} {Q : sR → Prop} {a0 : Int32} {a1 : Int32} {a2 : Int64} {I : Nat → Nat → Int32} {L : Nat → Nat → Int64} {R : Nat → Nat} (th : qH h I L R) (g : qGo 94 [.ref (9), .int (a0), .int (a1), .long (a2)] h r)
    (p1 : ∀ (c1 : ¬ (isRO I L a0 a2 = true)), ∀ (c2 : a0 < (I 9 5)), ∀ N lv, qLs lv [some (.ref (9)), some (.int (a0)), some (.int (a1)), some (.long (a2)), none, some (.int ((0 : Int32))), none, none, none] → qW 94 N 24 lv [] h Q)
    (p2 : ∀ (c1 : ¬ (isRO I L a0 a2 = true)), ∀ (c2 : ¬ a0 < (I 9 5)), Q (.inl (some (.long (a2))), h))
    (p3 : ∀ (c1 : isRO I L a0 a2 = true), Q (.inl (some (.long ((0 : Int64)))), h)) : Q r := by
  refine qGo_w g (fun N => ?_)
  have hl0 : qLs (lv_args 0 [.ref (9), .int (a0), .int (a1), .long (a2)]) [some (.ref (9)), some (.int (a0)), some (.int (a1)), some (.long (a2)), none, none, none, none, none] := qLs_ar 4
  refine q_aload_n (show mE (mtv 94) 0 = some (.aload_n 0, 1, 0, 0) from rfl) (hl0 0 _ rfl) ?_
  refine q_iload_n (show mE (mtv 94) 1 = some (.iload_n 1, 1, 0, 0) from rfl) (hl0 1 _ rfl) ?_
  refine q_lload_n (show mE (mtv 94) 2 = some (.lload_n 3, 1, 0, 0) from rfl) (hl0 3 _ rfl) ?_
  refine q_virtualP (show mE (mtv 94) 3 = some (.invokevirtual 63, 3, 95, 7) from rfl) (by decide) rfl rfl rfl (fun _ g => sp_95 th g) ?_
  refine q_ifb_eq (t := 11) (show mE (mtv 94) 6 = some (.ifCond .eq 5, 3, 0, 0) from rfl) rfl (fun c1 => ?_) (fun c1 => ?_)
  · refine q_iload_n (show mE (mtv 94) 11 = some (.iload_n 1, 1, 0, 0) from rfl) (hl0 1 _ rfl) ?_
    refine q_aload_n (show mE (mtv 94) 12 = some (.aload_n 0, 1, 0, 0) from rfl) (hl0 0 _ rfl) ?_
    refine q_getI th (show mE (mtv 94) 13 = some (.getfield 34, 3, 7, 5) from rfl) (by decide) rfl ?_
    refine q_ic_lt (t := 21) (show mE (mtv 94) 16 = some (.if_icmp .lt 5, 3, 0, 0) from rfl) rfl (fun c2 => ?_) (fun c2 => ?_)
    · refine q_iconst (show mE (mtv 94) 21 = some (.iconst 0, 1, 0, 0) from rfl) kI_0 ?_
      refine q_istore (show mE (mtv 94) 22 = some (.istore 5, 2, 0, 0) from rfl) (Nat.le_of_ble_eq_true rfl) hl0 (fun lv3 (hl4 : qLs lv3 [some (.ref (9)), some (.int (a0)), some (.int (a1)), some (.long (a2)), none, some (.int ((0 : Int32))), none, none, none]) => ?_)
      exact p1 c1 c2 _ lv3 (qLs_wk hl4 (⟨rfl, rfl, rfl, rfl, rfl, trivial⟩))
    · refine q_lload_n (show mE (mtv 94) 19 = some (.lload_n 3, 1, 0, 0) from rfl) (hl0 3 _ rfl) ?_
      refine q_lreturn (show mE (mtv 94) 20 = some (.lreturn, 1, 0, 0) from rfl) ?_
      exact p2 c1 c2
  · refine q_lconst (show mE (mtv 94) 9 = some (.lconst 0, 1, 0, 0) from rfl) kL_0 ?_
    refine q_lreturn (show mE (mtv 94) 10 = some (.lreturn, 1, 0, 0) from rfl) ?_
    exact p3 c1
theorem qg_94_24 {N : Nat} {lv : sL} {h : sH} {Q : sR → Prop} {x1 : Int32} {x2 : Int32} {x3 : Int64} {x5 : Int32} {I : Nat → Nat → Int32} {L : Nat → Nat → Int64} {R : Nat → Nat} (th : qH h I L R) {PP : Int32 → Int64 → Int64 → Prop} (ih : ∀ {b : Int32} {y : Int64} {r : sR}, qGo 94 [.ref (9), .int (x1 + (1 : Int32)), .int b, .long y] h r → ∃ v, r = (.inl (some (.long v)), h) ∧ PP b y v) (hl : qLs lv [some (.ref (9)), some (.int (x1)), some (.int (x2)), some (.long (x3)), none, some (.int (x5)), none, none, none])
    (p1 : ∀ (c1 : (I 9 6) ≤ x5), Q (.inl (some (.long ((0 : Int64)))), h))
    (p2 : ∀ (c1 : ¬ (I 9 6) ≤ x5), ∀ (c2 : x1 = 0), ∀ (c5 : ((L 9 8) &&& (bitL x1 x5)) = (0 : Int64)), ∀ lv, qLs lv [some (.ref (9)), some (.int (x1)), some (.int (x2)), some (.long (x3)), none, some (.int (x5 + (1 : Int32))), none, none, none] → qW 94 N 24 lv [] h Q)
    (p3 : ∀ (c1 : ¬ (I 9 6) ≤ x5), ∀ (c2 : x1 = 0), ∀ (c5 : ¬ (((L 9 8) &&& (bitL x1 x5)) = (0 : Int64))), ∀ (v8 : Int64), ∀ (e9 : PP x5 (x3 ||| (bitL x1 x5)) v8), ∀ (c12 : v8 = (0 : Int64)), ∀ lv, qLs lv [some (.ref (9)), some (.int (x1)), some (.int (x2)), some (.long (x3)), none, some (.int (x5 + (1 : Int32))), none, none, none] → qW 94 N 24 lv [] h Q)
    (p4 : ∀ (c1 : ¬ (I 9 6) ≤ x5), ∀ (c2 : x1 = 0), ∀ (c5 : ¬ (((L 9 8) &&& (bitL x1 x5)) = (0 : Int64))), ∀ (v8 : Int64), ∀ (e9 : PP x5 (x3 ||| (bitL x1 x5)) v8), ∀ (c12 : ¬ (v8 = (0 : Int64))), Q (.inl (some (.long (v8))), h))
    (p5 : ∀ (c1 : ¬ (I 9 6) ≤ x5), ∀ (c2 : ¬ x1 = 0), ∀ (c15 : (I 9 7) < (if 0 ≤ x5 - x2 then x5 - x2 else 0 - (x5 - x2))), ∀ lv, qLs lv [some (.ref (9)), some (.int (x1)), some (.int (x2)), some (.long (x3)), none, some (.int (x5 + (1 : Int32))), none, none, none] → qW 94 N 24 lv [] h Q)
    (p6 : ∀ (c1 : ¬ (I 9 6) ≤ x5), ∀ (c2 : ¬ x1 = 0), ∀ (c15 : ¬ (I 9 7) < (if 0 ≤ x5 - x2 then x5 - x2 else 0 - (x5 - x2))), ∀ (c22 : ((L 9 8) &&& (bitL x1 x5)) = (0 : Int64)), ∀ lv, qLs lv [some (.ref (9)), some (.int (x1)), some (.int (x2)), some (.long (x3)), none, some (.int (x5 + (1 : Int32))), none, none, none] → qW 94 N 24 lv [] h Q)
    (p7 : ∀ (c1 : ¬ (I 9 6) ≤ x5), ∀ (c2 : ¬ x1 = 0), ∀ (c15 : ¬ (I 9 7) < (if 0 ≤ x5 - x2 then x5 - x2 else 0 - (x5 - x2))), ∀ (c22 : ¬ (((L 9 8) &&& (bitL x1 x5)) = (0 : Int64))), ∀ (v25 : Int64), ∀ (e26 : PP x5 (x3 ||| (bitL x1 x5)) v25), ∀ (c29 : v25 = (0 : Int64)), ∀ lv, qLs lv [some (.ref (9)), some (.int (x1)), some (.int (x2)), some (.long (x3)), none, some (.int (x5 + (1 : Int32))), none, none, none] → qW 94 N 24 lv [] h Q)
    (p8 : ∀ (c1 : ¬ (I 9 6) ≤ x5), ∀ (c2 : ¬ x1 = 0), ∀ (c15 : ¬ (I 9 7) < (if 0 ≤ x5 - x2 then x5 - x2 else 0 - (x5 - x2))), ∀ (c22 : ¬ (((L 9 8) &&& (bitL x1 x5)) = (0 : Int64))), ∀ (v25 : Int64), ∀ (e26 : PP x5 (x3 ||| (bitL x1 x5)) v25), ∀ (c29 : ¬ (v25 = (0 : Int64))), Q (.inl (some (.long (v25))), h)) : qW 94 (N + 1) 24 lv [] h Q := by
  refine q1_iload (show mE (mtv 94) 24 = some (.iload 5, 2, 0, 0) from rfl) (hl 5 _ rfl) ?_
  refine q_aload_n (show mE (mtv 94) 26 = some (.aload_n 0, 1, 0, 0) from rfl) (hl 0 _ rfl) ?_
  refine q_getI th (show mE (mtv 94) 27 = some (.getfield 38, 3, 7, 6) from rfl) (by decide) rfl ?_
  refine q_ic_ge (t := 114) (show mE (mtv 94) 30 = some (.if_icmp .ge 84, 3, 0, 0) from rfl) rfl (fun c1 => ?_) (fun c1 => ?_)
  · refine q_lconst (show mE (mtv 94) 114 = some (.lconst 0, 1, 0, 0) from rfl) kL_0 ?_
    refine q_lreturn (show mE (mtv 94) 115 = some (.lreturn, 1, 0, 0) from rfl) ?_
    exact p1 c1
  · refine q_iload_n (show mE (mtv 94) 33 = some (.iload_n 1, 1, 0, 0) from rfl) (hl 1 _ rfl) ?_
    refine q_if_eq (t := 51) (show mE (mtv 94) 34 = some (.ifCond .eq 17, 3, 0, 0) from rfl) rfl (fun c2 => ?_) (fun c2 => ?_)
    · refine q_iconst (show mE (mtv 94) 51 = some (.iconst 1, 1, 0, 0) from rfl) kI_1 ?_
      refine q_goto (t := 56) (show mE (mtv 94) 52 = some (.goto 4, 3, 0, 0) from rfl) rfl ?_
      refine q_istore (show mE (mtv 94) 56 = some (.istore 6, 2, 0, 0) from rfl) (Nat.le_of_ble_eq_true rfl) hl (fun lv3 (hl4 : qLs lv3 [some (.ref (9)), some (.int (x1)), some (.int (x2)), some (.long (x3)), none, some (.int (x5)), some (.int ((1 : Int32))), none, none]) => ?_)
      refine q_iload (show mE (mtv 94) 58 = some (.iload 6, 2, 0, 0) from rfl) (hl4 6 _ rfl) ?_
      refine q_iff (t := 108) (show mE (mtv 94) 60 = some (.ifCond .eq 48, 3, 0, 0) from rfl) (by decide) rfl ?_
      refine q_aload_n (show mE (mtv 94) 63 = some (.aload_n 0, 1, 0, 0) from rfl) (hl4 0 _ rfl) ?_
      refine q_getL th (show mE (mtv 94) 64 = some (.getfield 47, 3, 7, 8) from rfl) (by decide) rfl ?_
      refine q_iload_n (show mE (mtv 94) 67 = some (.iload_n 1, 1, 0, 0) from rfl) (hl4 1 _ rfl) ?_
      refine q_iload (show mE (mtv 94) 68 = some (.iload 5, 2, 0, 0) from rfl) (hl4 5 _ rfl) ?_
      refine q_staticP (show mE (mtv 94) 70 = some (.invokestatic 73, 3, 35, 0) from rfl) (by decide) rfl rfl rfl (fun _ g => sp_35 g) ?_
      refine q_land (show mE (mtv 94) 73 = some (.land, 1, 0, 0) from rfl) ?_
      refine q_lconst (show mE (mtv 94) 74 = some (.lconst 0, 1, 0, 0) from rfl) kL_0 ?_
      refine q_lcmp (show mE (mtv 94) 75 = some (.lcmp, 1, 0, 0) from rfl) ?_
      refine q_ifl_eq (t := 108) (show mE (mtv 94) 76 = some (.ifCond .eq 32, 3, 0, 0) from rfl) rfl (fun c5 => ?_) (fun c5 => ?_)
      · refine q_iinc (show mE (mtv 94) 108 = some (.iinc 5 1, 3, 0, 0) from rfl) (Nat.le_of_ble_eq_true rfl) hl4 (hl4 5 _ rfl) kI_1 (fun lv6 (hl7 : qLs lv6 [some (.ref (9)), some (.int (x1)), some (.int (x2)), some (.long (x3)), none, some (.int (x5 + (1 : Int32))), some (.int ((1 : Int32))), none, none]) => ?_)
        refine q_goto (t := 24) (show mE (mtv 94) 111 = some (.goto (-87), 3, 0, 0) from rfl) rfl ?_
        exact p2 c1 c2 c5 lv6 (qLs_wk hl7 (⟨rfl, rfl, rfl, rfl, rfl, trivial⟩))
      · refine q_aload_n (show mE (mtv 94) 79 = some (.aload_n 0, 1, 0, 0) from rfl) (hl4 0 _ rfl) ?_
        refine q_iload_n (show mE (mtv 94) 80 = some (.iload_n 1, 1, 0, 0) from rfl) (hl4 1 _ rfl) ?_
        refine q_iconst (show mE (mtv 94) 81 = some (.iconst 1, 1, 0, 0) from rfl) kI_1 ?_
        refine q_iadd (show mE (mtv 94) 82 = some (.iadd, 1, 0, 0) from rfl) ?_
        refine q_iload (show mE (mtv 94) 83 = some (.iload 5, 2, 0, 0) from rfl) (hl4 5 _ rfl) ?_
        refine q_lload_n (show mE (mtv 94) 85 = some (.lload_n 3, 1, 0, 0) from rfl) (hl4 3 _ rfl) ?_
        refine q_iload_n (show mE (mtv 94) 86 = some (.iload_n 1, 1, 0, 0) from rfl) (hl4 1 _ rfl) ?_
        refine q_iload (show mE (mtv 94) 87 = some (.iload 5, 2, 0, 0) from rfl) (hl4 5 _ rfl) ?_
        refine q_staticP (show mE (mtv 94) 89 = some (.invokestatic 73, 3, 35, 0) from rfl) (by decide) rfl rfl rfl (fun _ g => sp_35 g) ?_
        refine q_lor (show mE (mtv 94) 92 = some (.lor, 1, 0, 0) from rfl) ?_
        refine q_virtualE (show mE (mtv 94) 93 = some (.invokevirtual 59, 3, 94, 7) from rfl) (by decide) rfl rfl rfl (fun _ g => ih g) ?_
        rintro _ ⟨v8, rfl, e9⟩
        refine qK_v ?_
        refine q_lstore (show mE (mtv 94) 96 = some (.lstore 7, 2, 0, 0) from rfl) (Nat.le_of_ble_eq_true rfl) hl4 (fun lv10 (hl11 : qLs lv10 [some (.ref (9)), some (.int (x1)), some (.int (x2)), some (.long (x3)), none, some (.int (x5)), some (.int ((1 : Int32))), some (.long (v8)), none]) => ?_)
        refine q_lload (show mE (mtv 94) 98 = some (.lload 7, 2, 0, 0) from rfl) (hl11 7 _ rfl) ?_
        refine q_lconst (show mE (mtv 94) 100 = some (.lconst 0, 1, 0, 0) from rfl) kL_0 ?_
        refine q_lcmp (show mE (mtv 94) 101 = some (.lcmp, 1, 0, 0) from rfl) ?_
        refine q_ifl_eq (t := 108) (show mE (mtv 94) 102 = some (.ifCond .eq 6, 3, 0, 0) from rfl) rfl (fun c12 => ?_) (fun c12 => ?_)
        · refine q_iinc (show mE (mtv 94) 108 = some (.iinc 5 1, 3, 0, 0) from rfl) (Nat.le_of_ble_eq_true rfl) hl11 (hl11 5 _ rfl) kI_1 (fun lv13 (hl14 : qLs lv13 [some (.ref (9)), some (.int (x1)), some (.int (x2)), some (.long (x3)), none, some (.int (x5 + (1 : Int32))), some (.int ((1 : Int32))), some (.long (v8)), none]) => ?_)
          refine q_goto (t := 24) (show mE (mtv 94) 111 = some (.goto (-87), 3, 0, 0) from rfl) rfl ?_
          exact p3 c1 c2 c5 v8 e9 c12 lv13 (qLs_wk hl14 (⟨rfl, rfl, rfl, rfl, rfl, trivial⟩))
        · refine q_lload (show mE (mtv 94) 105 = some (.lload 7, 2, 0, 0) from rfl) (hl11 7 _ rfl) ?_
          refine q_lreturn (show mE (mtv 94) 107 = some (.lreturn, 1, 0, 0) from rfl) ?_
          exact p4 c1 c2 c5 v8 e9 c12
    · refine q_iload (show mE (mtv 94) 37 = some (.iload 5, 2, 0, 0) from rfl) (hl 5 _ rfl) ?_
      refine q_iload_n (show mE (mtv 94) 39 = some (.iload_n 2, 1, 0, 0) from rfl) (hl 2 _ rfl) ?_
      refine q_isub (show mE (mtv 94) 40 = some (.isub, 1, 0, 0) from rfl) ?_
      refine q_abs (show mE (mtv 94) 41 = some (.invokestatic 67, 3, 1001, 0) from rfl) ?_
      refine q_aload_n (show mE (mtv 94) 44 = some (.aload_n 0, 1, 0, 0) from rfl) (hl 0 _ rfl) ?_
      refine q_getI th (show mE (mtv 94) 45 = some (.getfield 42, 3, 7, 7) from rfl) (by decide) rfl ?_
      refine q_ic_gt (t := 55) (show mE (mtv 94) 48 = some (.if_icmp .gt 7, 3, 0, 0) from rfl) rfl (fun c15 => ?_) (fun c15 => ?_)
      · refine q_iconst (show mE (mtv 94) 55 = some (.iconst 0, 1, 0, 0) from rfl) kI_0 ?_
        refine q_istore (show mE (mtv 94) 56 = some (.istore 6, 2, 0, 0) from rfl) (Nat.le_of_ble_eq_true rfl) hl (fun lv16 (hl17 : qLs lv16 [some (.ref (9)), some (.int (x1)), some (.int (x2)), some (.long (x3)), none, some (.int (x5)), some (.int ((0 : Int32))), none, none]) => ?_)
        refine q_iload (show mE (mtv 94) 58 = some (.iload 6, 2, 0, 0) from rfl) (hl17 6 _ rfl) ?_
        refine q_ift (t := 108) (show mE (mtv 94) 60 = some (.ifCond .eq 48, 3, 0, 0) from rfl) (by decide) rfl ?_
        refine q_iinc (show mE (mtv 94) 108 = some (.iinc 5 1, 3, 0, 0) from rfl) (Nat.le_of_ble_eq_true rfl) hl17 (hl17 5 _ rfl) kI_1 (fun lv18 (hl19 : qLs lv18 [some (.ref (9)), some (.int (x1)), some (.int (x2)), some (.long (x3)), none, some (.int (x5 + (1 : Int32))), some (.int ((0 : Int32))), none, none]) => ?_)
        refine q_goto (t := 24) (show mE (mtv 94) 111 = some (.goto (-87), 3, 0, 0) from rfl) rfl ?_
        exact p5 c1 c2 c15 lv18 (qLs_wk hl19 (⟨rfl, rfl, rfl, rfl, rfl, trivial⟩))
      · refine q_iconst (show mE (mtv 94) 51 = some (.iconst 1, 1, 0, 0) from rfl) kI_1 ?_
        refine q_goto (t := 56) (show mE (mtv 94) 52 = some (.goto 4, 3, 0, 0) from rfl) rfl ?_
        refine q_istore (show mE (mtv 94) 56 = some (.istore 6, 2, 0, 0) from rfl) (Nat.le_of_ble_eq_true rfl) hl (fun lv20 (hl21 : qLs lv20 [some (.ref (9)), some (.int (x1)), some (.int (x2)), some (.long (x3)), none, some (.int (x5)), some (.int ((1 : Int32))), none, none]) => ?_)
        refine q_iload (show mE (mtv 94) 58 = some (.iload 6, 2, 0, 0) from rfl) (hl21 6 _ rfl) ?_
        refine q_iff (t := 108) (show mE (mtv 94) 60 = some (.ifCond .eq 48, 3, 0, 0) from rfl) (by decide) rfl ?_
        refine q_aload_n (show mE (mtv 94) 63 = some (.aload_n 0, 1, 0, 0) from rfl) (hl21 0 _ rfl) ?_
        refine q_getL th (show mE (mtv 94) 64 = some (.getfield 47, 3, 7, 8) from rfl) (by decide) rfl ?_
        refine q_iload_n (show mE (mtv 94) 67 = some (.iload_n 1, 1, 0, 0) from rfl) (hl21 1 _ rfl) ?_
        refine q_iload (show mE (mtv 94) 68 = some (.iload 5, 2, 0, 0) from rfl) (hl21 5 _ rfl) ?_
        refine q_staticP (show mE (mtv 94) 70 = some (.invokestatic 73, 3, 35, 0) from rfl) (by decide) rfl rfl rfl (fun _ g => sp_35 g) ?_
        refine q_land (show mE (mtv 94) 73 = some (.land, 1, 0, 0) from rfl) ?_
        refine q_lconst (show mE (mtv 94) 74 = some (.lconst 0, 1, 0, 0) from rfl) kL_0 ?_
        refine q_lcmp (show mE (mtv 94) 75 = some (.lcmp, 1, 0, 0) from rfl) ?_
        refine q_ifl_eq (t := 108) (show mE (mtv 94) 76 = some (.ifCond .eq 32, 3, 0, 0) from rfl) rfl (fun c22 => ?_) (fun c22 => ?_)
        · refine q_iinc (show mE (mtv 94) 108 = some (.iinc 5 1, 3, 0, 0) from rfl) (Nat.le_of_ble_eq_true rfl) hl21 (hl21 5 _ rfl) kI_1 (fun lv23 (hl24 : qLs lv23 [some (.ref (9)), some (.int (x1)), some (.int (x2)), some (.long (x3)), none, some (.int (x5 + (1 : Int32))), some (.int ((1 : Int32))), none, none]) => ?_)
          refine q_goto (t := 24) (show mE (mtv 94) 111 = some (.goto (-87), 3, 0, 0) from rfl) rfl ?_
          exact p6 c1 c2 c15 c22 lv23 (qLs_wk hl24 (⟨rfl, rfl, rfl, rfl, rfl, trivial⟩))
        · refine q_aload_n (show mE (mtv 94) 79 = some (.aload_n 0, 1, 0, 0) from rfl) (hl21 0 _ rfl) ?_
          refine q_iload_n (show mE (mtv 94) 80 = some (.iload_n 1, 1, 0, 0) from rfl) (hl21 1 _ rfl) ?_
          refine q_iconst (show mE (mtv 94) 81 = some (.iconst 1, 1, 0, 0) from rfl) kI_1 ?_
          refine q_iadd (show mE (mtv 94) 82 = some (.iadd, 1, 0, 0) from rfl) ?_
          refine q_iload (show mE (mtv 94) 83 = some (.iload 5, 2, 0, 0) from rfl) (hl21 5 _ rfl) ?_
          refine q_lload_n (show mE (mtv 94) 85 = some (.lload_n 3, 1, 0, 0) from rfl) (hl21 3 _ rfl) ?_
          refine q_iload_n (show mE (mtv 94) 86 = some (.iload_n 1, 1, 0, 0) from rfl) (hl21 1 _ rfl) ?_
          refine q_iload (show mE (mtv 94) 87 = some (.iload 5, 2, 0, 0) from rfl) (hl21 5 _ rfl) ?_
          refine q_staticP (show mE (mtv 94) 89 = some (.invokestatic 73, 3, 35, 0) from rfl) (by decide) rfl rfl rfl (fun _ g => sp_35 g) ?_
          refine q_lor (show mE (mtv 94) 92 = some (.lor, 1, 0, 0) from rfl) ?_
          refine q_virtualE (show mE (mtv 94) 93 = some (.invokevirtual 59, 3, 94, 7) from rfl) (by decide) rfl rfl rfl (fun _ g => ih g) ?_
          rintro _ ⟨v25, rfl, e26⟩
          refine qK_v ?_
          refine q_lstore (show mE (mtv 94) 96 = some (.lstore 7, 2, 0, 0) from rfl) (Nat.le_of_ble_eq_true rfl) hl21 (fun lv27 (hl28 : qLs lv27 [some (.ref (9)), some (.int (x1)), some (.int (x2)), some (.long (x3)), none, some (.int (x5)), some (.int ((1 : Int32))), some (.long (v25)), none]) => ?_)
          refine q_lload (show mE (mtv 94) 98 = some (.lload 7, 2, 0, 0) from rfl) (hl28 7 _ rfl) ?_
          refine q_lconst (show mE (mtv 94) 100 = some (.lconst 0, 1, 0, 0) from rfl) kL_0 ?_
          refine q_lcmp (show mE (mtv 94) 101 = some (.lcmp, 1, 0, 0) from rfl) ?_
          refine q_ifl_eq (t := 108) (show mE (mtv 94) 102 = some (.ifCond .eq 6, 3, 0, 0) from rfl) rfl (fun c29 => ?_) (fun c29 => ?_)
          · refine q_iinc (show mE (mtv 94) 108 = some (.iinc 5 1, 3, 0, 0) from rfl) (Nat.le_of_ble_eq_true rfl) hl28 (hl28 5 _ rfl) kI_1 (fun lv30 (hl31 : qLs lv30 [some (.ref (9)), some (.int (x1)), some (.int (x2)), some (.long (x3)), none, some (.int (x5 + (1 : Int32))), some (.int ((1 : Int32))), some (.long (v25)), none]) => ?_)
            refine q_goto (t := 24) (show mE (mtv 94) 111 = some (.goto (-87), 3, 0, 0) from rfl) rfl ?_
            exact p7 c1 c2 c15 c22 v25 e26 c29 lv30 (qLs_wk hl31 (⟨rfl, rfl, rfl, rfl, rfl, trivial⟩))
          · refine q_lload (show mE (mtv 94) 105 = some (.lload 7, 2, 0, 0) from rfl) (hl28 7 _ rfl) ?_
            refine q_lreturn (show mE (mtv 94) 107 = some (.lreturn, 1, 0, 0) from rfl) ?_
            exact p8 c1 c2 c15 c22 v25 e26 c29
theorem lk_94 {h : sH} {I : Nat → Nat → Int32} {L : Nat → Nat → Int64} {R : Nat → Nat} (th : qH h I L R) {y : Int64} {a b : Int32} (ca : a < I 9 5) (ih : ∀ {b' : Int32} {y' : Int64} {r : sR}, qGo 94 [.ref (9), .int (a + (1 : Int32)), .int b', .long y'] h r → ∃ v, r = (.inl (some (.long v)), h) ∧ fstV I L (a + 1) b' y' v) :
    ∀ N d lv, inv94 I L a b y d → qLs lv [some (.ref (9)), some (.int (a)), some (.int (b)), some (.long (y)), none, some (.int (d)), none, none, none] → qW 94 N 24 lv [] h (fun r => ∃ v, r = (.inl (some (.long v)), h) ∧ fstV I L a b y v)
  | 0, _, _, _, _ => qW_0
  | N + 1, d, lv, hv, hl => by
    have none_nx : ∀ lv', ¬ I 9 6 ≤ d → (∀ m nc c p dn, cnd94 I L a b y m nc c p → c < nc → d = Int32.ofNat dn → dn < m → noneIn I L m nc c ((p * m + dn) * m ^ (nc - c - 1)) (m ^ (nc - c - 1))) → qLs lv' [some (.ref (9)), some (.int (a)), some (.int (b)), some (.long (y)), none, some (.int (d + (1 : Int32))), none, none, none] → qW 94 N 24 lv' [] h (fun r => ∃ v, r = (.inl (some (.long v)), h) ∧ fstV I L a b y v) := fun lv' c1 hw hl' => lk_94 th ca ih N (d + 1) lv' (inv94_s ca hv c1 hw) hl'
    have zero : ∀ v, fstV I L (a + 1) d (y ||| bitL a d) v → ¬ (L 9 8 &&& bitL a d) = 0 → v = 0 → ∀ m nc c p dn, cnd94 I L a b y m nc c p → c < nc → d = Int32.ofNat dn → dn < m → noneIn I L m nc c ((p * m + dn) * m ^ (nc - c - 1)) (m ^ (nc - c - 1)) := fun v e4 c5 c12 m nc c p dn hc hcl e hd N h1 h2 q => by
      rcases fstV_s e4 c5 hc hcl e hd with ⟨_, g⟩ | ⟨g, _⟩
      · exact g N h1 h2 ((goodF_blk (by omega) hd (by omega) h1 h2).mp q).2
      · exact g c12
    have found : ∀ v, ¬ I 9 6 ≤ d → fstV I L (a + 1) d (y ||| bitL a d) v → ¬ (L 9 8 &&& bitL a d) = 0 → ¬ v = 0 → (a = 0 ∨ ¬ I 9 7 < (if 0 ≤ d - b then d - b else 0 - (d - b))) → fstV I L a b y v := fun v c1 e4 c5 c12 hn m nc c p hc => by
      obtain ⟨dn, e1, e2, e3⟩ := hv m nc c p hc
      have hcl := cnd94_lt hc ca
      have hdn : dn < m := by
        obtain ⟨em, ec, m1, m6, -⟩ := hc
        rw [em, e1] at c1
        have := mt (oN_le (by omega) (by omega)).mpr c1
        omega
      rcases fstV_s e4 c5 hc hcl e1 hdn with ⟨g, _⟩ | ⟨g, N, h1, h2, h3, h4, h5⟩
      · exact absurd g c12
      · have hm : 0 < m := by omega
        obtain ⟨b1, b2'⟩ := blk_lt (j := nc - c - 1) hdn h1 h2
        rw [show nc - c - 1 + 1 = nc - c by omega] at b1 b2'
        refine .inr ⟨g, N, b1, b2', (goodF_blk hm hdn (by omega) h1 h2).mpr ⟨near94 hc e1 hn, h3⟩, h4, fun N' g1 g2 => ?_⟩
        have hb := blk_s (m := m) (j := nc - c - 1) (p := p) dn
        rw [show nc - c - 1 + 1 = nc - c by omega] at hb
        by_cases g3 : N' < p * m ^ (nc - c) + dn * m ^ (nc - c - 1)
        · exact e3 N' g1 g3
        · exact fun q => h5 N' (by omega) g2 ((goodF_blk hm hdn (by omega) (show (p * m + dn) * m ^ (nc - c - 1) ≤ N' by omega) (by omega)).mp q).2
    refine qg_94_24 th ih hl (fun c1 => ⟨0, rfl, fun m nc c p hc => ?_⟩) (fun c1 c2 c5 lv' hl' => none_nx lv' c1 (fun m nc c p dn hc hcl e hd => noAl c5 hc hcl e hd) hl') (fun c1 c2 c5 v e4 c12 lv' hl' => none_nx lv' c1 (zero v e4 c5 c12) hl') (fun c1 c2 c5 v e4 c12 => ⟨v, rfl, found v c1 e4 c5 c12 (.inl c2)⟩) (fun c1 c2 c9 lv' hl' => none_nx lv' c1 (fun m nc c p dn hc hcl e hd N h1 h2 q => ?_) hl') (fun c1 c2 c9 c5 lv' hl' => none_nx lv' c1 (fun m nc c p dn hc hcl e hd => noAl c5 hc hcl e hd) hl') (fun c1 c2 c9 c5 v e4 c12 lv' hl' => none_nx lv' c1 (zero v e4 c5 c12) hl') (fun c1 c2 c9 c5 v e4 c12 => ⟨v, rfl, found v c1 e4 c5 c12 (.inr c9)⟩)
    · obtain ⟨dn, e1, e2, e3⟩ := hv m nc c p hc
      have hcl := cnd94_lt hc ca
      obtain ⟨em, ec, m1, m6, -⟩ := hc
      rw [em, e1] at c1
      have := (oN_le (by omega) (by omega)).mp c1
      rw [show dn = m by omega, show m * m ^ (nc - c - 1) = m ^ (nc - c) by rw [Nat.mul_comm, ← Nat.pow_succ, show (nc - c - 1).succ = nc - c by omega]] at e3
      exact .inl ⟨rfl, e3⟩
    · have := ((goodF_blk (by omega) hd (by omega) h1 h2).mp q).1
      obtain ⟨em, ec, m1, m6, n1, n6, ea, cn, hy, hb, -⟩ := hc
      rcases this with g | g
      · rw [ea, g] at c2; exact c2 rfl
      · have c0 : 0 < c := by
          apply Nat.pos_of_ne_zero
          intro g2
          rw [ea, g2] at c2; exact c2 rfl
        rw [hb c0, e] at c9
        exact of_decide_eq_true g c9
theorem end94 {I : Nat → Nat → Int32} {L : Nat → Nat → Int64} {a b : Int32} {y : Int64} (c1 : ¬ isRO I L a y = true) (c2 : ¬ a < I 9 5) : fstV I L a b y y := fun m nc c p hc => by
  have hc0 := hc
  obtain ⟨em, ec, m1, m6, n1, n6, ea, cn, hy, hb, hal, hbd, hv⟩ := hc
  rw [ea, ec] at c2
  have := mt (oN_lt (by omega) (by omega)).mpr c2
  have e : c = nc := by omega
  subst e
  have hm : 0 < m := by omega
  have d8 : ∀ i, dg m c p i < 8 := fun i => Nat.lt_of_lt_of_le (dg_lt hm) (by omega)
  have nro : ¬ roQ I L a y := fun q => c1 (pB_t q)
  rw [Nat.sub_self, Nat.pow_zero, Nat.mul_one]
  refine .inr ⟨fun q => ?_, p, Nat.le_refl _, by omega, ⟨nearF_end, fun x hx => ?_⟩, hy, fun N' g1 g2 => absurd g2 (by omega)⟩
  · have := isCuts_at hy (show 0 < c by omega) (d8 0)
    rw [q, lb_0] at this
    cases this
  · have ex : x = y := isCuts_inj hx hy (fun i _ => rfl)
    subst ex
    rintro (q | q | ⟨i, i1, i2⟩ | q)
    · exact q hv
    · exact nro (.inl q)
    · refine nro (.inr ⟨i, i1, ?_⟩)
      have : posL (L 9 8) x a = x := lb_ext (fun n hn => by
        rw [ea, lb_pos (by omega) hn]
        by_cases g : 8 * c ≤ n
        · rw [hbd n g, Bool.and_false, Bool.or_false]
        · rw [decide_eq_false g, Bool.false_and, Bool.or_false])
      rw [this]
      exact i2
    · refine q ((letIn_iff hy n6 (fun i _ => d8 i)).mpr (fun i hi => hal i hi))
theorem ro94 {I : Nat → Nat → Int32} {L : Nat → Nat → Int64} {a b : Int32} {y : Int64} (c1 : isRO I L a y = true) : fstV I L a b y 0 := fun m nc c p hc => .inl ⟨rfl, noRO hc (pB_iff.mp c1)⟩
theorem sp_94n {h : sH} {I : Nat → Nat → Int32} {L : Nat → Nat → Int64} {R : Nat → Nat} (th : qH h I L R) : ∀ (k : Nat) (a b : Int32) (y : Int64) (r : sR), (I 9 5).toInt - a.toInt ≤ (k : Int) → qGo 94 [.ref (9), .int a, .int b, .long y] h r → ∃ v, r = (.inl (some (.long v)), h) ∧ fstV I L a b y v := by
  intro k
  induction k with
  | zero =>
    intro a b y r hk g
    refine qg_94 (Q := fun r => ∃ v, r = (.inl (some (.long v)), h) ∧ fstV I L a b y v) th g (fun c0 c1 N lv hl => ?_) (fun c1 c2 => ⟨y, rfl, end94 c1 c2⟩) (fun c1 => ⟨0, rfl, ro94 c1⟩)
    have := Int32.lt_iff_toInt_lt.mp c1
    omega
  | succ k IH =>
    intro a b y r hk g
    refine qg_94 (Q := fun r => ∃ v, r = (.inl (some (.long v)), h) ∧ fstV I L a b y v) th g (fun c0 c1 N lv hl => ?_) (fun c1 c2 => ⟨y, rfl, end94 c1 c2⟩) (fun c1 => ⟨0, rfl, ro94 c1⟩)
    refine lk_94 th c1 (fun g' => IH _ _ _ _ ?_ g') N 0 lv (fun m nc c p hc => ⟨0, rfl, Nat.zero_le _, fun N h1 h2 => ?_⟩) hl
    · have h1 := Int32.lt_iff_toInt_lt.mp c1
      have h2 : (1 : Int32).toInt = 1 := rfl
      have h3 := i32_rng (I 9 5)
      have h4 := i32_rng a
      rw [i32_add (by omega) (by omega), h2]
      omega
    · rw [Nat.zero_mul] at h2
      omega
theorem sp_94 {h : sH} {I : Nat → Nat → Int32} {L : Nat → Nat → Int64} {R : Nat → Nat} {y : Int64} {a b : Int32} {r : sR} (th : qH h I L R) (g : qGo 94 [.ref (9), .int a, .int b, .long y] h r) : ∃ v, r = (.inl (some (.long v)), h) ∧ fstV I L a b y v := sp_94n th (((I 9 5).toInt - a.toInt).toNat) a b y r (by omega) g
/-- the first of all numbers that are so, as a key; or none -/
def fst0 (f : Nat → Prop) (m nc : Nat) (v : Int64) : Prop := (v = 0 ∧ ∀ N, N < m ^ nc → ¬ f N) ∨ (¬ v = 0 ∧ ∃ N, N < m ^ nc ∧ f N ∧ isCuts v (dg m nc N) nc ∧ ∀ N', N' < N → ¬ f N')
def fiP (I : Nat → Nat → Int32) (L : Nat → Nat → Int64) (v : Int64) : Prop := ∀ m nc, I 9 6 = Int32.ofNat m → I 9 5 = Int32.ofNat nc → 1 ≤ m → m ≤ 6 → 1 ≤ nc → nc ≤ 6 → (∀ n, 8 * nc ≤ n → lb (L 9 8) n = false) → fst0 (goodF I L m nc 0) m nc v
theorem qg_93 {h : sH} {r : sR} {Q : sR → Prop} {I : Nat → Nat → Int32} {L : Nat → Nat → Int64} {R : Nat → Nat} (th : qH h I L R) (g : qGo 93 [.ref (9)] h r)
    (p1 : ∀ (z1 : I 9 4 = 0 ∨ I 9 4 = 1), ∀ (c2 : (I 9 4) = 0), ∀ (v3 : Int64), ∀ (e4 : fstV I L (0 : Int32) (0 : Int32) (0 : Int64) v3), Q (.inl (some (.long (v3))), h))
    (p2 : ∀ (z1 : I 9 4 = 0 ∨ I 9 4 = 1), ∀ (c2 : ¬ (I 9 4) = 0), Q (.inl (some (.long ((0 : Int64)))), h)) : Q r := by
  refine qGo_w g (fun N => ?_)
  have hl0 : qLs (lv_args 0 [.ref (9)]) [some (.ref (9))] := qLs_ar 0
  refine q_aload_n (show mE (mtv 93) 0 = some (.aload_n 0, 1, 0, 0) from rfl) (hl0 0 _ rfl) ?_
  refine q_getB th (show mE (mtv 93) 1 = some (.getfield 25, 3, 7, 4) from rfl) (by decide) rfl (fun z1 => ?_)
  refine q_if_eq (t := 11) (show mE (mtv 93) 4 = some (.ifCond .eq 7, 3, 0, 0) from rfl) rfl (fun c2 => ?_) (fun c2 => ?_)
  · refine q_aload_n (show mE (mtv 93) 11 = some (.aload_n 0, 1, 0, 0) from rfl) (hl0 0 _ rfl) ?_
    refine q_iconst (show mE (mtv 93) 12 = some (.iconst 0, 1, 0, 0) from rfl) kI_0 ?_
    refine q_iconst (show mE (mtv 93) 13 = some (.iconst 0, 1, 0, 0) from rfl) kI_0 ?_
    refine q_lconst (show mE (mtv 93) 14 = some (.lconst 0, 1, 0, 0) from rfl) kL_0 ?_
    refine q_virtualE (show mE (mtv 93) 15 = some (.invokevirtual 59, 3, 94, 7) from rfl) (by decide) rfl rfl rfl (fun _ g => sp_94 th g) ?_
    rintro _ ⟨v3, rfl, e4⟩
    refine qK_v ?_
    refine q_lreturn (show mE (mtv 93) 18 = some (.lreturn, 1, 0, 0) from rfl) ?_
    exact p1 z1 c2 v3 e4
  · refine q_lconst (show mE (mtv 93) 7 = some (.lconst 0, 1, 0, 0) from rfl) kL_0 ?_
    refine q_goto (t := 18) (show mE (mtv 93) 8 = some (.goto 10, 3, 0, 0) from rfl) rfl ?_
    refine q_lreturn (show mE (mtv 93) 18 = some (.lreturn, 1, 0, 0) from rfl) ?_
    exact p2 z1 c2
theorem sp_93 {h : sH} {I : Nat → Nat → Int32} {L : Nat → Nat → Int64} {R : Nat → Nat} {r : sR} (th : qH h I L R) (g : qGo 93 [.ref (9)] h r) : ∃ v, r = (.inl (some (.long v)), h) ∧ fiP I L v := by
  have vain : ¬ I 9 4 = 0 → fiP I L 0 := fun c m nc _ _ m1 m6 n1 n6 _ => by
    refine .inl ⟨rfl, fun N _ q => ?_⟩
    obtain ⟨x, hx⟩ := isCuts_ex (f := dg m nc N) (fun c => Nat.lt_of_lt_of_le (dg_lt (by omega)) (by omega)) nc (by omega)
    exact q.2 x hx (.inl c)
  have go : ∀ v, I 9 4 = 0 → fstV I L 0 0 0 v → fiP I L v := fun v c e m nc em ec m1 m6 n1 n6 hb => by
    have := e m nc 0 0 ⟨em, ec, m1, m6, n1, n6, rfl, Nat.zero_le _, isCuts_0, fun q => absurd q (Nat.lt_irrefl 0), fun i q => absurd q (Nat.not_lt_zero i), hb, c⟩
    rw [Nat.zero_mul, Nat.sub_zero] at this
    rcases this with ⟨e1, e2⟩ | ⟨e1, N, _, e2, e3, e4, e5⟩
    · exact .inl ⟨e1, fun N hN => e2 N (Nat.zero_le _) (by omega)⟩
    · exact .inr ⟨e1, N, by omega, e3, e4, fun N' hN => e5 N' (Nat.zero_le _) hN⟩
  exact qg_93 (Q := fun r => ∃ v, r = (.inl (some (.long v)), h) ∧ fiP I L v) th g (fun _ c v e => ⟨v, rfl, go v c e⟩) (fun _ c => ⟨0, rfl, vain c⟩)
