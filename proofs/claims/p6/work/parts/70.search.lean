/-! part 70: both searches find the same -/
theorem cnt_91 {p : Int64} : ∀ m j a, j + m < 1000 → ∃ b, G_91 p j (Int32.ofNat a) m = Int32.ofNat b ∧ a ≤ b ∧ b ≤ a + m ∧ (b = a ↔ ∀ c, j ≤ c → c < j + m → byteL (p &&& (((p).toUInt64 >>> (((1 : Int32)).toInt64.toUInt64 &&& Int64.toUInt64 63)).toInt64)) (Int32.ofNat c) = 0)
  | 0, j, a, _ => ⟨a, rfl, Nat.le_refl _, Nat.le_refl _, ⟨fun _ c h1 h2 => absurd h2 (by omega), fun _ => rfl⟩⟩
  | m + 1, j, a, hm => by
    unfold G_91
    by_cases g : byteL (p &&& (((p).toUInt64 >>> (((1 : Int32)).toInt64.toUInt64 &&& Int64.toUInt64 63)).toInt64)) (Int32.ofNat j) = 0
    · rw [if_pos g]
      obtain ⟨b, e1, e2, e3, e4⟩ := cnt_91 (p := p) m (j + 1) a (by omega)
      refine ⟨b, e1, e2, by omega, e4.trans ⟨fun q c h1 h2 => ?_, fun q c h1 h2 => q c (by omega) (by omega)⟩⟩
      by_cases e : c = j
      · rw [e]; exact g
      · exact q c (by omega) (by omega)
    · rw [if_neg g, oN_s]
      obtain ⟨b, e1, e2, e3, e4⟩ := cnt_91 (p := p) m (j + 1) (a + 1) (by omega)
      exact ⟨b, e1, by omega, by omega, ⟨fun q => absurd q (by omega), fun q => absurd (q j (Nat.le_refl _) (by omega)) g⟩⟩
theorem lb_shr1 {p : Int64} {n : Nat} : lb (((p).toUInt64 >>> (((1 : Int32)).toInt64.toUInt64 &&& Int64.toUInt64 63)).toInt64) n = lb p (n + 1) := by
  have h1 : (1 : Int32).toInt = 1 := rfl
  rw [lb_shr (by omega) (by omega), show (1 : Int32).toNatClampNeg = 1 from rfl, Nat.add_comm]
theorem lb_shl1 {p : Int64} {n : Nat} : lb (p <<< (((1 : Int32)).toInt64 &&& 63)) n = (decide (n < 64) && (decide (1 ≤ n) && lb p (n - 1))) := by
  have h1 : (1 : Int32).toInt = 1 := rfl
  rw [lb_shlX (by omega) (by omega), show (1 : Int32).toNatClampNeg = 1 from rfl]
theorem byte_0 {x : Int64} {c : Nat} (hc : c < 8) : byteL x (Int32.ofNat c) = 0 ↔ ∀ e, e < 8 → lb x (8 * c + e) = false := by
  constructor
  · intro h e he
    have := congrArg (fun z => lb z e) h
    simp only [lb_byte hc, decide_eq_true he, Bool.true_and, lb_0] at this
    exact this
  · intro h
    apply lb_ext
    intro n _
    rw [lb_byte hc, lb_0]
    by_cases g : n < 8
    · rw [h n g, Bool.and_false]
    · rw [decide_eq_false g, Bool.false_and]
theorem thinC {p : Int64} {nc : Nat} (n6 : nc ≤ 6) : G_91 p 0 0 nc ≤ 0 ↔ ∀ c, c < nc → ∀ e, e < 8 → ¬ (lb p (8 * c + e) = true ∧ lb p (8 * c + e + 1) = true) := by
  obtain ⟨b, e1, e2, e3, e4⟩ := cnt_91 (p := p) nc 0 0 (by omega)
  have e1 : G_91 p 0 0 nc = Int32.ofNat b := e1
  rw [e1]
  have h1 := oN_le (a := b) (b := 0) (by omega) (by decide)
  have one : ∀ c, c < nc → (byteL (p &&& (((p).toUInt64 >>> (((1 : Int32)).toInt64.toUInt64 &&& Int64.toUInt64 63)).toInt64)) (Int32.ofNat c) = 0 ↔ ∀ e, e < 8 → ¬ (lb p (8 * c + e) = true ∧ lb p (8 * c + e + 1) = true)) := fun c hc => by
    rw [byte_0 (by omega)]
    refine forall_congr' (fun e => imp_congr_right (fun he => ?_))
    rw [lb_and, lb_shr1]
    cases lb p (8 * c + e) <;> cases lb p (8 * c + e + 1) <;> decide
  constructor
  · intro q c hc
    have := h1.mp q
    exact (one c hc).mp (e4.mp (by omega) c (Nat.zero_le _) (by omega))
  · intro q
    exact h1.mpr (Nat.le_of_eq (e4.mpr (fun c _ h2 => (one c (by omega)).mpr (q c (by omega)))))
theorem lb_thin {p : Int64} {n : Nat} (hn : n < 64) : lb (thinM p) n = true ↔ (1 ≤ n ∧ lb p (n - 1) = true) ∨ lb p (n + 1) = true := by
  unfold thinM
  rw [lb_or, Bool.or_eq_true, lb_shr1, lb_shl1, decide_eq_true hn, Bool.true_and, Bool.and_eq_true, decide_eq_true_eq]
/-- a key's depths are all a key's -/
theorem let_cuts {x y : Int64} {f t : Nat → Nat} {n n' : Nat} (hn : n ≤ n') (n6 : n' ≤ 6) (hy : isCuts y f n) (hx : isCuts x t n') (hf : ∀ c, c < n → f c < 8) : letIn y x ↔ ∀ c, c < n → f c = t c := by
  rw [letIn_c hy (by omega) hf]
  refine forall_congr' (fun c => imp_congr_right (fun hc => ?_))
  rw [hx c _ (hf c hc), decide_eq_true_eq]
  exact ⟨fun q => q.2.symm, fun q => ⟨by omega, q.symm⟩⟩
/-- the model, but for what is wished -/
def agM (J I : Nat → Nat → Int32) : Prop := ∀ a b, a ≠ 88 → J a b = I a b
theorem pin_W {I J : Nat → Nat → Int32} {L : Nat → Nat → Int64} {R : Nat → Nat} (h : RK I L R) (hJ : agM J I) {w : Int32} {d : Nat} (hw : ∀ k, k < 16 → tb w k = tb (J 88 k) d) {c e : Nat} (hc : c < ncI I) (he : e < 8) : lb (G_14 L w 0 0 (nkI I)) (8 * c + e) = true ↔ pinQ J d c e := by
  have hm := h.mi
  have hkb := hm.kb
  have n6 := hm.c6
  have m6 := hm.m6
  have := lb_14 (L := L) (w := w) (nkI I) 0 0 (8 * c + e) (by omega)
  rw [this, lb_0]
  have ek : nkI J = nkI I := by unfold nkI; rw [hJ 85 35 (by decide)]
  unfold pinQ
  rw [ek]
  constructor
  · rintro (q | ⟨i, _, q2, q3, q4⟩)
    · cases q
    · have hi : i < nkI I := by omega
      rw [h.kc i hi c e he, decide_eq_true_eq] at q4
      rw [hw i (by omega)] at q3
      refine ⟨i, hi, q3, ?_⟩
      rw [hJ 86 _ (by decide), (dp_lt hm hi hc).2, q4.2]
  · rintro ⟨i, hi, q3, q4⟩
    refine .inr ⟨i, Nat.zero_le _, by omega, by rw [hw i (by omega)]; exact q3, ?_⟩
    rw [h.kc i hi c e he, decide_eq_true_eq]
    refine ⟨hc, ?_⟩
    rw [hJ 86 _ (by decide)] at q4
    unfold dpM
    rw [q4, ofN_clamp (by omega)]
theorem pin_hi {I J : Nat → Nat → Int32} {L : Nat → Nat → Int64} {R : Nat → Nat} (h : RK I L R) {w : Int32} {c e : Nat} (he : e < 8) (h6 : mdI I ≤ e) : lb (G_14 L w 0 0 (nkI I)) (8 * c + e) = false := by
  have hm := h.mi
  have hkb := hm.kb
  refine Bool.eq_false_iff.mpr (fun q => ?_)
  have := lb_14 (L := L) (w := w) (nkI I) 0 0 (8 * c + e) (by omega)
  rcases this.mp q with q | ⟨i, _, q2, q3, q4⟩
  · rw [lb_0] at q; cases q
  · rw [h.kc i (by omega) c e he, decide_eq_true_eq] at q4
    have := (dp_lt hm (show i < nkI I by omega) q4.1).1
    omega
/-- a door, as both sides look at it -/
theorem door_W {I J : Nat → Nat → Int32} {L : Nat → Nat → Int64} {R : Nat → Nat} (h : RK I L R) (g14 : I 85 43 = I 1 4) (g16 : I 85 47 = I 0 16) (hJ : agM J I) {w D : Int32} {d : Nat} (hd : d < ndI I) (hw : ∀ k, k < 16 → tb w k = tb (J 88 k) d) {t : Nat → Nat} (ht : ∀ c, t c < mdI I) {x : Int64} (hx : isCuts x t (ncI I)) : liB I L (I (R d) 0) w (b2 (hs D (Int32.ofNat d) = true)) x ↔ ¬ clnD J D t d := by
  have hm := h.mi
  have hkb := hm.kb
  have hdb := hm.db
  have n6 := hm.c6
  have m6 := hm.m6
  have ek : nkI J = nkI I := by unfold nkI; rw [hJ 85 35 (by decide)]
  have ec : ncI J = ncI I := by unfold ncI; rw [hJ 85 31 (by decide)]
  have edp : dpM J = dpM I := by funext k c; unfold dpM; rw [hJ 86 _ (by decide)]
  have t8 : ∀ c, c < ncI I → t c < 8 := fun c _ => by have := ht c; omega
  have pin : ∀ {c e}, c < ncI I → e < 8 → (lb (G_14 L w 0 0 (nkI I)) (8 * c + e) = true ↔ pinQ J d c e) := fun hc he => pin_W h hJ hw hc he
  have pinNo : ∀ {c e}, c < ncI I → e < 9 → mdI I ≤ e → ¬ pinQ J d c e := fun {c e} hc he h6 ⟨i, q1, q2, q3⟩ => by
    rw [ek] at q1
    rw [hJ 86 _ (by decide), (dp_lt hm q1 hc).2] at q3
    have := (dp_lt hm q1 hc).1
    have := (oN_inj (by omega) (by omega)).mp q3
    omega
  have fB' : (I 1 4 &&& I (R d) 0) = 0 ↔ fB J d := by
    unfold fB
    rw [hJ 85 43 (by decide), hJ 97 d (by decide), g14, h.wa d (by omega)]
  have k09 : (I 0 9).toNatClampNeg = nkI I := by rw [h.nk]; rfl
  have c11 : (I 1 1).toNatClampNeg = ncI I := by rw [h.ch]; rfl
  have hD : hs D (Int32.ofNat d) = tb D d := hs_oN (by omega)
  have f0 : b2 (hs D (Int32.ofNat d) = true) = 0 ↔ tb D d = false := by
    rw [hD]
    cases tb D d with
    | true => exact ⟨fun q => absurd q (by decide), fun q => (by cases q)⟩
    | false => exact ⟨fun _ => rfl, fun _ => rfl⟩
  have f1 : ¬ b2 (hs D (Int32.ofNat d) = true) = 0 ↔ tb D d = true := by
    rw [f0]; cases tb D d <;> decide
  have inx : letIn x (G_14 L w 0 0 (nkI I)) ↔ ∀ c, c < ncI I → pinQ J d c (t c) := by
    rw [letIn_c hx n6 t8]
    exact forall_congr' (fun c => imp_congr_right (fun hc => pin hc (t8 c hc)))
  have k8 : ∀ k, k < nkI I → ∀ c, c < ncI I → dpM I k c < 8 := fun k hk c hc => by have := (dp_lt hm hk hc).1; omega
  -- a key that would come in
  have key : ∀ k, k < nkI I → (lsB (L (19 + k) 0 &&& (G_14 L w 0 0 (nkI I) ^^^ 18446744073709551615)) (b2 (hs D (Int32.ofNat d) = true)) x ↔ ∀ c, c < ncI I → pq J D t d c (dpM I k c)) := fun k hk => by
    unfold lsB pq
    rw [f1, f0]
    have y0 : (L (19 + k) 0 &&& (G_14 L w 0 0 (nkI I) ^^^ 18446744073709551615)) = 0 ↔ ∀ c, c < ncI I → pinQ J d c (dpM I k c) := by
      show letIn _ _ ↔ _
      rw [letIn_c (h.kc k hk) n6 (k8 k hk)]
      exact forall_congr' (fun c => imp_congr_right (fun hc => pin hc (k8 k hk c hc)))
    have yx : letIn (L (19 + k) 0 &&& (G_14 L w 0 0 (nkI I) ^^^ 18446744073709551615)) x ↔ ∀ c, c < ncI I → pinQ J d c (dpM I k c) ∨ t c = dpM I k c := by
      rw [letIn_b]
      constructor
      · intro q c hc
        have h8 := k8 k hk c hc
        by_cases g : pinQ J d c (dpM I k c)
        · exact .inl g
        · have g' : lb (G_14 L w 0 0 (nkI I)) (8 * c + dpM I k c) = false := Bool.eq_false_iff.mpr (fun z => g ((pin hc h8).mp z))
          have := q (8 * c + dpM I k c) (by omega) (by
            rw [lb_and, isCuts_at (h.kc k hk) hc h8, lb_nt, g', decide_eq_true (show 8 * c + dpM I k c < 64 by omega)]; rfl)
          rw [hx c _ h8, decide_eq_true_eq] at this
          exact .inr this.2
      · intro q n hn z
        rw [lb_and, Bool.and_eq_true, lb_nt, decide_eq_true hn, Bool.true_and] at z
        obtain ⟨z1, z2⟩ := isCuts_bit (h.kc k hk) z.1
        have e : n = 8 * (n / 8) + n % 8 := by omega
        have h8 : n % 8 < 8 := Nat.mod_lt _ (by decide)
        rw [e, hx _ _ h8, decide_eq_true_eq]
        refine ⟨z1, ?_⟩
        have q := q (n / 8) z1
        rw [z2] at q
        refine q.resolve_left (fun p => ?_)
        have := (pin z1 h8).mpr p
        rw [← e] at this
        rw [this] at z
        cases z.2
    rw [y0, yx]
    cases g : tb D d with
    | true => exact ⟨fun q c hc => (q.elim (fun z => z.2 c hc) (fun z => (by cases z.1))).elim Or.inl (fun z => .inr ⟨rfl, z⟩), fun q => .inl ⟨rfl, fun c hc => (q c hc).elim Or.inl (fun z => .inr z.2)⟩⟩
    | false => exact ⟨fun q c hc => q.elim (fun z => (by cases z.1)) (fun z => .inl (z.2 c hc)), fun q => .inr ⟨rfl, fun c hc => (q c hc).elim id (fun z => (by cases z.1))⟩⟩
  have thin : ltB (I 1 1) (G_14 L w 0 0 (nkI I)) (b2 (hs D (Int32.ofNat d) = true)) x ↔ ¬ ∀ c, c < ncI I → ∀ e, e < 8 → ¬ (pq J D t d c e ∧ pq J D t d c (e + 1)) := by
    unfold ltB
    rw [c11, thinC n6, f1]
    have up : ∀ {c e}, c < ncI I → e < 8 → (lb (G_14 L w 0 0 (nkI I)) (8 * c + e) = true ∧ lb (G_14 L w 0 0 (nkI I)) (8 * c + e + 1) = true ↔ pinQ J d c e ∧ pinQ J d c (e + 1)) := fun {c e} hc he => by
      by_cases e7 : e = 7
      · subst e7
        have := pin_hi (J := J) h (w := w) (c := c) (show 7 < 8 by decide) (by omega)
        rw [this]
        exact ⟨fun q => (by cases q.1), fun q => absurd q.1 (pinNo hc (by decide) (by omega))⟩
      · rw [pin hc he, Nat.add_assoc, pin hc (by omega)]
    have x1 : letIn x (thinM (G_14 L w 0 0 (nkI I)) ^^^ 18446744073709551615) ↔ ∀ c, c < ncI I → ¬ ((1 ≤ t c ∧ pinQ J d c (t c - 1)) ∨ pinQ J d c (t c + 1)) := by
      rw [letIn_c hx n6 t8]
      refine forall_congr' (fun c => imp_congr_right (fun hc => ?_))
      have tm := ht c
      rw [lb_nt, decide_eq_true (show 8 * c + t c < 64 by omega), Bool.true_and, Bool.not_eq_true', ← Bool.not_eq_true, lb_thin (by omega)]
      refine not_congr (or_congr ?_ ?_)
      · by_cases g : 1 ≤ t c
        · rw [show 8 * c + t c - 1 = 8 * c + (t c - 1) by omega, pin hc (by omega)]
          exact ⟨fun q => ⟨g, q.2⟩, fun q => ⟨by omega, q.2⟩⟩
        · constructor
          · rintro ⟨q1, q2⟩
            have c1 : 1 ≤ c := by omega
            rw [show 8 * c + t c - 1 = 8 * (c - 1) + 7 by omega, pin_hi (J := J) h (by decide) (by omega)] at q2
            cases q2
          · exact fun q => absurd q.1 g
      · rw [show 8 * c + t c + 1 = 8 * c + (t c + 1) by omega, pin hc (by omega)]
    rw [x1]
    constructor
    · rintro (q | ⟨q1, q2⟩) z
      · refine q (fun c hc e he p => ?_)
        obtain ⟨p1, p2⟩ := (up hc he).mp p
        exact z c hc e he ⟨.inl p1, .inl p2⟩
      · refine q2 (fun c hc p => ?_)
        have tm := ht c
        rcases p with ⟨p1, p2⟩ | p
        · exact z c hc (t c - 1) (by omega) ⟨.inl p2, .inr ⟨q1, by omega⟩⟩
        · exact z c hc (t c) (by omega) ⟨.inr ⟨q1, rfl⟩, .inl p⟩
    · intro q
      refine Classical.byContradiction (fun n => q (fun c hc e he p => ?_))
      have n1 : ∀ c, c < ncI I → ∀ e, e < 8 → ¬ (lb (G_14 L w 0 0 (nkI I)) (8 * c + e) = true ∧ lb (G_14 L w 0 0 (nkI I)) (8 * c + e + 1) = true) := Classical.byContradiction (fun z => n (.inl z))
      obtain ⟨p1, p2⟩ := p
      rcases p1 with p1 | ⟨p1, p3⟩
      · rcases p2 with p2 | ⟨p2, p4⟩
        · exact n1 c hc e he ((up hc he).mpr ⟨p1, p2⟩)
        · exact n (.inr ⟨p2, fun z => z c hc (.inl ⟨by omega, by rw [p4]; exact p1⟩)⟩)
      · rcases p2 with p2 | ⟨p2, p4⟩
        · exact n (.inr ⟨p1, fun z => z c hc (.inr (by rw [p3]; exact p2))⟩)
        · omega
  unfold liB clnD cl1 cl2 cl3 cl4
  rw [k09, fB', inx, thin, f1, f0, ek, ec, edp, hJ 85 47 (by decide), g16]
  have keys : (∃ k, k < nkI I ∧ ¬ hs w (Int32.ofNat k) = true ∧ (I (19 + k) 1 &&& I (R d) 0) = 0 ∧ lsB (L (19 + k) 0 &&& (G_14 L w 0 0 (nkI I) ^^^ 18446744073709551615)) (b2 (hs D (Int32.ofNat d) = true)) x) ↔ ¬ ∀ k, k < nkI I → (J 95 k &&& J 97 d) = 0 → (∀ c, c < ncI I → pq J D t d c (dpM I k c)) → tb (J 88 k) d = true := by
    have one : ∀ k, k < nkI I → (hs w (Int32.ofNat k) = tb (J 88 k) d ∧ (I (19 + k) 1 &&& I (R d) 0) = J 95 k &&& J 97 d) := fun k hk => by
      rw [hs_oN (by omega), hw k (by omega), hJ 95 k (by decide), hJ 97 d (by decide), h.kp k hk, h.wa d (by omega)]
      exact ⟨rfl, rfl⟩
    constructor
    · rintro ⟨k, q1, q2, q3, q4⟩ z
      obtain ⟨o1, o2⟩ := one k q1
      rw [o1] at q2
      rw [o2] at q3
      exact q2 (z k q1 q3 ((key k q1).mp q4))
    · intro q
      refine Classical.byContradiction (fun n => q (fun k hk z1 z2 => ?_))
      obtain ⟨o1, o2⟩ := one k hk
      cases g : tb (J 88 k) d with
      | true => rfl
      | false => exact absurd ⟨k, hk, by rw [o1, g]; decide, by rw [o2]; exact z1, (key k hk).mpr z2⟩ n
  rw [keys]
  constructor
  · rintro (q | ⟨q1, q2⟩ | q | ⟨q1, q2⟩) ⟨z1, z2, z3, z4⟩
    · exact q z4
    · exact q2 (z1 q1)
    · exact z2 q
    · exact q2 (z3 q1)
  · intro q
    refine Classical.byContradiction (fun n => q ⟨fun z => ?_, fun z => n (.inr (.inr (.inl z))), fun z => ?_, ?_⟩)
    · exact Classical.byContradiction (fun y => n (.inr (.inl ⟨z, y⟩)))
    · exact Classical.byContradiction (fun y => n (.inr (.inr (.inr ⟨z, y⟩))))
    · exact Classical.byContradiction (fun y => n (.inl y))
/-- a key that both may take -/
theorem both_OK {I J : Nat → Nat → Int32} {L : Nat → Nat → Int64} {R : Nat → Nat} (h : RK I L R) (g14 : I 85 43 = I 1 4) (g16 : I 85 47 = I 0 16) (hJ : agM J I) {D rep blk : Int32} (hw : ∀ d k, d < ndI I → k < 16 → tb (wsD I R rep d) k = tb (J 88 k) d) (hb : blk = -1 ∨ ∃ b, b < nbI I ∧ blk = Int32.ofNat b) (N : Nat) : srOK I L R D rep blk (if blk = -1 then 0 else L 15 blk.toNatClampNeg) (mdI I) (ncI I) N ↔ mOK J D blk (dg (mdI I) (ncI I) N) := by
  have hm := h.mi
  have hkb := hm.kb
  have hbb := hm.bb
  have hdb := hm.db
  have n3 := hm.c3
  have n6 := hm.c6
  have m2 := hm.m2
  have m6 := hm.m6
  have ek : nkI J = nkI I := by unfold nkI; rw [hJ 85 35 (by decide)]
  have ec : ncI J = ncI I := by unfold ncI; rw [hJ 85 31 (by decide)]
  have ed : ndI J = ndI I := by unfold ndI; rw [hJ 85 36 (by decide)]
  have eb : nbI J = nbI I := by unfold nbI; rw [hJ 85 46 (by decide)]
  have ht : ∀ c, dg (mdI I) (ncI I) N c < mdI I := fun c => dg_lt (by omega)
  have k09 : (I 0 9).toNatClampNeg = nkI I := by rw [h.nk]; rfl
  have d10 : (I 0 10).toNatClampNeg = ndI I := by rw [h.nd]; rfl
  have b12 : (I 0 12).toNatClampNeg = nbI I := by rw [h.nb]; rfl
  have near : nearF (I 1 3) (mdI I) (ncI I) 0 N ↔ nearM J (dg (mdI I) (ncI I) N) := by
    unfold nearF nearM
    rw [ec]
    have e : ∀ a b, cA J a b = cA I a b := fun a b => by unfold cA; rw [hJ 85 33 (by decide)]
    exact forall_congr' (fun i => ⟨fun q h0 h1 => by rw [e, ← h.lac]; exact q (Nat.zero_le _) h0 h1, fun q _ h0 h1 => by rw [h.lac, ← e]; exact q h0 h1⟩)
  unfold srOK mOK
  rw [near]
  refine and_congr_right (fun _ => ?_)
  -- blocks
  have szb : ∀ b, b < nbI I → (I 104 b).toNatClampNeg ≤ ncI I ∧ 1 ≤ (I 104 b).toNatClampNeg := fun b hb => by
    obtain ⟨e, e1, e2, e3⟩ := hm.bs b hb
    rw [e3, ofN_clamp (by omega)]
    exact ⟨e2, e1⟩
  have bdep : ∀ b c, b < nbI I → c < (I 104 b).toNatClampNeg → (I 105 (6 * b + c)).toNatClampNeg < 8 ∧ I 105 (6 * b + c) = Int32.ofNat (I 105 (6 * b + c)).toNatClampNeg := fun b c hb hc => by
    obtain ⟨e, e1, e2⟩ := hm.bd b c hb hc
    rw [e2, ofN_clamp (by omega)]
    exact ⟨by omega, rfl⟩
  have inb : ∀ b, b < nbI I → ∀ t : Nat → Nat, (∀ c, t c < mdI I) → (inBl J b t ↔ ∀ c, c < (I 104 b).toNatClampNeg → (I 105 (6 * b + c)).toNatClampNeg = t c) := fun b hb t ht => by
    unfold inBl
    rw [hJ 104 b (by decide)]
    refine forall_congr' (fun c => imp_congr_right (fun hc => ?_))
    obtain ⟨q1, q2⟩ := bdep b c hb hc
    have := ht c
    rw [hJ 105 _ (by decide), q2, ofN_clamp (by omega)]
    exact oN_inj (by omega) (by omega)
  have key : ∀ x, isCuts x (dg (mdI I) (ncI I) N) (ncI I) → (((∀ c, c < ncI I → byteL (if blk = -1 then 0 else L 15 blk.toNatClampNeg) (Int32.ofNat c) = 0 ∨ lb (if blk = -1 then 0 else L 15 blk.toNatClampNeg) (8 * c + dg (mdI I) (ncI I) N c) = true) ∧ ¬ srB I L R D rep blk x) ↔ mntQ J blk (dg (mdI I) (ncI I) N) ∧ ¬ isKM J (dg (mdI I) (ncI I) N) ∧ clnM J D (dg (mdI I) (ncI I) N)) := fun x hx => by
    have b1 : srB1 I L (nkI I) x ↔ isKM J (dg (mdI I) (ncI I) N) := by
      unfold srB1 isKM
      rw [ek, ec]
      refine exists_congr (fun k => and_congr_right (fun hk => ?_))
      rw [hJ 95 k (by decide), hJ 85 43 (by decide), h.kp k hk, g14]
      refine and_congr_right (fun _ => ?_)
      rw [let_cuts (Nat.le_refl _) n6 (h.kc k hk) hx (fun c hc => by have := (dp_lt hm hk hc).1; omega)]
      refine forall_congr' (fun c => imp_congr_right (fun hc => ?_))
      have := ht c
      have := (dp_lt hm hk hc).1
      rw [hJ 86 _ (by decide), (dp_lt hm hk hc).2]
      exact (oN_inj (by omega) (by omega)).symm
    have bl1 : ∀ b, b < nbI I → (letIn (L 15 b) x ↔ inBl J b (dg (mdI I) (ncI I) N)) := fun b hb => by
      rw [inb b hb _ ht]
      exact let_cuts (szb b hb).1 n6 (h.bl b hb) hx (fun c hc => (bdep b c hb hc).1)
    have b3 : srB3 I L R D rep (ndI I) x ↔ ¬ clnM J D (dg (mdI I) (ncI I) N) := by
      unfold srB3 clnM
      rw [ed]
      have one : ∀ d, d < ndI I → (liB I L (I (R d) 0) (wsD I R rep d) (b2 (hs D (Int32.ofNat d) = true)) x ↔ ¬ clnD J D (dg (mdI I) (ncI I) N) d) := fun d hd => door_W h g14 g16 hJ hd (fun k hk => hw d k hd hk) ht hx
      constructor
      · rintro ⟨d, q1, q2⟩ z
        exact (one d q1).mp q2 (z d q1)
      · intro q
        exact Classical.byContradiction (fun n => q (fun d hd => Classical.byContradiction (fun z => n ⟨d, hd, (one d hd).mpr z⟩)))
    unfold srB
    rw [k09, d10, b12, b1, b3]
    have rest : ((∀ c, c < ncI I → byteL (if blk = -1 then 0 else L 15 blk.toNatClampNeg) (Int32.ofNat c) = 0 ∨ lb (if blk = -1 then 0 else L 15 blk.toNatClampNeg) (8 * c + dg (mdI I) (ncI I) N c) = true) ∧ ¬ srB2 L blk (nbI I) x) ↔ mntQ J blk (dg (mdI I) (ncI I) N) := by
      unfold srB2 mntQ
      rw [eb]
      rcases hb with e | ⟨b, hb, e⟩
      · subst e
        rw [if_pos rfl]
        have nn : ∀ b, b < nbI I → ¬ Int32.ofNat b = -1 := fun b hb z => by
          have := congrArg Int32.toInt z
          rw [ofN_toInt (by omega)] at this
          have h1 : (-1 : Int32).toInt = -1 := rfl
          omega
        constructor
        · rintro ⟨_, q⟩
          exact .inl ⟨rfl, fun b hb z => q ⟨b, hb, nn b hb, (bl1 b hb).mpr z⟩⟩
        · rintro (⟨_, q⟩ | ⟨b, hb, q, _⟩)
          · refine ⟨fun c hc => .inl ((byte_0 (by omega)).mpr (fun e _ => lb_0 _)), ?_⟩
            rintro ⟨b, hb, _, z⟩
            exact q b hb ((bl1 b hb).mp z)
          · exact absurd q.symm (nn b hb)
      · have ne : ¬ blk = -1 := fun z => by
          rw [e] at z
          have := congrArg Int32.toInt z
          rw [ofN_toInt (by omega)] at this
          have h1 : (-1 : Int32).toInt = -1 := rfl
          omega
        rw [if_neg ne, e, ofN_clamp (by omega)]
        have cond : (∀ c, c < ncI I → byteL (L 15 b) (Int32.ofNat c) = 0 ∨ lb (L 15 b) (8 * c + dg (mdI I) (ncI I) N c) = true) ↔ inBl J b (dg (mdI I) (ncI I) N) := by
          rw [inb b hb _ ht]
          have sz := szb b hb
          constructor
          · intro q c hc
            have h8 := (bdep b c hb hc).1
            rcases q c (by omega) with z | z
            · have := (byte_0 (by omega)).mp z _ h8
              rw [isCuts_at (h.bl b hb) hc h8] at this
              cases this
            · have := ht c
              rw [h.bl b hb c _ (by omega), decide_eq_true_eq] at z
              exact z.2
          · intro q c hc
            by_cases g : c < (I 104 b).toNatClampNeg
            · right
              have := ht c
              rw [h.bl b hb c _ (by omega), decide_eq_true_eq]
              exact ⟨g, q c g⟩
            · left
              refine (byte_0 (by omega)).mpr (fun e' he => ?_)
              rw [h.bl b hb c e' he, decide_eq_false (fun z => g z.1)]
        rw [cond]
        constructor
        · rintro ⟨q, _⟩
          exact .inr ⟨b, hb, rfl, q⟩
        · rintro (⟨q, _⟩ | ⟨b', hb', q, q2⟩)
          · exact absurd (e.trans q) ne
          · have : b = b' := (oN_inj (by omega) (by omega)).mp q
            subst this
            refine ⟨q2, ?_⟩
            rintro ⟨b2, hb2, q3, q4⟩
            have hne : b2 ≠ b := fun z => q3 (by rw [z])
            obtain ⟨c, c1, c2, c3⟩ := hm.bp b2 b hb2 hb hne
            have z1 := (inb b2 hb2 _ ht).mp ((bl1 b2 hb2).mp q4) c c1
            have z2 := (inb b hb _ ht).mp q2 c c2
            exact c3 (by rw [(bdep b2 c hb2 c1).2, (bdep b c hb c2).2, z1, z2])
    constructor
    · rintro ⟨q1, q2⟩
      have n1 : ¬ isKM J (dg (mdI I) (ncI I) N) := fun z => q2 (.inl z)
      have n2 : ¬ srB2 L blk (nbI I) x := fun z => q2 (.inr (.inl z))
      exact ⟨rest.mp ⟨q1, n2⟩, n1, Classical.byContradiction (fun z => q2 (.inr (.inr z)))⟩
    · rintro ⟨q1, q2, q3⟩
      obtain ⟨r1, r2⟩ := rest.mpr q1
      refine ⟨r1, ?_⟩
      rintro (z | z | z)
      · exact q2 z
      · exact r2 z
      · exact z q3
  obtain ⟨x, hx⟩ := isCuts_ex (f := dg (mdI I) (ncI I) N) (fun c => by have := ht c; omega) (ncI I) (by omega)
  exact ⟨fun q => (key x hx).mp (q x hx), fun q y hy => (key y hy).mpr q⟩
/-- the search of both sides: nothing on both, or the same key -/
def srE (I : Nat → Nat → Int32) (v : Int64) (Jm : Nat → Nat → Int32) (vm : Int32) : Prop := (v = 0 ∧ vm = 0) ∨ (¬ v = 0 ∧ vm = 1 ∧ ∃ N, isCuts v (dg (mdI I) (ncI I) N) (ncI I) ∧ (∀ c, c < ncI I → Jm 91 c = Int32.ofNat (dg (mdI I) (ncI I) N c)) ∧ nearM I (dg (mdI I) (ncI I) N) ∧ ¬ isKM I (dg (mdI I) (ncI I) N))
theorem search_E {I J : Nat → Nat → Int32} {L : Nat → Nat → Int64} {R : Nat → Nat} (h : RK I L R) (g14 : I 85 43 = I 1 4) (g16 : I 85 47 = I 0 16) (hJ : agM J I) (hmJ : MI J) {D rep blk : Int32} (hw : ∀ d k, d < ndI I → k < 16 → tb (wsD I R rep d) k = tb (J 88 k) d) (hb : blk = -1 ∨ ∃ b, b < nbI I ∧ blk = Int32.ofNat b)
    {J1 Jm : Nat → Nat → Int32} {K1 : Nat → Nat → Int64} {v : Int64} {vm : Int32} (hc : srP I L R D rep blk J1 K1 v) (hf : fndP J D blk Jm vm) : (∀ a b, a ≠ 9 → J1 a b = I a b) ∧ frL K1 L ∧ agS Jm J ∧ srE I v Jm vm := by
  have hm := h.mi
  have hkb := hm.kb
  have hbb := hm.bb
  have hdb := hm.db
  have n3 := hm.c3
  have n6 := hm.c6
  have m2 := hm.m2
  have m6 := hm.m6
  have ek : nkI J = nkI I := by unfold nkI; rw [hJ 85 35 (by decide)]
  have ec : ncI J = ncI I := by unfold ncI; rw [hJ 85 31 (by decide)]
  have em : mdI J = mdI I := by unfold mdI; rw [hJ 85 32 (by decide)]
  have eb : nbI J = nbI I := by unfold nbI; rw [hJ 85 46 (by decide)]
  have k09 : (I 0 9).toNatClampNeg = nkI I := by rw [h.nk]; rfl
  have d10 : (I 0 10).toNatClampNeg = ndI I := by rw [h.nd]; rfl
  have b12 : (I 0 12).toNatClampNeg = nbI I := by rw [h.nb]; rfl
  obtain ⟨c1, c2, c3⟩ := hc
  have c4 := fst0_cg (fun N _ => both_OK h g14 g16 hJ hw hb N) (c3 (mdI I) (ncI I) h.m1 h.c1 (by omega) m6 (by omega) n6 (by omega) (by omega) (by omega))
  obtain ⟨f1, f2⟩ := hf hmJ (by rw [eb]; exact hb)
  rw [em, ec] at f2
  refine ⟨c1, c2, f1, ?_⟩
  rcases c4 with ⟨e1, e2⟩ | ⟨e1, N, e2, e3, e4, e5⟩
  · rcases f2 with ⟨p1, p2⟩ | ⟨p1, M, p2, p3, p4, p5⟩
    · exact .inl ⟨e1, p1⟩
    · exact absurd p3 (e2 M p2)
  · rcases f2 with ⟨p1, p2⟩ | ⟨p1, M, p2, p3, p4, p5⟩
    · exact absurd e3 (p2 N e2)
    · have : N = M := by
        rcases Nat.lt_trichotomy N M with g | g | g
        · exact absurd e3 (p4 N g)
        · exact g
        · exact absurd p3 (e5 M g)
      subst this
      refine .inr ⟨e1, p1, N, e4, p5, ?_, ?_⟩
      · have := e3.1
        unfold nearM at this ⊢
        rw [ec] at this
        have e : ∀ a b, cA J a b = cA I a b := fun a b => by unfold cA; rw [hJ 85 33 (by decide)]
        exact fun i h0 h1 => by rw [← e]; exact this i h0 h1
      · have := e3.2.2.1
        unfold isKM at this ⊢
        rw [ek, ec] at this
        rintro ⟨k, q1, q2, q3⟩
        refine this ⟨k, q1, ?_, fun c hc => ?_⟩
        · rw [hJ 95 k (by decide), hJ 85 43 (by decide)]; exact q2
        · rw [hJ 86 _ (by decide)]; exact q3 c hc
