/-! some parts, joined -/
section
/-! part 87: cutBelow -/
theorem agU_0 {I : Nat → Nat → Int32} : agU I I := fun _ _ => rfl
theorem fb_U {J I : Nat → Nat → Int32} (h : agU J I) (k : Nat) (held : Int32) : fb J k held = fb I k held := by
  have e86 : ∀ b, J 86 b = I 86 b := fun b => by rw [h 86 (by decide)]
  have q_ca : cA J = cA I := by funext d e2; unfold cA; rw [h 85 (by decide)]
  have q_be : ∀ c d, belP J k held c d = belP I k held c d := fun c d => by
    unfold belP dpM
    simp only [e86]
  have q_nc : ncI J = ncI I := by unfold ncI; rw [h 85 (by decide)]
  have q_md : mdI J = mdI I := by unfold mdI; rw [h 85 (by decide)]
  have q_ha : hAll J = hAll I := by unfold hAll; rw [h 85 (by decide)]
  funext N
  unfold fb nearM
  simp only [q_nc, q_md, q_ca, q_ha, q_be]
theorem go_U {I J Jm : Nat → Nat → Int32} {m held num v : Int32} (h : agU J I) (g : goP J m held num Jm v) : goP I m held num (patV I Jm) v := fun hh => by
  have nk : nkI J = nkI I := by unfold nkI; rw [h 85 (by decide)]
  have nc : ncI J = ncI I := by unfold ncI; rw [h 85 (by decide)]
  have md : mdI J = mdI I := by unfold mdI; rw [h 85 (by decide)]
  obtain ⟨g1, g2⟩ := g ⟨MI_U h hh.1, by rw [nk]; exact hh.2.1, hh.2.2⟩
  refine ⟨fun a b hn => if_neg hn, ?_⟩
  rw [nc, md, fb_U h] at g2
  have e91 : ∀ c, patV I Jm 91 c = Jm 91 c := fun c => if_pos rfl
  simp only [e91]
  exact g2
theorem cs_neg {I J0 : Nat → Nat → Int32} {L : Nat → Nat → Int64} {R : Nat → Nat} (hK : RK I L R) {k : Nat} (hk : k < nkI I) {a2 a3 : Int32} {v : Int64} (e : csP I L (Int32.ofNat k) a2 a3 J0 v) (hv : ¬ v = 0) : ¬ a3 < 0 := fun c => by
  have pw : mdI I ^ ncI I ≤ 46656 := pw_le hK.mi.m6 hK.mi.c6
  rcases (e R hK k hk rfl).2 with ⟨v0, _⟩ | ⟨_, N, q1, q2, q3, q4⟩
  · exact hv v0
  · have b := cK_le (f := fb I k a2) (lo := 0) (k := N)
    rw [q3] at c
    have z : (0 : Int32).toInt = 0 := rfl
    rw [Int32.lt_iff_toInt_lt, z, ofN_toInt (by omega)] at c
    omega
theorem cs_N {I J0 : Nat → Nat → Int32} {L : Nat → Nat → Int64} {R : Nat → Nat} (hK : RK I L R) {k : Nat} (hk : k < nkI I) {a2 a3 : Int32} {v : Int64} (e : csP I L (Int32.ofNat k) a2 a3 J0 v) (hv : ¬ v = 0) : ∃ N, nearM J0 (dg (mdI J0) (ncI J0) N) ∧ isCuts v (dg (mdI J0) (ncI J0) N) (ncI J0) := by
  obtain ⟨a0, csv⟩ := e R hK k hk rfl
  have a1 := agW_S a0
  have nc := ncI_S a1
  have md : mdI J0 = mdI I := by unfold mdI; rw [sc85 a1 (by decide)]
  rcases csv with ⟨v0, _⟩ | ⟨_, N, q1, q2, q3, q4⟩
  · exact absurd v0 hv
  · refine ⟨N, ?_, by rw [nc, md]; exact q4⟩
    have := q2.1
    unfold nearM at this ⊢
    rw [nc, md]
    exact fun i h0 h1 => by rw [cA_S a1]; exact this i h0 h1
/-- the model's way below, from a state in which the class may have written already -/
theorem cb_A {I J0 Jm J : Nat → Nat → Int32} {L : Nat → Nat → Int64} {R : Nat → Nat} (hK : RK I L R) {k : Nat} (hk : k < nkI I) {a2 a3 w : Int32} {v : Int64} (e : csP I L (Int32.ofNat k) a2 a3 J0 v) (hu : agU Jm J0) (h0 : ¬ a3 < 0) (g : goP Jm (Int32.ofNat k) a2 a3 J w) : agr 91 J Jm ∧ (∀ a b, 85 ≤ a → a ≠ 91 → J a b = J0 a b) ∧ (¬ v = 0 ↔ w = a3 + 1) ∧ (¬ v = 0 → ∀ c, c < ncI I → dpL v (Int32.ofNat c) = J 91 c) := by
  have hkb := hK.mi.kb
  obtain ⟨a0, r0⟩ := sc_cs hK hk e
  obtain ⟨g1, g2, g3⟩ := at_E hK hk e h0 (go_U hu g)
  have nk : nkI Jm = nkI I := by unfold nkI; rw [hu 85 (by decide), sc85 a0 (by decide)]
  have k1 : (Int32.ofNat k).toNatClampNeg = k := ofN_clamp (by omega)
  have g4 := (g ⟨MI_U hu r0.mi, by rw [nk, k1]; exact hk, by rw [k1]⟩).1
  exact ⟨g4, fun a b q1 q2 => by rw [g4 a b q2, hu a q1], g2, g3⟩
theorem cb_T {I J0 J : Nat → Nat → Int32} {L : Nat → Nat → Int64} {R : Nat → Nat} (hK : RK I L R) (hG : RG I) {k d : Nat} (hk : k < nkI I) (hd : d < ndI I) (a0 : agS J0 I) (r0 : RK J0 L R) (q : ∀ a b, 85 ≤ a → a ≠ 91 → J a b = J0 a b) : (∀ t, T_28 J0 (R (Int32.ofNat d).toNatClampNeg) (Int32.ofNat k) = T_224 (upI J 85 42 t) (Int32.ofNat d) (Int32.ofNat k)) ∧ ((J0 1 4 &&& J0 (R (Int32.ofNat d).toNatClampNeg) 0) = (J 85 43 &&& J 97 (Int32.ofNat d).toNatClampNeg)) ∧ J 85 35 = Int32.ofNat (nkI I) ∧ J0 0 9 = Int32.ofNat (nkI I) := by
  have hdb := hK.mi.db
  have hr := hK.rr d (by omega)
  rw [ofN_clamp (show d < 2147483648 by omega)]
  refine ⟨fun t => ?_, ?_, ?_, ?_⟩
  · rw [canw r0 (by rw [ndI_S a0]; exact hd) (by rw [nkI_S a0]; exact hk)]
    unfold T_224 T_225
    simp (disch := omega) only [upI_ne]
    rw [q 88 _ (by decide) (by decide), q 92 _ (by decide) (by decide), q 95 _ (by decide) (by decide), q 97 _ (by decide) (by decide)]
  · rw [q 85 43 (by decide) (by decide), q 97 d (by decide) (by decide), a0 1 4 (by unfold scr; omega), a0 (R d) 0 (by unfold scr; omega), a0 85 43 (by unfold scr; omega), a0 97 d (by unfold scr; omega), hK.wa d (by omega), hG.1.2.2.2.2.2.2.2]
  · rw [q 85 35 (by decide) (by decide), a0 85 35 (by unfold scr; omega)]; exact hK.mi.k
  · rw [a0 0 9 (by unfold scr; omega)]; exact hK.k1
/-- whether a key is there: on both sides -/
theorem same_X {I J : Nat → Nat → Int32} {L : Nat → Nat → Int64} {R : Nat → Nat} (h : RK I L R) (g14 : I 85 43 = I 1 4) {x : Int64} {f : Nat → Nat} (hx : isCuts x f (ncI I)) (hf : ∀ c, c < ncI I → f c < 8) (ha : ∀ a b, a ≠ 91 → ¬ (a = 85 ∧ b = 42) → 85 ≤ a → J a b = I a b) (ht : ∀ c, c < ncI I → J 91 c = Int32.ofNat (f c)) {v : Int32} (e : smP J v) : (G_56 I L x 0 (I 0 9).toNatClampNeg = true ↔ ¬ v = -1) := by
  have hm := h.mi
  have c6 := hm.c6
  have m6 := hm.m6
  have hkb := hm.kb
  have sm : ∀ i, i < nkI I → (sameM J (ncI I) i ↔ L (19 + i) 0 = x ∧ I (19 + i) 1 = I 1 4) := fun i hi => by
    unfold sameM
    rw [ha 95 i (by decide) (by omega) (by decide), ha 85 43 (by decide) (by omega) (by decide), h.kp i hi, g14]
    constructor
    · rintro ⟨q1, q2⟩
      refine ⟨isCuts_inj (h.kc i hi) hx (fun c hc => ?_), q1⟩
      have := q2 c hc
      have f8 := hf c hc
      rw [ha 86 _ (by decide) (by omega) (by decide), ht c hc] at this
      unfold dpM
      rw [this, ofN_clamp (by omega)]
    · rintro ⟨q1, q2⟩
      refine ⟨q2, fun c hc => ?_⟩
      obtain ⟨d1, d2⟩ := dp_lt hm hi hc
      rw [ha 86 _ (by decide) (by omega) (by decide), ht c hc, d2]
      have := isCuts_at (h.kc i hi) hc (by omega)
      rw [q1, hx c _ (by omega), decide_eq_true_eq] at this
      rw [this.2]
  rw [h.n9, cnt_56 (nkI I) 0 (by omega)]
  rcases e (nkI I) (ncI I) ((ha 85 35 (by decide) (by omega) (by decide)).trans hm.k) ((ha 85 31 (by decide) (by omega) (by decide)).trans hm.c) hkb c6 with ⟨q1, q2⟩ | ⟨i, q1, q2, q3⟩
  · exact ⟨fun ⟨i, _, h2, h3⟩ => absurd ((sm i (by omega)).mpr h3) (q2 i (by omega)), fun z => absurd q1 z⟩
  · refine ⟨fun _ z => ?_, fun _ => ⟨i, Nat.zero_le _, by omega, (sm i q1).mp q2⟩⟩
    rw [q3] at z
    have := congrArg Int32.toInt z
    rw [ofN_toInt (by omega), show (-1 : Int32).toInt = -1 by decide] at this
    omega
theorem cb_91 {I J0 J : Nat → Nat → Int32} {L : Nat → Nat → Int64} {R : Nat → Nat} (hK : RK I L R) (a0 : agS J0 I) {v : Int64} (g : ∀ c, c < ncI I → dpL v (Int32.ofNat c) = J 91 c) {N : Nat} (n2 : isCuts v (dg (mdI J0) (ncI J0) N) (ncI J0)) : ∀ c, c < ncI J0 → J 91 c = Int32.ofNat (dg (mdI J0) (ncI J0) N c) := fun c hc => by
  have c6 := hK.mi.c6
  have m6 := hK.mi.m6
  have m2 := hK.mi.m2
  have nc := ncI_S a0
  have md : mdI J0 = mdI I := by unfold mdI; rw [sc85 a0 (by decide)]
  have lt : dg (mdI J0) (ncI J0) N c < 8 := Nat.lt_of_lt_of_le (dg_lt (by omega)) (by omega)
  rw [← g c (by omega), isCuts_dp n2 hc (by omega) lt]
theorem cb_S {I J0 J : Nat → Nat → Int32} {L : Nat → Nat → Int64} {R : Nat → Nat} (hK : RK I L R) (hG : RG I) {k : Nat} (hk : k < nkI I) {a2 a3 : Int32} {v : Int64} (e : csP I L (Int32.ofNat k) a2 a3 J0 v) (hv : ¬ v = 0) (q : ∀ a b, 85 ≤ a → a ≠ 91 → J a b = J0 a b) (g : ∀ c, c < ncI I → dpL v (Int32.ofNat c) = J 91 c) {t s : Int32} (hs : smP (upI J 85 42 t) s) : (G_56 J0 L v 0 (J0 0 9).toNatClampNeg = true ↔ ¬ s = -1) := by
  obtain ⟨a0, r0⟩ := sc_cs hK hk e
  obtain ⟨N, _, n2⟩ := cs_N hK hk e hv
  have m6 := r0.mi.m6
  have m2 := r0.mi.m2
  exact same_X r0 (by rw [a0 85 43 (by unfold scr; omega), a0 1 4 (by unfold scr; omega)]; exact hG.1.2.2.2.2.2.2.2) n2 (fun c _ => Nat.lt_of_lt_of_le (dg_lt (by omega)) (by omega)) (fun a b q1 q2 q3 => by rw [upI_ne q2, q a b q3 q1]) (fun c hc => by rw [upI_ne (by omega)]; exact cb_91 hK a0 g n2 c hc) hs
noncomputable def cbN (I : Nat → Nat → Int32) (R : Nat → Nat) (d k : Nat) : Nat → Nat → Int32 := upI (upI (upI (upI I (R d) 1 (xW (I (R d) 1) (Int32.ofNat k) (1 : Int32))) (19 + nkI I) 1 (I 1 4)) (19 + nkI I) 3 ((1 : Int32) <<< (Int32.ofNat (nkI I) &&& 31))) 0 9 (Int32.ofNat (nkI I) + (1 : Int32))
/-- what the class has written -/
theorem cb_pre {I J1 : Nat → Nat → Int32} {L : Nat → Nat → Int64} {R : Nat → Nat} (h : RK I L R) {k d : Nat} (hd : d < ndI I) (hn : nkI I < 16) {D : Int32} (hw : wsP (cbN I R d k) R D (Int32.ofNat (nkI I)) 1 J1) : (∀ a b, ¬ (35 ≤ a ∧ a ≤ 44 ∧ b = 1) → J1 a b = cbN I R d k a b) ∧ (∀ e j, e < 10 → tb (J1 (R e) 1) j = if j = nkI I ∧ e < ndI I ∧ tb D e = true then true else tb (cbN I R d k (R e) 1) j) ∧ (∀ a b, ¬ (a = 19 + nkI I ∧ (b = 1 ∨ b = 3)) → ¬ (a = 0 ∧ b = 9) → ¬ (35 ≤ a ∧ a ≤ 44 ∧ b = 1) → cbN I R d k a b = I a b) ∧ agU J1 I := by
  have hdb := h.mi.db
  have hr := h.rr d (by omega)
  have r0 : ∀ a b, ¬ (a = 19 + nkI I ∧ (b = 1 ∨ b = 3)) → ¬ (a = 0 ∧ b = 9) → ¬ (35 ≤ a ∧ a ≤ 44 ∧ b = 1) → cbN I R d k a b = I a b := fun a b q1 q2 q3 => by
    unfold cbN
    rw [upI_ne q2, upI_ne (fun z => q1 ⟨z.1, .inr z.2⟩), upI_ne (fun z => q1 ⟨z.1, .inl z.2⟩), upI_ne (fun z => q3 (by omega))]
  obtain ⟨w1, w2⟩ := hw (fun d hd => h.rr d hd) (fun d e hd he => h.ri d e hd he) (ndI I) (nkI I) (by rw [r0 0 10 (by omega) (by omega) (by omega)]; exact h.d1) hdb rfl (by omega)
  exact ⟨w1, fun e j he => by rw [w2 e j he]; rfl, r0, agU_of (fun a b q => by rw [w1 a b (by omega), r0 a b (by omega) (by omega) (by omega)])⟩
/-- a key below a master is cut, on both sides -/
theorem cb_new {I J1 J2 J : Nat → Nat → Int32} {L : Nat → Nat → Int64} {R : Nat → Nat} (h : RK I L R) (g14 : I 85 43 = I 1 4) {k d N : Nat} (hk : k < nkI I) (hd : d < ndI I) (hn : nkI I < 16) {v : Int64} {w : Int32} (n1 : nearM I (dg (mdI I) (ncI I) N)) (n2 : isCuts v (dg (mdI I) (ncI I) N) (ncI I)) (hT : T_28 I (R d) (Int32.ofNat k) = true) (hF : (I 1 4 &&& I (R d) 0) = 0)
    (hw : wsP (cbN I R d k) R ((1 : Int32) <<< (Int32.ofNat d &&& 31)) (Int32.ofNat (nkI I)) 1 J1) (j2 : agr 91 J2 J1) (j91 : ∀ c, c < ncI I → J2 91 c = Int32.ofNat (dg (mdI I) (ncI I) N c))
    (ha : adP (upI (upI (upI J2 85 42 (0 : Int32)) 85 42 (0 : Int32)) 88 k ((J2 88 k) ||| ((1 : Int32) <<< (Int32.ofNat d &&& 31)))) ((1 : Int32) <<< (Int32.ofNat d &&& 31)) J w) : w = Int32.ofNat (nkI I) ∧ J 85 42 = 0 ∧ RK J (upL L (19 + nkI I) 0 v) R := by
  have hm := h.mi
  have hdb := hm.db
  have hkb := hm.kb
  have h6 := hm.c6
  have m6 := hm.m6
  have m2 := hm.m2
  have hr := h.rr d (by omega)
  obtain ⟨w1, w2, r0, u⟩ := cb_pre h hd hn hw
  have hf : (I 95 k &&& I 97 d) = 0 := can_fit hm hd hk (by rw [← canw h hd hk]; exact hT)
  have h1 := RK_wishOp h (t := (0 : Int32)) (b := (1 : Int32)) hd hk (fun _ => hf)
  have j2U : ∀ a b, 85 ≤ a → a ≠ 91 → J2 a b = I a b := fun a b q1 q2 => by rw [j2 a b q2, u a q1]
  rw [xW_1 (b := (1 : Int32)) (by decide), j2U 88 k (by decide) (by decide)] at ha
  generalize hI1 : upI (upI (upI I (R d) 1 (xW (I (R d) 1) (Int32.ofNat k) (1 : Int32))) 85 42 (0 : Int32)) 88 k (xW (I 88 k) (Int32.ofNat d) (1 : Int32)) = I1 at h1
  have i1 : ∀ a b, ¬ (a = 88 ∧ b = k) → ¬ (a = 85 ∧ b = 42) → ¬ (a = R d ∧ b = 1) → I1 a b = I a b := fun a b q1 q2 q3 => by
    rw [← hI1, upI_ne q1, upI_ne q2, upI_ne q3]
  have i88 : I1 88 k = xW (I 88 k) (Int32.ofNat d) (1 : Int32) := by rw [← hI1, upI_s]
  have iR : I1 (R d) 1 = xW (I (R d) 1) (Int32.ofNat k) (1 : Int32) := by rw [← hI1, upI_ne (by omega), upI_ne (by omega), upI_s]
  clear hI1
  have q_nk : nkI I1 = nkI I := by unfold nkI; rw [i1 85 35 (by omega) (by omega) (by omega)]
  have q_nc : ncI I1 = ncI I := by unfold ncI; rw [i1 85 31 (by omega) (by omega) (by omega)]
  have q_nd : ndI I1 = ndI I := by unfold ndI; rw [i1 85 36 (by omega) (by omega) (by omega)]
  have q_md : mdI I1 = mdI I := by unfold mdI; rw [i1 85 32 (by omega) (by omega) (by omega)]
  have q_ca : ∀ a b, cA I1 a b = cA I a b := fun a b => by unfold cA; rw [i1 85 33 (by omega) (by omega) (by omega)]
  have c43 : I1 85 43 = I 85 43 := i1 85 43 (by omega) (by omega) (by omega)
  -- the model's cells ahead of the adding
  have jP : ∀ a b, 85 ≤ a → a ≠ 91 → ¬ (a = 85 ∧ b = 42) → upI (upI (upI J2 85 42 (0 : Int32)) 85 42 (0 : Int32)) 88 k (xW (I 88 k) (Int32.ofNat d) (1 : Int32)) a b = I1 a b := fun a b q1 q2 q3 => by
    by_cases g : a = 88 ∧ b = k
    · rw [g.1, g.2, upI_s, i88]
    · rw [upI_ne g, upI_ne q3, upI_ne q3, j2U a b q1 q2, i1 a b g q3 (by omega)]
  obtain ⟨r1, r2, r3, r4, r5, r6⟩ := ha (nkI I) (ncI I) (by rw [jP 85 35 (by omega) (by omega) (by omega), i1 85 35 (by omega) (by omega) (by omega)]; exact hm.k) hn (by rw [jP 85 31 (by omega) (by omega) (by omega), i1 85 31 (by omega) (by omega) (by omega)]; exact hm.c) h6
  -- cells of the last state
  have jM : ∀ a b, ¬ scr a b → 85 ≤ a → ¬ ((a = 85 ∧ b = 35) ∨ (a = 88 ∧ b = nkI I) ∨ (a = 95 ∧ b = nkI I) ∨ (a = 86 ∧ 6 * nkI I ≤ b)) → J a b = I1 a b := fun a b q1 q2 q3 => by
    rw [r6 a b q3, jP a b q2 (fun z => q1 (by unfold scr; omega)) (fun z => q1 (by unfold scr; omega))]
  have jC : ∀ a b, a < 85 → J a b = J1 a b := fun a b q2 => by
    rw [r6 a b (by omega), upI_ne (by omega), upI_ne (by omega), upI_ne (by omega), j2 a b (by omega)]
  have jI : ∀ a b, ¬ scr a b → a < 85 → ¬ (35 ≤ a ∧ a ≤ 44 ∧ b = 1) → ¬ (a = 19 + nkI I ∧ (b = 1 ∨ b = 3)) → ¬ (a = 0 ∧ b = 9) → J a b = I1 a b := fun a b q1 q2 q3 q4 q5 => by
    rw [jC a b q2, w1 a b q3, r0 a b q4 q5 q3, i1 a b (by omega) (by omega) (by omega)]
  refine ⟨r1, by rw [r6 85 42 (by omega), upI_ne (by omega), upI_s], RK_key h1 (by rw [c43, i1 1 4 (by omega) (by omega) (by omega)]; exact g14) (by rw [q_nk]; exact hn) (t := dg (mdI I) (ncI I) N) (fun c hc' => by rw [q_md]; exact dg_lt (by omega)) (fun i z1 z2 => ?_) (D := (1 : Int32) <<< (Int32.ofNat d &&& 31)) (fun e z => ?_) (by rw [q_nc]; exact n2) (fun a b q1 q2 => ?_) ?_ (fun b => ?_) ?_ ?_ (fun c hc' => ?_) (fun j c h1' h2 => ?_) (fun j hj => ?_) ?_ (fun j hj => ?_) (by rw [q_nk]; exact upL_s) (fun j hj => ?_) ?_ (fun j hj => ?_) (fun j hj => ?_) (fun j hj => ?_) (fun e j he => ?_)⟩
  · rw [q_nc] at z2
    rw [q_ca]
    exact n1 i z1 z2
  · rw [tb_1shl (by omega), decide_eq_true_eq] at z
    subst z
    rw [q_nd, c43, i1 97 e (by omega) (by omega) (by omega), g14, h.wa e (by omega)]
    exact ⟨hd, hF⟩
  · by_cases g : a < 85
    · refine jI a b q1 g (by omega) (by omega) (by omega)
    · exact jM a b q1 (by omega) (by omega)
  · rw [upL_ne (by omega)]
  · rw [upL_ne (by omega)]
  · rw [q_nk]; exact r2
  · rw [q_nk, jC 0 9 (by omega), w1 0 9 (by omega)]
    unfold cbN
    rw [upI_s, oN_s]
  · rw [q_nc] at hc'
    rw [q_nk, r5 c hc', upI_ne (by omega), upI_ne (by omega), upI_ne (by omega), j91 c hc']
  · rw [q_nk] at h1'
    rw [q_nc] at h2
    exact jM 86 _ (by unfold scr; omega) (by omega) (by omega)
  · rw [q_nk]
    by_cases g : j = nkI I
    · rw [if_pos g, g]; exact r3
    · rw [if_neg g]; exact jM 88 j (by unfold scr; omega) (by omega) (by omega)
  · rw [q_nk, r4, jP 85 43 (by omega) (by omega) (by omega)]
  · rw [q_nk] at hj
    exact jM 95 j (by unfold scr; omega) (by omega) (by omega)
  · rw [q_nk] at hj
    rw [upL_ne (by omega)]
  · rw [q_nk, jC _ 1 (by omega), w1 _ 1 (by omega), c43]
    unfold cbN
    rw [upI_ne (by omega), upI_ne (by omega), upI_s]
    exact g14.symm
  · rw [q_nk] at hj
    exact jI _ 1 (by unfold scr; omega) (by omega) (by omega) (by omega) (by omega)
  · rw [q_nk, jC _ 3 (by omega), w1 _ 3 (by omega)]
    unfold cbN
    rw [upI_ne (by omega), upI_s, tb_1shl (by omega)]
  · rw [q_nk] at hj
    exact jI _ 3 (by unfold scr; omega) (by omega) (by omega) (by omega) (by omega)
  · have hr' := h.rr e he
    have cR : cbN I R d k (R e) 1 = I1 (R e) 1 := by
      unfold cbN
      rw [upI_ne (by omega), upI_ne (by omega), upI_ne (by omega)]
      by_cases g : e = d
      · rw [g, upI_s, iR]
      · have ne : ¬ R e = R d := fun z => g (h.ri e d he (by omega) z)
        rw [upI_ne (fun z => ne z.1), i1 (R e) 1 (by omega) (by omega) (fun z => ne z.1)]
    rw [q_nk, jC (R e) 1 (by omega), w2 e j he, cR]
    by_cases g : j = nkI I
    · subst g
      rw [if_pos rfl]
      by_cases z : tb ((1 : Int32) <<< (Int32.ofNat d &&& 31)) e = true
      · have ed : e = d := by
          have z' := z
          rw [tb_1shl (by omega), decide_eq_true_eq] at z'
          exact z'
        rw [if_pos ⟨rfl, by omega, z⟩, z]
      · rw [if_neg (fun y => z y.2.2), h1.wi e _ he hn, Bool.eq_false_iff.mpr z]
        exact Bool.eq_false_iff.mpr (fun y => absurd (h1.mi.wu e _ hn y).1 (by omega))
    · rw [if_neg g, if_neg (fun y => g y.1)]
set_option maxHeartbeats 4000000 in
theorem qp_25 {h : sH} {I : Nat → Nat → Int32} {L : Nat → Nat → Int64} {R : Nat → Nat} (th : qH h I L R) (hK : RK I L R) (hG : RG I) {a1 : Int32} {a2 : Int32} {a3 : Int32} {a4 : Int32} {r : sR} (gW : qGo 127 [.ref (0), .int (a1), .int (a2), .int (a3), .int (a4), .ref (117)] h r)
    (p1 : ∀ (c3 : ¬ a1 < 0), ∀ (c14 : a1 < (I 0 9)), ∀ (c16 : ¬ a4 < 0), ∀ (c33 : a4 < (I 0 10)), ∀ (c35 : (0 : Int32) ≤ a2 ∧ a2 ≤ (((1 : Int32) <<< ((I 1 1) &&& 31)) - (1 : Int32))), ∀ (v40 : Int64), ∀ (j36 : Nat → Nat → Int32), ∀ (e39 : csP I L a1 a2 a3 j36 v40), ∀ (c45 : ¬ (v40 = (0 : Int64))), ∀ (c46 : G_56 j36 L (v40) 0 ((j36 0 9)).toNatClampNeg = true), ∀ (c71 : a3 < 0), False)
    (p2 : ∀ (c3 : ¬ a1 < 0), ∀ (c14 : a1 < (I 0 9)), ∀ (c16 : ¬ a4 < 0), ∀ (c33 : a4 < (I 0 10)), ∀ (c35 : (0 : Int32) ≤ a2 ∧ a2 ≤ (((1 : Int32) <<< ((I 1 1) &&& 31)) - (1 : Int32))), ∀ (v40 : Int64), ∀ (j36 : Nat → Nat → Int32), ∀ (e39 : csP I L a1 a2 a3 j36 v40), ∀ (c45 : ¬ (v40 = (0 : Int64))), ∀ (c46 : G_56 j36 L (v40) 0 ((j36 0 9)).toNatClampNeg = true), ∀ (c71 : ¬ a3 < 0), ∀ (v78 : Int32), ∀ (j74 : Nat → Nat → Int32), ∀ (e77 : goP j36 a1 a2 a3 j74 v78), ∀ (c79 : ¬ v78 = (a3 + (1 : Int32))), False)
    (p3 : ∀ (c3 : ¬ a1 < 0), ∀ (c14 : a1 < (I 0 9)), ∀ (c16 : ¬ a4 < 0), ∀ (c33 : a4 < (I 0 10)), ∀ (c35 : (0 : Int32) ≤ a2 ∧ a2 ≤ (((1 : Int32) <<< ((I 1 1) &&& 31)) - (1 : Int32))), ∀ (v40 : Int64), ∀ (j36 : Nat → Nat → Int32), ∀ (e39 : csP I L a1 a2 a3 j36 v40), ∀ (c45 : ¬ (v40 = (0 : Int64))), ∀ (c46 : G_56 j36 L (v40) 0 ((j36 0 9)).toNatClampNeg = true), ∀ (c71 : ¬ a3 < 0), ∀ (v78 : Int32), ∀ (j74 : Nat → Nat → Int32), ∀ (e77 : goP j36 a1 a2 a3 j74 v78), ∀ (c79 : v78 = (a3 + (1 : Int32))), ∀ (v84 : Int32), ∀ (e85 : smP (upI j74 85 42 (0 : Int32)) v84), ∀ (c86 : ¬ v84 = (-1 : Int32)), RK (upI (upI j74 85 42 (0 : Int32)) 85 42 (4 : Int32)) L R)
    (p4 : ∀ (c3 : ¬ a1 < 0), ∀ (c14 : a1 < (I 0 9)), ∀ (c16 : ¬ a4 < 0), ∀ (c33 : a4 < (I 0 10)), ∀ (c35 : (0 : Int32) ≤ a2 ∧ a2 ≤ (((1 : Int32) <<< ((I 1 1) &&& 31)) - (1 : Int32))), ∀ (v40 : Int64), ∀ (j36 : Nat → Nat → Int32), ∀ (e39 : csP I L a1 a2 a3 j36 v40), ∀ (c45 : ¬ (v40 = (0 : Int64))), ∀ (c46 : G_56 j36 L (v40) 0 ((j36 0 9)).toNatClampNeg = true), ∀ (c71 : ¬ a3 < 0), ∀ (v78 : Int32), ∀ (j74 : Nat → Nat → Int32), ∀ (e77 : goP j36 a1 a2 a3 j74 v78), ∀ (c79 : v78 = (a3 + (1 : Int32))), ∀ (v84 : Int32), ∀ (e85 : smP (upI j74 85 42 (0 : Int32)) v84), ∀ (c86 : v84 = (-1 : Int32)), ∀ (c89 : ¬ (T_224 (upI j74 85 42 (0 : Int32)) a4 a1 = true)), RK (upI (upI j74 85 42 (0 : Int32)) 85 42 (4 : Int32)) L R)
    (p5 : ∀ (c3 : ¬ a1 < 0), ∀ (c14 : a1 < (I 0 9)), ∀ (c16 : ¬ a4 < 0), ∀ (c33 : a4 < (I 0 10)), ∀ (c35 : (0 : Int32) ≤ a2 ∧ a2 ≤ (((1 : Int32) <<< ((I 1 1) &&& 31)) - (1 : Int32))), ∀ (v40 : Int64), ∀ (j36 : Nat → Nat → Int32), ∀ (e39 : csP I L a1 a2 a3 j36 v40), ∀ (c45 : ¬ (v40 = (0 : Int64))), ∀ (c46 : G_56 j36 L (v40) 0 ((j36 0 9)).toNatClampNeg = true), ∀ (c71 : ¬ a3 < 0), ∀ (v78 : Int32), ∀ (j74 : Nat → Nat → Int32), ∀ (e77 : goP j36 a1 a2 a3 j74 v78), ∀ (c79 : v78 = (a3 + (1 : Int32))), ∀ (v84 : Int32), ∀ (e85 : smP (upI j74 85 42 (0 : Int32)) v84), ∀ (c86 : v84 = (-1 : Int32)), ∀ (c89 : T_224 (upI j74 85 42 (0 : Int32)) a4 a1 = true), ∀ (bb92 : sIn a4 10 = true), ∀ (c94 : ((j74 85 43) &&& (j74 97 ((a4).toNatClampNeg))) = 0), ∀ (c95 : ¬ (j74 85 35) = (16 : Int32)), ∀ (bb98 : sIn a1 16 = true), ∀ (v107 : Int32), ∀ (j103 : Nat → Nat → Int32), ∀ (e106 : adP (upI (upI (upI j74 85 42 (0 : Int32)) 85 42 (0 : Int32)) 88 ((a1).toNatClampNeg) ((j74 88 ((a1).toNatClampNeg)) ||| ((1 : Int32) <<< (a4 &&& 31)))) ((1 : Int32) <<< (a4 &&& 31)) j103 v107), j103 85 42 = (4 : Int32) ∧ RK j103 L R)
    (p6 : ∀ (c3 : ¬ a1 < 0), ∀ (c14 : a1 < (I 0 9)), ∀ (c16 : ¬ a4 < 0), ∀ (c33 : a4 < (I 0 10)), ∀ (c35 : (0 : Int32) ≤ a2 ∧ a2 ≤ (((1 : Int32) <<< ((I 1 1) &&& 31)) - (1 : Int32))), ∀ (v40 : Int64), ∀ (j36 : Nat → Nat → Int32), ∀ (e39 : csP I L a1 a2 a3 j36 v40), ∀ (c45 : ¬ (v40 = (0 : Int64))), ∀ (c46 : G_56 j36 L (v40) 0 ((j36 0 9)).toNatClampNeg = true), ∀ (c71 : ¬ a3 < 0), ∀ (v78 : Int32), ∀ (j74 : Nat → Nat → Int32), ∀ (e77 : goP j36 a1 a2 a3 j74 v78), ∀ (c79 : v78 = (a3 + (1 : Int32))), ∀ (v84 : Int32), ∀ (e85 : smP (upI j74 85 42 (0 : Int32)) v84), ∀ (c86 : v84 = (-1 : Int32)), ∀ (c89 : T_224 (upI j74 85 42 (0 : Int32)) a4 a1 = true), ∀ (bb92 : sIn a4 10 = true), ∀ (c94 : ((j74 85 43) &&& (j74 97 ((a4).toNatClampNeg))) = 0), ∀ (c95 : (j74 85 35) = (16 : Int32)), False)
    (p7 : ∀ (c3 : ¬ a1 < 0), ∀ (c14 : a1 < (I 0 9)), ∀ (c16 : ¬ a4 < 0), ∀ (c33 : a4 < (I 0 10)), ∀ (c35 : (0 : Int32) ≤ a2 ∧ a2 ≤ (((1 : Int32) <<< ((I 1 1) &&& 31)) - (1 : Int32))), ∀ (v40 : Int64), ∀ (j36 : Nat → Nat → Int32), ∀ (e39 : csP I L a1 a2 a3 j36 v40), ∀ (c45 : ¬ (v40 = (0 : Int64))), ∀ (c46 : G_56 j36 L (v40) 0 ((j36 0 9)).toNatClampNeg = true), ∀ (c71 : ¬ a3 < 0), ∀ (v78 : Int32), ∀ (j74 : Nat → Nat → Int32), ∀ (e77 : goP j36 a1 a2 a3 j74 v78), ∀ (c79 : v78 = (a3 + (1 : Int32))), ∀ (v84 : Int32), ∀ (e85 : smP (upI j74 85 42 (0 : Int32)) v84), ∀ (c86 : v84 = (-1 : Int32)), ∀ (c89 : T_224 (upI j74 85 42 (0 : Int32)) a4 a1 = true), ∀ (bb92 : sIn a4 10 = true), ∀ (c94 : ¬ ((j74 85 43) &&& (j74 97 ((a4).toNatClampNeg))) = 0), RK (upI (upI j74 85 42 (0 : Int32)) 85 42 (4 : Int32)) L R)
    (p8 : ∀ (c3 : ¬ a1 < 0), ∀ (c14 : a1 < (I 0 9)), ∀ (c16 : ¬ a4 < 0), ∀ (c33 : a4 < (I 0 10)), ∀ (c35 : (0 : Int32) ≤ a2 ∧ a2 ≤ (((1 : Int32) <<< ((I 1 1) &&& 31)) - (1 : Int32))), ∀ (v40 : Int64), ∀ (j36 : Nat → Nat → Int32), ∀ (e39 : csP I L a1 a2 a3 j36 v40), ∀ (c45 : ¬ (v40 = (0 : Int64))), ∀ (c46 : ¬ (G_56 j36 L (v40) 0 ((j36 0 9)).toNatClampNeg = true)), ∀ (bb112 : sIn a4 10 = true), ∀ (d113 : 35 ≤ R (a4).toNatClampNeg), ∀ (d114 : R (a4).toNatClampNeg ≤ 44), ∀ (c115 : ¬ (T_28 j36 (R (a4).toNatClampNeg) a1 = true)), ∀ (c140 : a3 < 0), False)
    (p9 : ∀ (c3 : ¬ a1 < 0), ∀ (c14 : a1 < (I 0 9)), ∀ (c16 : ¬ a4 < 0), ∀ (c33 : a4 < (I 0 10)), ∀ (c35 : (0 : Int32) ≤ a2 ∧ a2 ≤ (((1 : Int32) <<< ((I 1 1) &&& 31)) - (1 : Int32))), ∀ (v40 : Int64), ∀ (j36 : Nat → Nat → Int32), ∀ (e39 : csP I L a1 a2 a3 j36 v40), ∀ (c45 : ¬ (v40 = (0 : Int64))), ∀ (c46 : ¬ (G_56 j36 L (v40) 0 ((j36 0 9)).toNatClampNeg = true)), ∀ (bb112 : sIn a4 10 = true), ∀ (d113 : 35 ≤ R (a4).toNatClampNeg), ∀ (d114 : R (a4).toNatClampNeg ≤ 44), ∀ (c115 : ¬ (T_28 j36 (R (a4).toNatClampNeg) a1 = true)), ∀ (c140 : ¬ a3 < 0), ∀ (v147 : Int32), ∀ (j143 : Nat → Nat → Int32), ∀ (e146 : goP j36 a1 a2 a3 j143 v147), ∀ (c148 : ¬ v147 = (a3 + (1 : Int32))), False)
    (p10 : ∀ (c3 : ¬ a1 < 0), ∀ (c14 : a1 < (I 0 9)), ∀ (c16 : ¬ a4 < 0), ∀ (c33 : a4 < (I 0 10)), ∀ (c35 : (0 : Int32) ≤ a2 ∧ a2 ≤ (((1 : Int32) <<< ((I 1 1) &&& 31)) - (1 : Int32))), ∀ (v40 : Int64), ∀ (j36 : Nat → Nat → Int32), ∀ (e39 : csP I L a1 a2 a3 j36 v40), ∀ (c45 : ¬ (v40 = (0 : Int64))), ∀ (c46 : ¬ (G_56 j36 L (v40) 0 ((j36 0 9)).toNatClampNeg = true)), ∀ (bb112 : sIn a4 10 = true), ∀ (d113 : 35 ≤ R (a4).toNatClampNeg), ∀ (d114 : R (a4).toNatClampNeg ≤ 44), ∀ (c115 : ¬ (T_28 j36 (R (a4).toNatClampNeg) a1 = true)), ∀ (c140 : ¬ a3 < 0), ∀ (v147 : Int32), ∀ (j143 : Nat → Nat → Int32), ∀ (e146 : goP j36 a1 a2 a3 j143 v147), ∀ (c148 : v147 = (a3 + (1 : Int32))), ∀ (v153 : Int32), ∀ (e154 : smP (upI j143 85 42 (0 : Int32)) v153), ∀ (c155 : ¬ v153 = (-1 : Int32)), RK (upI (upI j143 85 42 (0 : Int32)) 85 42 (4 : Int32)) L R)
    (p11 : ∀ (c3 : ¬ a1 < 0), ∀ (c14 : a1 < (I 0 9)), ∀ (c16 : ¬ a4 < 0), ∀ (c33 : a4 < (I 0 10)), ∀ (c35 : (0 : Int32) ≤ a2 ∧ a2 ≤ (((1 : Int32) <<< ((I 1 1) &&& 31)) - (1 : Int32))), ∀ (v40 : Int64), ∀ (j36 : Nat → Nat → Int32), ∀ (e39 : csP I L a1 a2 a3 j36 v40), ∀ (c45 : ¬ (v40 = (0 : Int64))), ∀ (c46 : ¬ (G_56 j36 L (v40) 0 ((j36 0 9)).toNatClampNeg = true)), ∀ (bb112 : sIn a4 10 = true), ∀ (d113 : 35 ≤ R (a4).toNatClampNeg), ∀ (d114 : R (a4).toNatClampNeg ≤ 44), ∀ (c115 : ¬ (T_28 j36 (R (a4).toNatClampNeg) a1 = true)), ∀ (c140 : ¬ a3 < 0), ∀ (v147 : Int32), ∀ (j143 : Nat → Nat → Int32), ∀ (e146 : goP j36 a1 a2 a3 j143 v147), ∀ (c148 : v147 = (a3 + (1 : Int32))), ∀ (v153 : Int32), ∀ (e154 : smP (upI j143 85 42 (0 : Int32)) v153), ∀ (c155 : v153 = (-1 : Int32)), ∀ (c158 : ¬ (T_224 (upI j143 85 42 (0 : Int32)) a4 a1 = true)), RK (upI (upI j143 85 42 (0 : Int32)) 85 42 (4 : Int32)) L R)
    (p12 : ∀ (c3 : ¬ a1 < 0), ∀ (c14 : a1 < (I 0 9)), ∀ (c16 : ¬ a4 < 0), ∀ (c33 : a4 < (I 0 10)), ∀ (c35 : (0 : Int32) ≤ a2 ∧ a2 ≤ (((1 : Int32) <<< ((I 1 1) &&& 31)) - (1 : Int32))), ∀ (v40 : Int64), ∀ (j36 : Nat → Nat → Int32), ∀ (e39 : csP I L a1 a2 a3 j36 v40), ∀ (c45 : ¬ (v40 = (0 : Int64))), ∀ (c46 : ¬ (G_56 j36 L (v40) 0 ((j36 0 9)).toNatClampNeg = true)), ∀ (bb112 : sIn a4 10 = true), ∀ (d113 : 35 ≤ R (a4).toNatClampNeg), ∀ (d114 : R (a4).toNatClampNeg ≤ 44), ∀ (c115 : ¬ (T_28 j36 (R (a4).toNatClampNeg) a1 = true)), ∀ (c140 : ¬ a3 < 0), ∀ (v147 : Int32), ∀ (j143 : Nat → Nat → Int32), ∀ (e146 : goP j36 a1 a2 a3 j143 v147), ∀ (c148 : v147 = (a3 + (1 : Int32))), ∀ (v153 : Int32), ∀ (e154 : smP (upI j143 85 42 (0 : Int32)) v153), ∀ (c155 : v153 = (-1 : Int32)), ∀ (c158 : T_224 (upI j143 85 42 (0 : Int32)) a4 a1 = true), ∀ (c163 : ((j143 85 43) &&& (j143 97 ((a4).toNatClampNeg))) = 0), ∀ (c164 : ¬ (j143 85 35) = (16 : Int32)), ∀ (bb167 : sIn a1 16 = true), ∀ (v176 : Int32), ∀ (j172 : Nat → Nat → Int32), ∀ (e175 : adP (upI (upI (upI j143 85 42 (0 : Int32)) 85 42 (0 : Int32)) 88 ((a1).toNatClampNeg) ((j143 88 ((a1).toNatClampNeg)) ||| ((1 : Int32) <<< (a4 &&& 31)))) ((1 : Int32) <<< (a4 &&& 31)) j172 v176), j172 85 42 = (4 : Int32) ∧ RK j172 L R)
    (p13 : ∀ (c3 : ¬ a1 < 0), ∀ (c14 : a1 < (I 0 9)), ∀ (c16 : ¬ a4 < 0), ∀ (c33 : a4 < (I 0 10)), ∀ (c35 : (0 : Int32) ≤ a2 ∧ a2 ≤ (((1 : Int32) <<< ((I 1 1) &&& 31)) - (1 : Int32))), ∀ (v40 : Int64), ∀ (j36 : Nat → Nat → Int32), ∀ (e39 : csP I L a1 a2 a3 j36 v40), ∀ (c45 : ¬ (v40 = (0 : Int64))), ∀ (c46 : ¬ (G_56 j36 L (v40) 0 ((j36 0 9)).toNatClampNeg = true)), ∀ (bb112 : sIn a4 10 = true), ∀ (d113 : 35 ≤ R (a4).toNatClampNeg), ∀ (d114 : R (a4).toNatClampNeg ≤ 44), ∀ (c115 : ¬ (T_28 j36 (R (a4).toNatClampNeg) a1 = true)), ∀ (c140 : ¬ a3 < 0), ∀ (v147 : Int32), ∀ (j143 : Nat → Nat → Int32), ∀ (e146 : goP j36 a1 a2 a3 j143 v147), ∀ (c148 : v147 = (a3 + (1 : Int32))), ∀ (v153 : Int32), ∀ (e154 : smP (upI j143 85 42 (0 : Int32)) v153), ∀ (c155 : v153 = (-1 : Int32)), ∀ (c158 : T_224 (upI j143 85 42 (0 : Int32)) a4 a1 = true), ∀ (c163 : ((j143 85 43) &&& (j143 97 ((a4).toNatClampNeg))) = 0), ∀ (c164 : (j143 85 35) = (16 : Int32)), False)
    (p14 : ∀ (c3 : ¬ a1 < 0), ∀ (c14 : a1 < (I 0 9)), ∀ (c16 : ¬ a4 < 0), ∀ (c33 : a4 < (I 0 10)), ∀ (c35 : (0 : Int32) ≤ a2 ∧ a2 ≤ (((1 : Int32) <<< ((I 1 1) &&& 31)) - (1 : Int32))), ∀ (v40 : Int64), ∀ (j36 : Nat → Nat → Int32), ∀ (e39 : csP I L a1 a2 a3 j36 v40), ∀ (c45 : ¬ (v40 = (0 : Int64))), ∀ (c46 : ¬ (G_56 j36 L (v40) 0 ((j36 0 9)).toNatClampNeg = true)), ∀ (bb112 : sIn a4 10 = true), ∀ (d113 : 35 ≤ R (a4).toNatClampNeg), ∀ (d114 : R (a4).toNatClampNeg ≤ 44), ∀ (c115 : ¬ (T_28 j36 (R (a4).toNatClampNeg) a1 = true)), ∀ (c140 : ¬ a3 < 0), ∀ (v147 : Int32), ∀ (j143 : Nat → Nat → Int32), ∀ (e146 : goP j36 a1 a2 a3 j143 v147), ∀ (c148 : v147 = (a3 + (1 : Int32))), ∀ (v153 : Int32), ∀ (e154 : smP (upI j143 85 42 (0 : Int32)) v153), ∀ (c155 : v153 = (-1 : Int32)), ∀ (c158 : T_224 (upI j143 85 42 (0 : Int32)) a4 a1 = true), ∀ (c163 : ¬ ((j143 85 43) &&& (j143 97 ((a4).toNatClampNeg))) = 0), RK (upI (upI j143 85 42 (0 : Int32)) 85 42 (4 : Int32)) L R)
    (p15 : ∀ (c3 : ¬ a1 < 0), ∀ (c14 : a1 < (I 0 9)), ∀ (c16 : ¬ a4 < 0), ∀ (c33 : a4 < (I 0 10)), ∀ (c35 : (0 : Int32) ≤ a2 ∧ a2 ≤ (((1 : Int32) <<< ((I 1 1) &&& 31)) - (1 : Int32))), ∀ (v40 : Int64), ∀ (j36 : Nat → Nat → Int32), ∀ (e39 : csP I L a1 a2 a3 j36 v40), ∀ (c45 : ¬ (v40 = (0 : Int64))), ∀ (c46 : ¬ (G_56 j36 L (v40) 0 ((j36 0 9)).toNatClampNeg = true)), ∀ (bb112 : sIn a4 10 = true), ∀ (d113 : 35 ≤ R (a4).toNatClampNeg), ∀ (d114 : R (a4).toNatClampNeg ≤ 44), ∀ (c115 : T_28 j36 (R (a4).toNatClampNeg) a1 = true), ∀ (c184 : ¬ (((j36 1 4) &&& (j36 (R (a4).toNatClampNeg) 0)) = 0)), ∀ (c209 : a3 < 0), False)
    (p16 : ∀ (c3 : ¬ a1 < 0), ∀ (c14 : a1 < (I 0 9)), ∀ (c16 : ¬ a4 < 0), ∀ (c33 : a4 < (I 0 10)), ∀ (c35 : (0 : Int32) ≤ a2 ∧ a2 ≤ (((1 : Int32) <<< ((I 1 1) &&& 31)) - (1 : Int32))), ∀ (v40 : Int64), ∀ (j36 : Nat → Nat → Int32), ∀ (e39 : csP I L a1 a2 a3 j36 v40), ∀ (c45 : ¬ (v40 = (0 : Int64))), ∀ (c46 : ¬ (G_56 j36 L (v40) 0 ((j36 0 9)).toNatClampNeg = true)), ∀ (bb112 : sIn a4 10 = true), ∀ (d113 : 35 ≤ R (a4).toNatClampNeg), ∀ (d114 : R (a4).toNatClampNeg ≤ 44), ∀ (c115 : T_28 j36 (R (a4).toNatClampNeg) a1 = true), ∀ (c184 : ¬ (((j36 1 4) &&& (j36 (R (a4).toNatClampNeg) 0)) = 0)), ∀ (c209 : ¬ a3 < 0), ∀ (v216 : Int32), ∀ (j212 : Nat → Nat → Int32), ∀ (e215 : goP j36 a1 a2 a3 j212 v216), ∀ (c217 : ¬ v216 = (a3 + (1 : Int32))), False)
    (p17 : ∀ (c3 : ¬ a1 < 0), ∀ (c14 : a1 < (I 0 9)), ∀ (c16 : ¬ a4 < 0), ∀ (c33 : a4 < (I 0 10)), ∀ (c35 : (0 : Int32) ≤ a2 ∧ a2 ≤ (((1 : Int32) <<< ((I 1 1) &&& 31)) - (1 : Int32))), ∀ (v40 : Int64), ∀ (j36 : Nat → Nat → Int32), ∀ (e39 : csP I L a1 a2 a3 j36 v40), ∀ (c45 : ¬ (v40 = (0 : Int64))), ∀ (c46 : ¬ (G_56 j36 L (v40) 0 ((j36 0 9)).toNatClampNeg = true)), ∀ (bb112 : sIn a4 10 = true), ∀ (d113 : 35 ≤ R (a4).toNatClampNeg), ∀ (d114 : R (a4).toNatClampNeg ≤ 44), ∀ (c115 : T_28 j36 (R (a4).toNatClampNeg) a1 = true), ∀ (c184 : ¬ (((j36 1 4) &&& (j36 (R (a4).toNatClampNeg) 0)) = 0)), ∀ (c209 : ¬ a3 < 0), ∀ (v216 : Int32), ∀ (j212 : Nat → Nat → Int32), ∀ (e215 : goP j36 a1 a2 a3 j212 v216), ∀ (c217 : v216 = (a3 + (1 : Int32))), ∀ (v222 : Int32), ∀ (e223 : smP (upI j212 85 42 (0 : Int32)) v222), ∀ (c224 : ¬ v222 = (-1 : Int32)), RK (upI (upI j212 85 42 (0 : Int32)) 85 42 (4 : Int32)) L R)
    (p18 : ∀ (c3 : ¬ a1 < 0), ∀ (c14 : a1 < (I 0 9)), ∀ (c16 : ¬ a4 < 0), ∀ (c33 : a4 < (I 0 10)), ∀ (c35 : (0 : Int32) ≤ a2 ∧ a2 ≤ (((1 : Int32) <<< ((I 1 1) &&& 31)) - (1 : Int32))), ∀ (v40 : Int64), ∀ (j36 : Nat → Nat → Int32), ∀ (e39 : csP I L a1 a2 a3 j36 v40), ∀ (c45 : ¬ (v40 = (0 : Int64))), ∀ (c46 : ¬ (G_56 j36 L (v40) 0 ((j36 0 9)).toNatClampNeg = true)), ∀ (bb112 : sIn a4 10 = true), ∀ (d113 : 35 ≤ R (a4).toNatClampNeg), ∀ (d114 : R (a4).toNatClampNeg ≤ 44), ∀ (c115 : T_28 j36 (R (a4).toNatClampNeg) a1 = true), ∀ (c184 : ¬ (((j36 1 4) &&& (j36 (R (a4).toNatClampNeg) 0)) = 0)), ∀ (c209 : ¬ a3 < 0), ∀ (v216 : Int32), ∀ (j212 : Nat → Nat → Int32), ∀ (e215 : goP j36 a1 a2 a3 j212 v216), ∀ (c217 : v216 = (a3 + (1 : Int32))), ∀ (v222 : Int32), ∀ (e223 : smP (upI j212 85 42 (0 : Int32)) v222), ∀ (c224 : v222 = (-1 : Int32)), ∀ (c227 : ¬ (T_224 (upI j212 85 42 (0 : Int32)) a4 a1 = true)), RK (upI (upI j212 85 42 (0 : Int32)) 85 42 (4 : Int32)) L R)
    (p19 : ∀ (c3 : ¬ a1 < 0), ∀ (c14 : a1 < (I 0 9)), ∀ (c16 : ¬ a4 < 0), ∀ (c33 : a4 < (I 0 10)), ∀ (c35 : (0 : Int32) ≤ a2 ∧ a2 ≤ (((1 : Int32) <<< ((I 1 1) &&& 31)) - (1 : Int32))), ∀ (v40 : Int64), ∀ (j36 : Nat → Nat → Int32), ∀ (e39 : csP I L a1 a2 a3 j36 v40), ∀ (c45 : ¬ (v40 = (0 : Int64))), ∀ (c46 : ¬ (G_56 j36 L (v40) 0 ((j36 0 9)).toNatClampNeg = true)), ∀ (bb112 : sIn a4 10 = true), ∀ (d113 : 35 ≤ R (a4).toNatClampNeg), ∀ (d114 : R (a4).toNatClampNeg ≤ 44), ∀ (c115 : T_28 j36 (R (a4).toNatClampNeg) a1 = true), ∀ (c184 : ¬ (((j36 1 4) &&& (j36 (R (a4).toNatClampNeg) 0)) = 0)), ∀ (c209 : ¬ a3 < 0), ∀ (v216 : Int32), ∀ (j212 : Nat → Nat → Int32), ∀ (e215 : goP j36 a1 a2 a3 j212 v216), ∀ (c217 : v216 = (a3 + (1 : Int32))), ∀ (v222 : Int32), ∀ (e223 : smP (upI j212 85 42 (0 : Int32)) v222), ∀ (c224 : v222 = (-1 : Int32)), ∀ (c227 : T_224 (upI j212 85 42 (0 : Int32)) a4 a1 = true), ∀ (c232 : ((j212 85 43) &&& (j212 97 ((a4).toNatClampNeg))) = 0), ∀ (c233 : ¬ (j212 85 35) = (16 : Int32)), ∀ (bb236 : sIn a1 16 = true), ∀ (v245 : Int32), ∀ (j241 : Nat → Nat → Int32), ∀ (e244 : adP (upI (upI (upI j212 85 42 (0 : Int32)) 85 42 (0 : Int32)) 88 ((a1).toNatClampNeg) ((j212 88 ((a1).toNatClampNeg)) ||| ((1 : Int32) <<< (a4 &&& 31)))) ((1 : Int32) <<< (a4 &&& 31)) j241 v245), j241 85 42 = (4 : Int32) ∧ RK j241 L R)
    (p20 : ∀ (c3 : ¬ a1 < 0), ∀ (c14 : a1 < (I 0 9)), ∀ (c16 : ¬ a4 < 0), ∀ (c33 : a4 < (I 0 10)), ∀ (c35 : (0 : Int32) ≤ a2 ∧ a2 ≤ (((1 : Int32) <<< ((I 1 1) &&& 31)) - (1 : Int32))), ∀ (v40 : Int64), ∀ (j36 : Nat → Nat → Int32), ∀ (e39 : csP I L a1 a2 a3 j36 v40), ∀ (c45 : ¬ (v40 = (0 : Int64))), ∀ (c46 : ¬ (G_56 j36 L (v40) 0 ((j36 0 9)).toNatClampNeg = true)), ∀ (bb112 : sIn a4 10 = true), ∀ (d113 : 35 ≤ R (a4).toNatClampNeg), ∀ (d114 : R (a4).toNatClampNeg ≤ 44), ∀ (c115 : T_28 j36 (R (a4).toNatClampNeg) a1 = true), ∀ (c184 : ¬ (((j36 1 4) &&& (j36 (R (a4).toNatClampNeg) 0)) = 0)), ∀ (c209 : ¬ a3 < 0), ∀ (v216 : Int32), ∀ (j212 : Nat → Nat → Int32), ∀ (e215 : goP j36 a1 a2 a3 j212 v216), ∀ (c217 : v216 = (a3 + (1 : Int32))), ∀ (v222 : Int32), ∀ (e223 : smP (upI j212 85 42 (0 : Int32)) v222), ∀ (c224 : v222 = (-1 : Int32)), ∀ (c227 : T_224 (upI j212 85 42 (0 : Int32)) a4 a1 = true), ∀ (c232 : ((j212 85 43) &&& (j212 97 ((a4).toNatClampNeg))) = 0), ∀ (c233 : (j212 85 35) = (16 : Int32)), False)
    (p21 : ∀ (c3 : ¬ a1 < 0), ∀ (c14 : a1 < (I 0 9)), ∀ (c16 : ¬ a4 < 0), ∀ (c33 : a4 < (I 0 10)), ∀ (c35 : (0 : Int32) ≤ a2 ∧ a2 ≤ (((1 : Int32) <<< ((I 1 1) &&& 31)) - (1 : Int32))), ∀ (v40 : Int64), ∀ (j36 : Nat → Nat → Int32), ∀ (e39 : csP I L a1 a2 a3 j36 v40), ∀ (c45 : ¬ (v40 = (0 : Int64))), ∀ (c46 : ¬ (G_56 j36 L (v40) 0 ((j36 0 9)).toNatClampNeg = true)), ∀ (bb112 : sIn a4 10 = true), ∀ (d113 : 35 ≤ R (a4).toNatClampNeg), ∀ (d114 : R (a4).toNatClampNeg ≤ 44), ∀ (c115 : T_28 j36 (R (a4).toNatClampNeg) a1 = true), ∀ (c184 : ¬ (((j36 1 4) &&& (j36 (R (a4).toNatClampNeg) 0)) = 0)), ∀ (c209 : ¬ a3 < 0), ∀ (v216 : Int32), ∀ (j212 : Nat → Nat → Int32), ∀ (e215 : goP j36 a1 a2 a3 j212 v216), ∀ (c217 : v216 = (a3 + (1 : Int32))), ∀ (v222 : Int32), ∀ (e223 : smP (upI j212 85 42 (0 : Int32)) v222), ∀ (c224 : v222 = (-1 : Int32)), ∀ (c227 : T_224 (upI j212 85 42 (0 : Int32)) a4 a1 = true), ∀ (c232 : ¬ ((j212 85 43) &&& (j212 97 ((a4).toNatClampNeg))) = 0), RK (upI (upI j212 85 42 (0 : Int32)) 85 42 (4 : Int32)) L R)
    (p22 : ∀ (c3 : ¬ a1 < 0), ∀ (c14 : a1 < (I 0 9)), ∀ (c16 : ¬ a4 < 0), ∀ (c33 : a4 < (I 0 10)), ∀ (c35 : (0 : Int32) ≤ a2 ∧ a2 ≤ (((1 : Int32) <<< ((I 1 1) &&& 31)) - (1 : Int32))), ∀ (v40 : Int64), ∀ (j36 : Nat → Nat → Int32), ∀ (e39 : csP I L a1 a2 a3 j36 v40), ∀ (c45 : ¬ (v40 = (0 : Int64))), ∀ (c46 : ¬ (G_56 j36 L (v40) 0 ((j36 0 9)).toNatClampNeg = true)), ∀ (bb112 : sIn a4 10 = true), ∀ (d113 : 35 ≤ R (a4).toNatClampNeg), ∀ (d114 : R (a4).toNatClampNeg ≤ 44), ∀ (c115 : T_28 j36 (R (a4).toNatClampNeg) a1 = true), ∀ (c184 : ((j36 1 4) &&& (j36 (R (a4).toNatClampNeg) 0)) = 0), ∀ (c253 : (j36 0 9) < (16 : Int32)), ∀ (bb266 : sIn (j36 0 9) 16 = true), ∀ (j279 : Nat → Nat → Int32), ∀ (e282 : wsP (upI (upI (upI (upI j36 (R (a4).toNatClampNeg) 1 (xW (j36 (R (a4).toNatClampNeg) 1) a1 (1 : Int32))) (19 + (j36 0 9).toNatClampNeg) 1 (j36 1 4)) (19 + (j36 0 9).toNatClampNeg) 3 ((1 : Int32) <<< ((j36 0 9) &&& 31))) 0 9 ((j36 0 9) + (1 : Int32))) R ((1 : Int32) <<< (a4 &&& 31)) (j36 0 9) (1 : Int32) j279), ∀ (bb283 : sIn (0 : Int32) 1 = true), ∀ (c290 : ¬ ((0 : Int32) ≤ a1 ∧ a1 ≤ ((j279 85 35) - (1 : Int32)))), False)
    (p23 : ∀ (c3 : ¬ a1 < 0), ∀ (c14 : a1 < (I 0 9)), ∀ (c16 : ¬ a4 < 0), ∀ (c33 : a4 < (I 0 10)), ∀ (c35 : (0 : Int32) ≤ a2 ∧ a2 ≤ (((1 : Int32) <<< ((I 1 1) &&& 31)) - (1 : Int32))), ∀ (v40 : Int64), ∀ (j36 : Nat → Nat → Int32), ∀ (e39 : csP I L a1 a2 a3 j36 v40), ∀ (c45 : ¬ (v40 = (0 : Int64))), ∀ (c46 : ¬ (G_56 j36 L (v40) 0 ((j36 0 9)).toNatClampNeg = true)), ∀ (bb112 : sIn a4 10 = true), ∀ (d113 : 35 ≤ R (a4).toNatClampNeg), ∀ (d114 : R (a4).toNatClampNeg ≤ 44), ∀ (c115 : T_28 j36 (R (a4).toNatClampNeg) a1 = true), ∀ (c184 : ((j36 1 4) &&& (j36 (R (a4).toNatClampNeg) 0)) = 0), ∀ (c253 : (j36 0 9) < (16 : Int32)), ∀ (bb266 : sIn (j36 0 9) 16 = true), ∀ (j279 : Nat → Nat → Int32), ∀ (e282 : wsP (upI (upI (upI (upI j36 (R (a4).toNatClampNeg) 1 (xW (j36 (R (a4).toNatClampNeg) 1) a1 (1 : Int32))) (19 + (j36 0 9).toNatClampNeg) 1 (j36 1 4)) (19 + (j36 0 9).toNatClampNeg) 3 ((1 : Int32) <<< ((j36 0 9) &&& 31))) 0 9 ((j36 0 9) + (1 : Int32))) R ((1 : Int32) <<< (a4 &&& 31)) (j36 0 9) (1 : Int32) j279), ∀ (bb283 : sIn (0 : Int32) 1 = true), ∀ (c290 : (0 : Int32) ≤ a1 ∧ a1 ≤ ((j279 85 35) - (1 : Int32))), ∀ (c294 : (0 : Int32) ≤ a4 ∧ a4 ≤ ((j279 85 36) - (1 : Int32))), ∀ (c296 : (0 : Int32) ≤ a2 ∧ a2 ≤ (((1 : Int32) <<< ((j279 85 31) &&& 31)) - (1 : Int32))), ∀ (c298 : a3 < 0), False)
    (p24 : ∀ (c3 : ¬ a1 < 0), ∀ (c14 : a1 < (I 0 9)), ∀ (c16 : ¬ a4 < 0), ∀ (c33 : a4 < (I 0 10)), ∀ (c35 : (0 : Int32) ≤ a2 ∧ a2 ≤ (((1 : Int32) <<< ((I 1 1) &&& 31)) - (1 : Int32))), ∀ (v40 : Int64), ∀ (j36 : Nat → Nat → Int32), ∀ (e39 : csP I L a1 a2 a3 j36 v40), ∀ (c45 : ¬ (v40 = (0 : Int64))), ∀ (c46 : ¬ (G_56 j36 L (v40) 0 ((j36 0 9)).toNatClampNeg = true)), ∀ (bb112 : sIn a4 10 = true), ∀ (d113 : 35 ≤ R (a4).toNatClampNeg), ∀ (d114 : R (a4).toNatClampNeg ≤ 44), ∀ (c115 : T_28 j36 (R (a4).toNatClampNeg) a1 = true), ∀ (c184 : ((j36 1 4) &&& (j36 (R (a4).toNatClampNeg) 0)) = 0), ∀ (c253 : (j36 0 9) < (16 : Int32)), ∀ (bb266 : sIn (j36 0 9) 16 = true), ∀ (j279 : Nat → Nat → Int32), ∀ (e282 : wsP (upI (upI (upI (upI j36 (R (a4).toNatClampNeg) 1 (xW (j36 (R (a4).toNatClampNeg) 1) a1 (1 : Int32))) (19 + (j36 0 9).toNatClampNeg) 1 (j36 1 4)) (19 + (j36 0 9).toNatClampNeg) 3 ((1 : Int32) <<< ((j36 0 9) &&& 31))) 0 9 ((j36 0 9) + (1 : Int32))) R ((1 : Int32) <<< (a4 &&& 31)) (j36 0 9) (1 : Int32) j279), ∀ (bb283 : sIn (0 : Int32) 1 = true), ∀ (c290 : (0 : Int32) ≤ a1 ∧ a1 ≤ ((j279 85 35) - (1 : Int32))), ∀ (c294 : (0 : Int32) ≤ a4 ∧ a4 ≤ ((j279 85 36) - (1 : Int32))), ∀ (c296 : (0 : Int32) ≤ a2 ∧ a2 ≤ (((1 : Int32) <<< ((j279 85 31) &&& 31)) - (1 : Int32))), ∀ (c298 : ¬ a3 < 0), ∀ (v305 : Int32), ∀ (j301 : Nat → Nat → Int32), ∀ (e304 : goP j279 a1 a2 a3 j301 v305), ∀ (c306 : ¬ v305 = (a3 + (1 : Int32))), False)
    (p25 : ∀ (c3 : ¬ a1 < 0), ∀ (c14 : a1 < (I 0 9)), ∀ (c16 : ¬ a4 < 0), ∀ (c33 : a4 < (I 0 10)), ∀ (c35 : (0 : Int32) ≤ a2 ∧ a2 ≤ (((1 : Int32) <<< ((I 1 1) &&& 31)) - (1 : Int32))), ∀ (v40 : Int64), ∀ (j36 : Nat → Nat → Int32), ∀ (e39 : csP I L a1 a2 a3 j36 v40), ∀ (c45 : ¬ (v40 = (0 : Int64))), ∀ (c46 : ¬ (G_56 j36 L (v40) 0 ((j36 0 9)).toNatClampNeg = true)), ∀ (bb112 : sIn a4 10 = true), ∀ (d113 : 35 ≤ R (a4).toNatClampNeg), ∀ (d114 : R (a4).toNatClampNeg ≤ 44), ∀ (c115 : T_28 j36 (R (a4).toNatClampNeg) a1 = true), ∀ (c184 : ((j36 1 4) &&& (j36 (R (a4).toNatClampNeg) 0)) = 0), ∀ (c253 : (j36 0 9) < (16 : Int32)), ∀ (bb266 : sIn (j36 0 9) 16 = true), ∀ (j279 : Nat → Nat → Int32), ∀ (e282 : wsP (upI (upI (upI (upI j36 (R (a4).toNatClampNeg) 1 (xW (j36 (R (a4).toNatClampNeg) 1) a1 (1 : Int32))) (19 + (j36 0 9).toNatClampNeg) 1 (j36 1 4)) (19 + (j36 0 9).toNatClampNeg) 3 ((1 : Int32) <<< ((j36 0 9) &&& 31))) 0 9 ((j36 0 9) + (1 : Int32))) R ((1 : Int32) <<< (a4 &&& 31)) (j36 0 9) (1 : Int32) j279), ∀ (bb283 : sIn (0 : Int32) 1 = true), ∀ (c290 : (0 : Int32) ≤ a1 ∧ a1 ≤ ((j279 85 35) - (1 : Int32))), ∀ (c294 : (0 : Int32) ≤ a4 ∧ a4 ≤ ((j279 85 36) - (1 : Int32))), ∀ (c296 : (0 : Int32) ≤ a2 ∧ a2 ≤ (((1 : Int32) <<< ((j279 85 31) &&& 31)) - (1 : Int32))), ∀ (c298 : ¬ a3 < 0), ∀ (v305 : Int32), ∀ (j301 : Nat → Nat → Int32), ∀ (e304 : goP j279 a1 a2 a3 j301 v305), ∀ (c306 : v305 = (a3 + (1 : Int32))), ∀ (v311 : Int32), ∀ (e312 : smP (upI j301 85 42 (0 : Int32)) v311), ∀ (c313 : ¬ v311 = (-1 : Int32)), False)
    (p26 : ∀ (c3 : ¬ a1 < 0), ∀ (c14 : a1 < (I 0 9)), ∀ (c16 : ¬ a4 < 0), ∀ (c33 : a4 < (I 0 10)), ∀ (c35 : (0 : Int32) ≤ a2 ∧ a2 ≤ (((1 : Int32) <<< ((I 1 1) &&& 31)) - (1 : Int32))), ∀ (v40 : Int64), ∀ (j36 : Nat → Nat → Int32), ∀ (e39 : csP I L a1 a2 a3 j36 v40), ∀ (c45 : ¬ (v40 = (0 : Int64))), ∀ (c46 : ¬ (G_56 j36 L (v40) 0 ((j36 0 9)).toNatClampNeg = true)), ∀ (bb112 : sIn a4 10 = true), ∀ (d113 : 35 ≤ R (a4).toNatClampNeg), ∀ (d114 : R (a4).toNatClampNeg ≤ 44), ∀ (c115 : T_28 j36 (R (a4).toNatClampNeg) a1 = true), ∀ (c184 : ((j36 1 4) &&& (j36 (R (a4).toNatClampNeg) 0)) = 0), ∀ (c253 : (j36 0 9) < (16 : Int32)), ∀ (bb266 : sIn (j36 0 9) 16 = true), ∀ (j279 : Nat → Nat → Int32), ∀ (e282 : wsP (upI (upI (upI (upI j36 (R (a4).toNatClampNeg) 1 (xW (j36 (R (a4).toNatClampNeg) 1) a1 (1 : Int32))) (19 + (j36 0 9).toNatClampNeg) 1 (j36 1 4)) (19 + (j36 0 9).toNatClampNeg) 3 ((1 : Int32) <<< ((j36 0 9) &&& 31))) 0 9 ((j36 0 9) + (1 : Int32))) R ((1 : Int32) <<< (a4 &&& 31)) (j36 0 9) (1 : Int32) j279), ∀ (bb283 : sIn (0 : Int32) 1 = true), ∀ (c290 : (0 : Int32) ≤ a1 ∧ a1 ≤ ((j279 85 35) - (1 : Int32))), ∀ (c294 : (0 : Int32) ≤ a4 ∧ a4 ≤ ((j279 85 36) - (1 : Int32))), ∀ (c296 : (0 : Int32) ≤ a2 ∧ a2 ≤ (((1 : Int32) <<< ((j279 85 31) &&& 31)) - (1 : Int32))), ∀ (c298 : ¬ a3 < 0), ∀ (v305 : Int32), ∀ (j301 : Nat → Nat → Int32), ∀ (e304 : goP j279 a1 a2 a3 j301 v305), ∀ (c306 : v305 = (a3 + (1 : Int32))), ∀ (v311 : Int32), ∀ (e312 : smP (upI j301 85 42 (0 : Int32)) v311), ∀ (c313 : v311 = (-1 : Int32)), ∀ (c316 : ¬ (T_224 (upI j301 85 42 (0 : Int32)) a4 a1 = true)), False)
    (p27 : ∀ (c3 : ¬ a1 < 0), ∀ (c14 : a1 < (I 0 9)), ∀ (c16 : ¬ a4 < 0), ∀ (c33 : a4 < (I 0 10)), ∀ (c35 : (0 : Int32) ≤ a2 ∧ a2 ≤ (((1 : Int32) <<< ((I 1 1) &&& 31)) - (1 : Int32))), ∀ (v40 : Int64), ∀ (j36 : Nat → Nat → Int32), ∀ (e39 : csP I L a1 a2 a3 j36 v40), ∀ (c45 : ¬ (v40 = (0 : Int64))), ∀ (c46 : ¬ (G_56 j36 L (v40) 0 ((j36 0 9)).toNatClampNeg = true)), ∀ (bb112 : sIn a4 10 = true), ∀ (d113 : 35 ≤ R (a4).toNatClampNeg), ∀ (d114 : R (a4).toNatClampNeg ≤ 44), ∀ (c115 : T_28 j36 (R (a4).toNatClampNeg) a1 = true), ∀ (c184 : ((j36 1 4) &&& (j36 (R (a4).toNatClampNeg) 0)) = 0), ∀ (c253 : (j36 0 9) < (16 : Int32)), ∀ (bb266 : sIn (j36 0 9) 16 = true), ∀ (j279 : Nat → Nat → Int32), ∀ (e282 : wsP (upI (upI (upI (upI j36 (R (a4).toNatClampNeg) 1 (xW (j36 (R (a4).toNatClampNeg) 1) a1 (1 : Int32))) (19 + (j36 0 9).toNatClampNeg) 1 (j36 1 4)) (19 + (j36 0 9).toNatClampNeg) 3 ((1 : Int32) <<< ((j36 0 9) &&& 31))) 0 9 ((j36 0 9) + (1 : Int32))) R ((1 : Int32) <<< (a4 &&& 31)) (j36 0 9) (1 : Int32) j279), ∀ (bb283 : sIn (0 : Int32) 1 = true), ∀ (c290 : (0 : Int32) ≤ a1 ∧ a1 ≤ ((j279 85 35) - (1 : Int32))), ∀ (c294 : (0 : Int32) ≤ a4 ∧ a4 ≤ ((j279 85 36) - (1 : Int32))), ∀ (c296 : (0 : Int32) ≤ a2 ∧ a2 ≤ (((1 : Int32) <<< ((j279 85 31) &&& 31)) - (1 : Int32))), ∀ (c298 : ¬ a3 < 0), ∀ (v305 : Int32), ∀ (j301 : Nat → Nat → Int32), ∀ (e304 : goP j279 a1 a2 a3 j301 v305), ∀ (c306 : v305 = (a3 + (1 : Int32))), ∀ (v311 : Int32), ∀ (e312 : smP (upI j301 85 42 (0 : Int32)) v311), ∀ (c313 : v311 = (-1 : Int32)), ∀ (c316 : T_224 (upI j301 85 42 (0 : Int32)) a4 a1 = true), ∀ (c321 : ((j301 85 43) &&& (j301 97 ((a4).toNatClampNeg))) = 0), ∀ (c322 : ¬ (j301 85 35) = (16 : Int32)), ∀ (bb325 : sIn a1 16 = true), ∀ (v334 : Int32), ∀ (j330 : Nat → Nat → Int32), ∀ (e333 : adP (upI (upI (upI j301 85 42 (0 : Int32)) 85 42 (0 : Int32)) 88 ((a1).toNatClampNeg) ((j301 88 ((a1).toNatClampNeg)) ||| ((1 : Int32) <<< (a4 &&& 31)))) ((1 : Int32) <<< (a4 &&& 31)) j330 v334), j330 85 42 = (0 : Int32) ∧ (upL (upL L (19 + (j36 0 9).toNatClampNeg) 0 v40) 117 (((0 : Int32)).toNatClampNeg) ((j36 0 9).toInt64)) 117 (((0 : Int32)).toNatClampNeg) = v334.toInt64 ∧ RK j330 (upL (upL L (19 + (j36 0 9).toNatClampNeg) 0 v40) 117 (((0 : Int32)).toNatClampNeg) ((j36 0 9).toInt64)) R)
    (p28 : ∀ (c3 : ¬ a1 < 0), ∀ (c14 : a1 < (I 0 9)), ∀ (c16 : ¬ a4 < 0), ∀ (c33 : a4 < (I 0 10)), ∀ (c35 : (0 : Int32) ≤ a2 ∧ a2 ≤ (((1 : Int32) <<< ((I 1 1) &&& 31)) - (1 : Int32))), ∀ (v40 : Int64), ∀ (j36 : Nat → Nat → Int32), ∀ (e39 : csP I L a1 a2 a3 j36 v40), ∀ (c45 : ¬ (v40 = (0 : Int64))), ∀ (c46 : ¬ (G_56 j36 L (v40) 0 ((j36 0 9)).toNatClampNeg = true)), ∀ (bb112 : sIn a4 10 = true), ∀ (d113 : 35 ≤ R (a4).toNatClampNeg), ∀ (d114 : R (a4).toNatClampNeg ≤ 44), ∀ (c115 : T_28 j36 (R (a4).toNatClampNeg) a1 = true), ∀ (c184 : ((j36 1 4) &&& (j36 (R (a4).toNatClampNeg) 0)) = 0), ∀ (c253 : (j36 0 9) < (16 : Int32)), ∀ (bb266 : sIn (j36 0 9) 16 = true), ∀ (j279 : Nat → Nat → Int32), ∀ (e282 : wsP (upI (upI (upI (upI j36 (R (a4).toNatClampNeg) 1 (xW (j36 (R (a4).toNatClampNeg) 1) a1 (1 : Int32))) (19 + (j36 0 9).toNatClampNeg) 1 (j36 1 4)) (19 + (j36 0 9).toNatClampNeg) 3 ((1 : Int32) <<< ((j36 0 9) &&& 31))) 0 9 ((j36 0 9) + (1 : Int32))) R ((1 : Int32) <<< (a4 &&& 31)) (j36 0 9) (1 : Int32) j279), ∀ (bb283 : sIn (0 : Int32) 1 = true), ∀ (c290 : (0 : Int32) ≤ a1 ∧ a1 ≤ ((j279 85 35) - (1 : Int32))), ∀ (c294 : (0 : Int32) ≤ a4 ∧ a4 ≤ ((j279 85 36) - (1 : Int32))), ∀ (c296 : (0 : Int32) ≤ a2 ∧ a2 ≤ (((1 : Int32) <<< ((j279 85 31) &&& 31)) - (1 : Int32))), ∀ (c298 : ¬ a3 < 0), ∀ (v305 : Int32), ∀ (j301 : Nat → Nat → Int32), ∀ (e304 : goP j279 a1 a2 a3 j301 v305), ∀ (c306 : v305 = (a3 + (1 : Int32))), ∀ (v311 : Int32), ∀ (e312 : smP (upI j301 85 42 (0 : Int32)) v311), ∀ (c313 : v311 = (-1 : Int32)), ∀ (c316 : T_224 (upI j301 85 42 (0 : Int32)) a4 a1 = true), ∀ (c321 : ((j301 85 43) &&& (j301 97 ((a4).toNatClampNeg))) = 0), ∀ (c322 : (j301 85 35) = (16 : Int32)), False)
    (p29 : ∀ (c3 : ¬ a1 < 0), ∀ (c14 : a1 < (I 0 9)), ∀ (c16 : ¬ a4 < 0), ∀ (c33 : a4 < (I 0 10)), ∀ (c35 : (0 : Int32) ≤ a2 ∧ a2 ≤ (((1 : Int32) <<< ((I 1 1) &&& 31)) - (1 : Int32))), ∀ (v40 : Int64), ∀ (j36 : Nat → Nat → Int32), ∀ (e39 : csP I L a1 a2 a3 j36 v40), ∀ (c45 : ¬ (v40 = (0 : Int64))), ∀ (c46 : ¬ (G_56 j36 L (v40) 0 ((j36 0 9)).toNatClampNeg = true)), ∀ (bb112 : sIn a4 10 = true), ∀ (d113 : 35 ≤ R (a4).toNatClampNeg), ∀ (d114 : R (a4).toNatClampNeg ≤ 44), ∀ (c115 : T_28 j36 (R (a4).toNatClampNeg) a1 = true), ∀ (c184 : ((j36 1 4) &&& (j36 (R (a4).toNatClampNeg) 0)) = 0), ∀ (c253 : (j36 0 9) < (16 : Int32)), ∀ (bb266 : sIn (j36 0 9) 16 = true), ∀ (j279 : Nat → Nat → Int32), ∀ (e282 : wsP (upI (upI (upI (upI j36 (R (a4).toNatClampNeg) 1 (xW (j36 (R (a4).toNatClampNeg) 1) a1 (1 : Int32))) (19 + (j36 0 9).toNatClampNeg) 1 (j36 1 4)) (19 + (j36 0 9).toNatClampNeg) 3 ((1 : Int32) <<< ((j36 0 9) &&& 31))) 0 9 ((j36 0 9) + (1 : Int32))) R ((1 : Int32) <<< (a4 &&& 31)) (j36 0 9) (1 : Int32) j279), ∀ (bb283 : sIn (0 : Int32) 1 = true), ∀ (c290 : (0 : Int32) ≤ a1 ∧ a1 ≤ ((j279 85 35) - (1 : Int32))), ∀ (c294 : (0 : Int32) ≤ a4 ∧ a4 ≤ ((j279 85 36) - (1 : Int32))), ∀ (c296 : (0 : Int32) ≤ a2 ∧ a2 ≤ (((1 : Int32) <<< ((j279 85 31) &&& 31)) - (1 : Int32))), ∀ (c298 : ¬ a3 < 0), ∀ (v305 : Int32), ∀ (j301 : Nat → Nat → Int32), ∀ (e304 : goP j279 a1 a2 a3 j301 v305), ∀ (c306 : v305 = (a3 + (1 : Int32))), ∀ (v311 : Int32), ∀ (e312 : smP (upI j301 85 42 (0 : Int32)) v311), ∀ (c313 : v311 = (-1 : Int32)), ∀ (c316 : T_224 (upI j301 85 42 (0 : Int32)) a4 a1 = true), ∀ (c321 : ¬ ((j301 85 43) &&& (j301 97 ((a4).toNatClampNeg))) = 0), False)
    (p30 : ∀ (c3 : ¬ a1 < 0), ∀ (c14 : a1 < (I 0 9)), ∀ (c16 : ¬ a4 < 0), ∀ (c33 : a4 < (I 0 10)), ∀ (c35 : (0 : Int32) ≤ a2 ∧ a2 ≤ (((1 : Int32) <<< ((I 1 1) &&& 31)) - (1 : Int32))), ∀ (v40 : Int64), ∀ (j36 : Nat → Nat → Int32), ∀ (e39 : csP I L a1 a2 a3 j36 v40), ∀ (c45 : ¬ (v40 = (0 : Int64))), ∀ (c46 : ¬ (G_56 j36 L (v40) 0 ((j36 0 9)).toNatClampNeg = true)), ∀ (bb112 : sIn a4 10 = true), ∀ (d113 : 35 ≤ R (a4).toNatClampNeg), ∀ (d114 : R (a4).toNatClampNeg ≤ 44), ∀ (c115 : T_28 j36 (R (a4).toNatClampNeg) a1 = true), ∀ (c184 : ((j36 1 4) &&& (j36 (R (a4).toNatClampNeg) 0)) = 0), ∀ (c253 : (j36 0 9) < (16 : Int32)), ∀ (bb266 : sIn (j36 0 9) 16 = true), ∀ (j279 : Nat → Nat → Int32), ∀ (e282 : wsP (upI (upI (upI (upI j36 (R (a4).toNatClampNeg) 1 (xW (j36 (R (a4).toNatClampNeg) 1) a1 (1 : Int32))) (19 + (j36 0 9).toNatClampNeg) 1 (j36 1 4)) (19 + (j36 0 9).toNatClampNeg) 3 ((1 : Int32) <<< ((j36 0 9) &&& 31))) 0 9 ((j36 0 9) + (1 : Int32))) R ((1 : Int32) <<< (a4 &&& 31)) (j36 0 9) (1 : Int32) j279), ∀ (bb283 : sIn (0 : Int32) 1 = true), ∀ (c290 : (0 : Int32) ≤ a1 ∧ a1 ≤ ((j279 85 35) - (1 : Int32))), ∀ (c294 : (0 : Int32) ≤ a4 ∧ a4 ≤ ((j279 85 36) - (1 : Int32))), ∀ (c296 : ¬ ((0 : Int32) ≤ a2 ∧ a2 ≤ (((1 : Int32) <<< ((j279 85 31) &&& 31)) - (1 : Int32)))), False)
    (p31 : ∀ (c3 : ¬ a1 < 0), ∀ (c14 : a1 < (I 0 9)), ∀ (c16 : ¬ a4 < 0), ∀ (c33 : a4 < (I 0 10)), ∀ (c35 : (0 : Int32) ≤ a2 ∧ a2 ≤ (((1 : Int32) <<< ((I 1 1) &&& 31)) - (1 : Int32))), ∀ (v40 : Int64), ∀ (j36 : Nat → Nat → Int32), ∀ (e39 : csP I L a1 a2 a3 j36 v40), ∀ (c45 : ¬ (v40 = (0 : Int64))), ∀ (c46 : ¬ (G_56 j36 L (v40) 0 ((j36 0 9)).toNatClampNeg = true)), ∀ (bb112 : sIn a4 10 = true), ∀ (d113 : 35 ≤ R (a4).toNatClampNeg), ∀ (d114 : R (a4).toNatClampNeg ≤ 44), ∀ (c115 : T_28 j36 (R (a4).toNatClampNeg) a1 = true), ∀ (c184 : ((j36 1 4) &&& (j36 (R (a4).toNatClampNeg) 0)) = 0), ∀ (c253 : (j36 0 9) < (16 : Int32)), ∀ (bb266 : sIn (j36 0 9) 16 = true), ∀ (j279 : Nat → Nat → Int32), ∀ (e282 : wsP (upI (upI (upI (upI j36 (R (a4).toNatClampNeg) 1 (xW (j36 (R (a4).toNatClampNeg) 1) a1 (1 : Int32))) (19 + (j36 0 9).toNatClampNeg) 1 (j36 1 4)) (19 + (j36 0 9).toNatClampNeg) 3 ((1 : Int32) <<< ((j36 0 9) &&& 31))) 0 9 ((j36 0 9) + (1 : Int32))) R ((1 : Int32) <<< (a4 &&& 31)) (j36 0 9) (1 : Int32) j279), ∀ (bb283 : sIn (0 : Int32) 1 = true), ∀ (c290 : (0 : Int32) ≤ a1 ∧ a1 ≤ ((j279 85 35) - (1 : Int32))), ∀ (c294 : ¬ ((0 : Int32) ≤ a4 ∧ a4 ≤ ((j279 85 36) - (1 : Int32)))), False)
    (p32 : ∀ (c3 : ¬ a1 < 0), ∀ (c14 : a1 < (I 0 9)), ∀ (c16 : ¬ a4 < 0), ∀ (c33 : a4 < (I 0 10)), ∀ (c35 : (0 : Int32) ≤ a2 ∧ a2 ≤ (((1 : Int32) <<< ((I 1 1) &&& 31)) - (1 : Int32))), ∀ (v40 : Int64), ∀ (j36 : Nat → Nat → Int32), ∀ (e39 : csP I L a1 a2 a3 j36 v40), ∀ (c45 : ¬ (v40 = (0 : Int64))), ∀ (c46 : ¬ (G_56 j36 L (v40) 0 ((j36 0 9)).toNatClampNeg = true)), ∀ (bb112 : sIn a4 10 = true), ∀ (d113 : 35 ≤ R (a4).toNatClampNeg), ∀ (d114 : R (a4).toNatClampNeg ≤ 44), ∀ (c115 : T_28 j36 (R (a4).toNatClampNeg) a1 = true), ∀ (c184 : ((j36 1 4) &&& (j36 (R (a4).toNatClampNeg) 0)) = 0), ∀ (c253 : ¬ (j36 0 9) < (16 : Int32)), ∀ (c365 : a3 < 0), False)
    (p33 : ∀ (c3 : ¬ a1 < 0), ∀ (c14 : a1 < (I 0 9)), ∀ (c16 : ¬ a4 < 0), ∀ (c33 : a4 < (I 0 10)), ∀ (c35 : (0 : Int32) ≤ a2 ∧ a2 ≤ (((1 : Int32) <<< ((I 1 1) &&& 31)) - (1 : Int32))), ∀ (v40 : Int64), ∀ (j36 : Nat → Nat → Int32), ∀ (e39 : csP I L a1 a2 a3 j36 v40), ∀ (c45 : ¬ (v40 = (0 : Int64))), ∀ (c46 : ¬ (G_56 j36 L (v40) 0 ((j36 0 9)).toNatClampNeg = true)), ∀ (bb112 : sIn a4 10 = true), ∀ (d113 : 35 ≤ R (a4).toNatClampNeg), ∀ (d114 : R (a4).toNatClampNeg ≤ 44), ∀ (c115 : T_28 j36 (R (a4).toNatClampNeg) a1 = true), ∀ (c184 : ((j36 1 4) &&& (j36 (R (a4).toNatClampNeg) 0)) = 0), ∀ (c253 : ¬ (j36 0 9) < (16 : Int32)), ∀ (c365 : ¬ a3 < 0), ∀ (v372 : Int32), ∀ (j368 : Nat → Nat → Int32), ∀ (e371 : goP j36 a1 a2 a3 j368 v372), ∀ (c373 : ¬ v372 = (a3 + (1 : Int32))), False)
    (p34 : ∀ (c3 : ¬ a1 < 0), ∀ (c14 : a1 < (I 0 9)), ∀ (c16 : ¬ a4 < 0), ∀ (c33 : a4 < (I 0 10)), ∀ (c35 : (0 : Int32) ≤ a2 ∧ a2 ≤ (((1 : Int32) <<< ((I 1 1) &&& 31)) - (1 : Int32))), ∀ (v40 : Int64), ∀ (j36 : Nat → Nat → Int32), ∀ (e39 : csP I L a1 a2 a3 j36 v40), ∀ (c45 : ¬ (v40 = (0 : Int64))), ∀ (c46 : ¬ (G_56 j36 L (v40) 0 ((j36 0 9)).toNatClampNeg = true)), ∀ (bb112 : sIn a4 10 = true), ∀ (d113 : 35 ≤ R (a4).toNatClampNeg), ∀ (d114 : R (a4).toNatClampNeg ≤ 44), ∀ (c115 : T_28 j36 (R (a4).toNatClampNeg) a1 = true), ∀ (c184 : ((j36 1 4) &&& (j36 (R (a4).toNatClampNeg) 0)) = 0), ∀ (c253 : ¬ (j36 0 9) < (16 : Int32)), ∀ (c365 : ¬ a3 < 0), ∀ (v372 : Int32), ∀ (j368 : Nat → Nat → Int32), ∀ (e371 : goP j36 a1 a2 a3 j368 v372), ∀ (c373 : v372 = (a3 + (1 : Int32))), ∀ (v378 : Int32), ∀ (e379 : smP (upI j368 85 42 (0 : Int32)) v378), ∀ (c380 : ¬ v378 = (-1 : Int32)), False)
    (p35 : ∀ (c3 : ¬ a1 < 0), ∀ (c14 : a1 < (I 0 9)), ∀ (c16 : ¬ a4 < 0), ∀ (c33 : a4 < (I 0 10)), ∀ (c35 : (0 : Int32) ≤ a2 ∧ a2 ≤ (((1 : Int32) <<< ((I 1 1) &&& 31)) - (1 : Int32))), ∀ (v40 : Int64), ∀ (j36 : Nat → Nat → Int32), ∀ (e39 : csP I L a1 a2 a3 j36 v40), ∀ (c45 : ¬ (v40 = (0 : Int64))), ∀ (c46 : ¬ (G_56 j36 L (v40) 0 ((j36 0 9)).toNatClampNeg = true)), ∀ (bb112 : sIn a4 10 = true), ∀ (d113 : 35 ≤ R (a4).toNatClampNeg), ∀ (d114 : R (a4).toNatClampNeg ≤ 44), ∀ (c115 : T_28 j36 (R (a4).toNatClampNeg) a1 = true), ∀ (c184 : ((j36 1 4) &&& (j36 (R (a4).toNatClampNeg) 0)) = 0), ∀ (c253 : ¬ (j36 0 9) < (16 : Int32)), ∀ (c365 : ¬ a3 < 0), ∀ (v372 : Int32), ∀ (j368 : Nat → Nat → Int32), ∀ (e371 : goP j36 a1 a2 a3 j368 v372), ∀ (c373 : v372 = (a3 + (1 : Int32))), ∀ (v378 : Int32), ∀ (e379 : smP (upI j368 85 42 (0 : Int32)) v378), ∀ (c380 : v378 = (-1 : Int32)), ∀ (c383 : ¬ (T_224 (upI j368 85 42 (0 : Int32)) a4 a1 = true)), False)
    (p36 : ∀ (c3 : ¬ a1 < 0), ∀ (c14 : a1 < (I 0 9)), ∀ (c16 : ¬ a4 < 0), ∀ (c33 : a4 < (I 0 10)), ∀ (c35 : (0 : Int32) ≤ a2 ∧ a2 ≤ (((1 : Int32) <<< ((I 1 1) &&& 31)) - (1 : Int32))), ∀ (v40 : Int64), ∀ (j36 : Nat → Nat → Int32), ∀ (e39 : csP I L a1 a2 a3 j36 v40), ∀ (c45 : ¬ (v40 = (0 : Int64))), ∀ (c46 : ¬ (G_56 j36 L (v40) 0 ((j36 0 9)).toNatClampNeg = true)), ∀ (bb112 : sIn a4 10 = true), ∀ (d113 : 35 ≤ R (a4).toNatClampNeg), ∀ (d114 : R (a4).toNatClampNeg ≤ 44), ∀ (c115 : T_28 j36 (R (a4).toNatClampNeg) a1 = true), ∀ (c184 : ((j36 1 4) &&& (j36 (R (a4).toNatClampNeg) 0)) = 0), ∀ (c253 : ¬ (j36 0 9) < (16 : Int32)), ∀ (c365 : ¬ a3 < 0), ∀ (v372 : Int32), ∀ (j368 : Nat → Nat → Int32), ∀ (e371 : goP j36 a1 a2 a3 j368 v372), ∀ (c373 : v372 = (a3 + (1 : Int32))), ∀ (v378 : Int32), ∀ (e379 : smP (upI j368 85 42 (0 : Int32)) v378), ∀ (c380 : v378 = (-1 : Int32)), ∀ (c383 : T_224 (upI j368 85 42 (0 : Int32)) a4 a1 = true), ∀ (c388 : ((j368 85 43) &&& (j368 97 ((a4).toNatClampNeg))) = 0), ∀ (c389 : ¬ (j368 85 35) = (16 : Int32)), ∀ (bb392 : sIn a1 16 = true), ∀ (v401 : Int32), ∀ (j397 : Nat → Nat → Int32), ∀ (e400 : adP (upI (upI (upI j368 85 42 (0 : Int32)) 85 42 (0 : Int32)) 88 ((a1).toNatClampNeg) ((j368 88 ((a1).toNatClampNeg)) ||| ((1 : Int32) <<< (a4 &&& 31)))) ((1 : Int32) <<< (a4 &&& 31)) j397 v401), j397 85 42 = (5 : Int32) ∧ RK j397 L R)
    (p37 : ∀ (c3 : ¬ a1 < 0), ∀ (c14 : a1 < (I 0 9)), ∀ (c16 : ¬ a4 < 0), ∀ (c33 : a4 < (I 0 10)), ∀ (c35 : (0 : Int32) ≤ a2 ∧ a2 ≤ (((1 : Int32) <<< ((I 1 1) &&& 31)) - (1 : Int32))), ∀ (v40 : Int64), ∀ (j36 : Nat → Nat → Int32), ∀ (e39 : csP I L a1 a2 a3 j36 v40), ∀ (c45 : ¬ (v40 = (0 : Int64))), ∀ (c46 : ¬ (G_56 j36 L (v40) 0 ((j36 0 9)).toNatClampNeg = true)), ∀ (bb112 : sIn a4 10 = true), ∀ (d113 : 35 ≤ R (a4).toNatClampNeg), ∀ (d114 : R (a4).toNatClampNeg ≤ 44), ∀ (c115 : T_28 j36 (R (a4).toNatClampNeg) a1 = true), ∀ (c184 : ((j36 1 4) &&& (j36 (R (a4).toNatClampNeg) 0)) = 0), ∀ (c253 : ¬ (j36 0 9) < (16 : Int32)), ∀ (c365 : ¬ a3 < 0), ∀ (v372 : Int32), ∀ (j368 : Nat → Nat → Int32), ∀ (e371 : goP j36 a1 a2 a3 j368 v372), ∀ (c373 : v372 = (a3 + (1 : Int32))), ∀ (v378 : Int32), ∀ (e379 : smP (upI j368 85 42 (0 : Int32)) v378), ∀ (c380 : v378 = (-1 : Int32)), ∀ (c383 : T_224 (upI j368 85 42 (0 : Int32)) a4 a1 = true), ∀ (c388 : ((j368 85 43) &&& (j368 97 ((a4).toNatClampNeg))) = 0), ∀ (c389 : (j368 85 35) = (16 : Int32)), RK (upI (upI j368 85 42 (0 : Int32)) 85 42 (5 : Int32)) L R)
    (p38 : ∀ (c3 : ¬ a1 < 0), ∀ (c14 : a1 < (I 0 9)), ∀ (c16 : ¬ a4 < 0), ∀ (c33 : a4 < (I 0 10)), ∀ (c35 : (0 : Int32) ≤ a2 ∧ a2 ≤ (((1 : Int32) <<< ((I 1 1) &&& 31)) - (1 : Int32))), ∀ (v40 : Int64), ∀ (j36 : Nat → Nat → Int32), ∀ (e39 : csP I L a1 a2 a3 j36 v40), ∀ (c45 : ¬ (v40 = (0 : Int64))), ∀ (c46 : ¬ (G_56 j36 L (v40) 0 ((j36 0 9)).toNatClampNeg = true)), ∀ (bb112 : sIn a4 10 = true), ∀ (d113 : 35 ≤ R (a4).toNatClampNeg), ∀ (d114 : R (a4).toNatClampNeg ≤ 44), ∀ (c115 : T_28 j36 (R (a4).toNatClampNeg) a1 = true), ∀ (c184 : ((j36 1 4) &&& (j36 (R (a4).toNatClampNeg) 0)) = 0), ∀ (c253 : ¬ (j36 0 9) < (16 : Int32)), ∀ (c365 : ¬ a3 < 0), ∀ (v372 : Int32), ∀ (j368 : Nat → Nat → Int32), ∀ (e371 : goP j36 a1 a2 a3 j368 v372), ∀ (c373 : v372 = (a3 + (1 : Int32))), ∀ (v378 : Int32), ∀ (e379 : smP (upI j368 85 42 (0 : Int32)) v378), ∀ (c380 : v378 = (-1 : Int32)), ∀ (c383 : T_224 (upI j368 85 42 (0 : Int32)) a4 a1 = true), ∀ (c388 : ¬ ((j368 85 43) &&& (j368 97 ((a4).toNatClampNeg))) = 0), False)
    (p39 : ∀ (c3 : ¬ a1 < 0), ∀ (c14 : a1 < (I 0 9)), ∀ (c16 : ¬ a4 < 0), ∀ (c33 : a4 < (I 0 10)), ∀ (c35 : (0 : Int32) ≤ a2 ∧ a2 ≤ (((1 : Int32) <<< ((I 1 1) &&& 31)) - (1 : Int32))), ∀ (v40 : Int64), ∀ (j36 : Nat → Nat → Int32), ∀ (e39 : csP I L a1 a2 a3 j36 v40), ∀ (c45 : v40 = (0 : Int64)), ∀ (c428 : a3 < 0), RK (upI j36 85 42 (3 : Int32)) L R)
    (p40 : ∀ (c3 : ¬ a1 < 0), ∀ (c14 : a1 < (I 0 9)), ∀ (c16 : ¬ a4 < 0), ∀ (c33 : a4 < (I 0 10)), ∀ (c35 : (0 : Int32) ≤ a2 ∧ a2 ≤ (((1 : Int32) <<< ((I 1 1) &&& 31)) - (1 : Int32))), ∀ (v40 : Int64), ∀ (j36 : Nat → Nat → Int32), ∀ (e39 : csP I L a1 a2 a3 j36 v40), ∀ (c45 : v40 = (0 : Int64)), ∀ (c428 : ¬ a3 < 0), ∀ (v435 : Int32), ∀ (j431 : Nat → Nat → Int32), ∀ (e434 : goP j36 a1 a2 a3 j431 v435), ∀ (c436 : ¬ v435 = (a3 + (1 : Int32))), RK (upI j431 85 42 (3 : Int32)) L R)
    (p41 : ∀ (c3 : ¬ a1 < 0), ∀ (c14 : a1 < (I 0 9)), ∀ (c16 : ¬ a4 < 0), ∀ (c33 : a4 < (I 0 10)), ∀ (c35 : (0 : Int32) ≤ a2 ∧ a2 ≤ (((1 : Int32) <<< ((I 1 1) &&& 31)) - (1 : Int32))), ∀ (v40 : Int64), ∀ (j36 : Nat → Nat → Int32), ∀ (e39 : csP I L a1 a2 a3 j36 v40), ∀ (c45 : v40 = (0 : Int64)), ∀ (c428 : ¬ a3 < 0), ∀ (v435 : Int32), ∀ (j431 : Nat → Nat → Int32), ∀ (e434 : goP j36 a1 a2 a3 j431 v435), ∀ (c436 : v435 = (a3 + (1 : Int32))), ∀ (v441 : Int32), ∀ (e442 : smP (upI j431 85 42 (0 : Int32)) v441), ∀ (c443 : ¬ v441 = (-1 : Int32)), False)
    (p42 : ∀ (c3 : ¬ a1 < 0), ∀ (c14 : a1 < (I 0 9)), ∀ (c16 : ¬ a4 < 0), ∀ (c33 : a4 < (I 0 10)), ∀ (c35 : (0 : Int32) ≤ a2 ∧ a2 ≤ (((1 : Int32) <<< ((I 1 1) &&& 31)) - (1 : Int32))), ∀ (v40 : Int64), ∀ (j36 : Nat → Nat → Int32), ∀ (e39 : csP I L a1 a2 a3 j36 v40), ∀ (c45 : v40 = (0 : Int64)), ∀ (c428 : ¬ a3 < 0), ∀ (v435 : Int32), ∀ (j431 : Nat → Nat → Int32), ∀ (e434 : goP j36 a1 a2 a3 j431 v435), ∀ (c436 : v435 = (a3 + (1 : Int32))), ∀ (v441 : Int32), ∀ (e442 : smP (upI j431 85 42 (0 : Int32)) v441), ∀ (c443 : v441 = (-1 : Int32)), ∀ (c446 : ¬ (T_224 (upI j431 85 42 (0 : Int32)) a4 a1 = true)), False)
    (p43 : ∀ (c3 : ¬ a1 < 0), ∀ (c14 : a1 < (I 0 9)), ∀ (c16 : ¬ a4 < 0), ∀ (c33 : a4 < (I 0 10)), ∀ (c35 : (0 : Int32) ≤ a2 ∧ a2 ≤ (((1 : Int32) <<< ((I 1 1) &&& 31)) - (1 : Int32))), ∀ (v40 : Int64), ∀ (j36 : Nat → Nat → Int32), ∀ (e39 : csP I L a1 a2 a3 j36 v40), ∀ (c45 : v40 = (0 : Int64)), ∀ (c428 : ¬ a3 < 0), ∀ (v435 : Int32), ∀ (j431 : Nat → Nat → Int32), ∀ (e434 : goP j36 a1 a2 a3 j431 v435), ∀ (c436 : v435 = (a3 + (1 : Int32))), ∀ (v441 : Int32), ∀ (e442 : smP (upI j431 85 42 (0 : Int32)) v441), ∀ (c443 : v441 = (-1 : Int32)), ∀ (c446 : T_224 (upI j431 85 42 (0 : Int32)) a4 a1 = true), ∀ (bb449 : sIn a4 10 = true), ∀ (c451 : ((j431 85 43) &&& (j431 97 ((a4).toNatClampNeg))) = 0), ∀ (c452 : ¬ (j431 85 35) = (16 : Int32)), ∀ (bb455 : sIn a1 16 = true), ∀ (v464 : Int32), ∀ (j460 : Nat → Nat → Int32), ∀ (e463 : adP (upI (upI (upI j431 85 42 (0 : Int32)) 85 42 (0 : Int32)) 88 ((a1).toNatClampNeg) ((j431 88 ((a1).toNatClampNeg)) ||| ((1 : Int32) <<< (a4 &&& 31)))) ((1 : Int32) <<< (a4 &&& 31)) j460 v464), j460 85 42 = (3 : Int32) ∧ RK j460 L R)
    (p44 : ∀ (c3 : ¬ a1 < 0), ∀ (c14 : a1 < (I 0 9)), ∀ (c16 : ¬ a4 < 0), ∀ (c33 : a4 < (I 0 10)), ∀ (c35 : (0 : Int32) ≤ a2 ∧ a2 ≤ (((1 : Int32) <<< ((I 1 1) &&& 31)) - (1 : Int32))), ∀ (v40 : Int64), ∀ (j36 : Nat → Nat → Int32), ∀ (e39 : csP I L a1 a2 a3 j36 v40), ∀ (c45 : v40 = (0 : Int64)), ∀ (c428 : ¬ a3 < 0), ∀ (v435 : Int32), ∀ (j431 : Nat → Nat → Int32), ∀ (e434 : goP j36 a1 a2 a3 j431 v435), ∀ (c436 : v435 = (a3 + (1 : Int32))), ∀ (v441 : Int32), ∀ (e442 : smP (upI j431 85 42 (0 : Int32)) v441), ∀ (c443 : v441 = (-1 : Int32)), ∀ (c446 : T_224 (upI j431 85 42 (0 : Int32)) a4 a1 = true), ∀ (bb449 : sIn a4 10 = true), ∀ (c451 : ((j431 85 43) &&& (j431 97 ((a4).toNatClampNeg))) = 0), ∀ (c452 : (j431 85 35) = (16 : Int32)), False)
    (p45 : ∀ (c3 : ¬ a1 < 0), ∀ (c14 : a1 < (I 0 9)), ∀ (c16 : ¬ a4 < 0), ∀ (c33 : a4 < (I 0 10)), ∀ (c35 : (0 : Int32) ≤ a2 ∧ a2 ≤ (((1 : Int32) <<< ((I 1 1) &&& 31)) - (1 : Int32))), ∀ (v40 : Int64), ∀ (j36 : Nat → Nat → Int32), ∀ (e39 : csP I L a1 a2 a3 j36 v40), ∀ (c45 : v40 = (0 : Int64)), ∀ (c428 : ¬ a3 < 0), ∀ (v435 : Int32), ∀ (j431 : Nat → Nat → Int32), ∀ (e434 : goP j36 a1 a2 a3 j431 v435), ∀ (c436 : v435 = (a3 + (1 : Int32))), ∀ (v441 : Int32), ∀ (e442 : smP (upI j431 85 42 (0 : Int32)) v441), ∀ (c443 : v441 = (-1 : Int32)), ∀ (c446 : T_224 (upI j431 85 42 (0 : Int32)) a4 a1 = true), ∀ (bb449 : sIn a4 10 = true), ∀ (c451 : ¬ ((j431 85 43) &&& (j431 97 ((a4).toNatClampNeg))) = 0), False) : ∀ r2 : sR, qGo 263 [.ref (85), .int (a1), .int (a2), .int (a3), .int (a4)] r.2 r2 → opE r.1 r2.1 r2.2 RK := by
  refine qGo_w (Q := fun r => ∀ r2 : sR, qGo 263 [.ref (85), .int (a1), .int (a2), .int (a3), .int (a4)] r.2 r2 → opE r.1 r2.1 r2.2 RK) gW (fun N => ?_)
  have hl0 : qLs (lv_args 0 [.ref (0), .int (a1), .int (a2), .int (a3), .int (a4), .ref (117)]) [some (.ref (0)), some (.int (a1)), some (.int (a2)), some (.int (a3)), some (.int (a4)), some (.ref (117)), none] := qLs_ar 1
  refine q_aload (show mE (mtv 127) 0 = some (.aload 5, 2, 0, 0) from rfl) (hl0 5 _ rfl) ?_
  refine q_iconst (show mE (mtv 127) 2 = some (.iconst 0, 1, 0, 0) from rfl) kI_0 ?_
  refine q_aload_n (show mE (mtv 127) 3 = some (.aload_n 0, 1, 0, 0) from rfl) (hl0 0 _ rfl) ?_
  refine q_iload_n (show mE (mtv 127) 4 = some (.iload_n 1, 1, 0, 0) from rfl) (hl0 1 _ rfl) ?_
  refine q_iload_n (show mE (mtv 127) 5 = some (.iload_n 2, 1, 0, 0) from rfl) (hl0 2 _ rfl) ?_
  refine q_iload_n (show mE (mtv 127) 6 = some (.iload_n 3, 1, 0, 0) from rfl) (hl0 3 _ rfl) ?_
  refine q_iload (show mE (mtv 127) 7 = some (.iload 4, 2, 0, 0) from rfl) (hl0 4 _ rfl) ?_
  refine q_virtualIh (show mE (mtv 127) 9 = some (.invokevirtual 89, 3, 128, 8) from rfl) (by decide) rfl rfl rfl (fun _ => ?_)
  have hl1 : qLs (lv_args 0 [.ref (0), .int (a1), .int (a2), .int (a3), .int (a4)]) [some (.ref (0)), some (.int (a1)), some (.int (a2)), some (.int (a3)), some (.int (a4)), none, none, none] := qLs_ar 3
  refine q_aload_n (show mE (mtv 128) 0 = some (.aload_n 0, 1, 0, 0) from rfl) (hl1 0 _ rfl) ?_
  refine q_iload_n (show mE (mtv 128) 1 = some (.iload_n 1, 1, 0, 0) from rfl) (hl1 1 _ rfl) ?_
  refine q_virtualI (show mE (mtv 128) 2 = some (.invokevirtual 158, 3, 61, 8) from rfl) (by decide) rfl rfl rfl (fun _ => ?_)
  have hl2 : qLs (lv_args 0 [.ref (0), .int (a1)]) [some (.ref (0)), some (.int (a1))] := qLs_ar 0
  refine q_iload_n (show mE (mtv 61) 0 = some (.iload_n 1, 1, 0, 0) from rfl) (hl2 1 _ rfl) ?_
  refine q_if_lt (t := 12) (show mE (mtv 61) 1 = some (.ifCond .lt 11, 3, 0, 0) from rfl) rfl (fun c3 => ?_) (fun c3 => ?_)
  · refine q_throw (show mE (mtv 61) 12 = some (.new 338, 3, 1002, 0) from rfl) (by decide) ?_
    refine qK_x ?_
    refine qKh_x (hp := 17) (c := (19, sDr 6 (lv_args 0 [.ref (0), .int (a1), .int (a2), .int (a3), .int (a4), .ref (117)]), [], h)) rfl (by decide) (fun _ _ => rfl) ?_
    refine q_iconst (show mE (mtv 127) 19 = some (.iconst 1, 1, 0, 0) from rfl) kI_1 ?_
    refine q_ireturn (show mE (mtv 127) 20 = some (.ireturn, 1, 0, 0) from rfl) ?_
    intro r4 g5
    have g5 : qGo 263 [.ref (85), .int (a1), .int (a2), .int (a3), .int (a4)] h r4 := g5
    refine qGo_w (Q := fun r2 => opE (.inl (some (.int ((1 : Int32))))) r2.1 r2.2 RK) g5 (fun _ => ?_)
    have hl6 : qLs (lv_args 0 [.ref (85), .int (a1), .int (a2), .int (a3), .int (a4)]) [some (.ref (85)), some (.int (a1)), some (.int (a2)), some (.int (a3)), some (.int (a4))] := qLs_ar 0
    refine q_aload_n (show mE (mtv 263) 0 = some (.aload_n 0, 1, 0, 0) from rfl) (hl6 0 _ rfl) ?_
    refine q_aload_n (show mE (mtv 263) 1 = some (.aload_n 0, 1, 0, 0) from rfl) (hl6 0 _ rfl) ?_
    refine q_iload_n (show mE (mtv 263) 2 = some (.iload_n 1, 1, 0, 0) from rfl) (hl6 1 _ rfl) ?_
    refine q_virtualI (show mE (mtv 263) 3 = some (.invokevirtual 175, 3, 220, 9) from rfl) (by decide) rfl rfl rfl (fun _ => ?_)
    have hl7 : qLs (lv_args 0 [.ref (85), .int (a1)]) [some (.ref (85)), some (.int (a1))] := qLs_ar 0
    refine q_iload_n (show mE (mtv 220) 0 = some (.iload_n 1, 1, 0, 0) from rfl) (hl7 1 _ rfl) ?_
    refine q_iconst (show mE (mtv 220) 1 = some (.iconst 0, 1, 0, 0) from rfl) kI_0 ?_
    refine q_aload_n (show mE (mtv 220) 2 = some (.aload_n 0, 1, 0, 0) from rfl) (hl7 0 _ rfl) ?_
    refine q_getI th (show mE (mtv 220) 3 = some (.getfield 117, 3, 9, 35) from rfl) (by decide) rfl ?_
    have r8 : I 85 35 = I 0 9 := hK.nk.symm
    rw [r8]; clear r8
    refine q_iconst (show mE (mtv 220) 6 = some (.iconst 1, 1, 0, 0) from rfl) kI_1 ?_
    refine q_isub (show mE (mtv 220) 7 = some (.isub, 1, 0, 0) from rfl) ?_
    refine q_staticP (show mE (mtv 220) 8 = some (.invokestatic 157, 3, 211, 0) from rfl) (by decide) rfl rfl rfl (fun _ g => sp_211 g) ?_
    refine q_ireturn (show mE (mtv 220) 11 = some (.ireturn, 1, 0, 0) from rfl) ?_
    refine qK_v ?_
    refine q_ifb_eq (t := 18) (show mE (mtv 263) 6 = some (.ifCond .eq 12, 3, 0, 0) from rfl) rfl (fun c9 => ?_) (fun c9 => ?_)
    · clear c9
      refine q_iconst (show mE (mtv 263) 18 = some (.iconst 1, 1, 0, 0) from rfl) kI_1 ?_
      refine q_goto (t := 49) (show mE (mtv 263) 19 = some (.goto 30, 3, 0, 0) from rfl) rfl ?_
      refine q_putI th (show mE (mtv 263) 49 = some (.putfield 138, 3, 9, 42) from rfl) (by decide) rfl (fun h12 t13 => ?_)
      refine q_aload_n (show mE (mtv 263) 52 = some (.aload_n 0, 1, 0, 0) from rfl) (hl6 0 _ rfl) ?_
      refine q_getIe t13 (show mE (mtv 263) 53 = some (.getfield 138, 3, 9, 42) from rfl) (by decide) rfl (upI_s) ?_
      refine q_ift (t := 114) (show mE (mtv 263) 56 = some (.ifCond .ne 58, 3, 0, 0) from rfl) (by decide) rfl ?_
      refine q_aload_n (show mE (mtv 263) 114 = some (.aload_n 0, 1, 0, 0) from rfl) (hl6 0 _ rfl) ?_
      refine q_getIe t13 (show mE (mtv 263) 115 = some (.getfield 138, 3, 9, 42) from rfl) (by decide) rfl (upI_s) ?_
      refine q_iff (t := 123) (show mE (mtv 263) 118 = some (.ifCond .le 5, 3, 0, 0) from rfl) (by decide) rfl ?_
      refine q_iconst (show mE (mtv 263) 121 = some (.iconst 0, 1, 0, 0) from rfl) kI_0 ?_
      refine q_ireturn (show mE (mtv 263) 122 = some (.ireturn, 1, 0, 0) from rfl) ?_
      exact ⟨(1 : Int32), (0 : Int32), _, _, _, rfl, rfl, t13, upI_s, (fun e => absurd e (by decide)), (RK_t (1 : Int32) hK)⟩
    · exfalso
      have s10 := hK.bk
      unfold inR at s10
      have s11 := i32_sub1 (x := I 0 9) (by omega)
      simp only [s11, Int32.lt_iff_toInt_lt, Int32.le_iff_toInt_le, ← Int32.toInt_inj, kt_0, kt_1] at c3 c9
      first | omega | contradiction
  · refine q_iload_n (show mE (mtv 61) 4 = some (.iload_n 1, 1, 0, 0) from rfl) (hl2 1 _ rfl) ?_
    refine q_aload_n (show mE (mtv 61) 5 = some (.aload_n 0, 1, 0, 0) from rfl) (hl2 0 _ rfl) ?_
    refine q_getI th (show mE (mtv 61) 6 = some (.getfield 88, 3, 8, 9) from rfl) (by decide) rfl ?_
    refine q_ic_lt (t := 23) (show mE (mtv 61) 9 = some (.if_icmp .lt 14, 3, 0, 0) from rfl) rfl (fun c14 => ?_) (fun c14 => ?_)
    · refine q_return_ (show mE (mtv 61) 23 = some (.return_, 1, 0, 0) from rfl) ?_
      refine qK_n ?_
      refine q_aload_n (show mE (mtv 128) 5 = some (.aload_n 0, 1, 0, 0) from rfl) (hl1 0 _ rfl) ?_
      refine q_iload (show mE (mtv 128) 6 = some (.iload 4, 2, 0, 0) from rfl) (hl1 4 _ rfl) ?_
      refine q_virtualI (show mE (mtv 128) 8 = some (.invokevirtual 176, 3, 67, 8) from rfl) (by decide) rfl rfl rfl (fun _ => ?_)
      have hl15 : qLs (lv_args 0 [.ref (0), .int (a4)]) [some (.ref (0)), some (.int (a4))] := qLs_ar 0
      refine q_iload_n (show mE (mtv 67) 0 = some (.iload_n 1, 1, 0, 0) from rfl) (hl15 1 _ rfl) ?_
      refine q_if_lt (t := 12) (show mE (mtv 67) 1 = some (.ifCond .lt 11, 3, 0, 0) from rfl) rfl (fun c16 => ?_) (fun c16 => ?_)
      · refine q_throw (show mE (mtv 67) 12 = some (.new 338, 3, 1002, 0) from rfl) (by decide) ?_
        refine qK_x ?_
        refine qKh_x (hp := 17) (c := (19, sDr 6 (lv_args 0 [.ref (0), .int (a1), .int (a2), .int (a3), .int (a4), .ref (117)]), [], h)) rfl (by decide) (fun _ _ => rfl) ?_
        refine q_iconst (show mE (mtv 127) 19 = some (.iconst 1, 1, 0, 0) from rfl) kI_1 ?_
        refine q_ireturn (show mE (mtv 127) 20 = some (.ireturn, 1, 0, 0) from rfl) ?_
        intro r17 g18
        have g18 : qGo 263 [.ref (85), .int (a1), .int (a2), .int (a3), .int (a4)] h r17 := g18
        refine qGo_w (Q := fun r2 => opE (.inl (some (.int ((1 : Int32))))) r2.1 r2.2 RK) g18 (fun _ => ?_)
        have hl19 : qLs (lv_args 0 [.ref (85), .int (a1), .int (a2), .int (a3), .int (a4)]) [some (.ref (85)), some (.int (a1)), some (.int (a2)), some (.int (a3)), some (.int (a4))] := qLs_ar 0
        refine q_aload_n (show mE (mtv 263) 0 = some (.aload_n 0, 1, 0, 0) from rfl) (hl19 0 _ rfl) ?_
        refine q_aload_n (show mE (mtv 263) 1 = some (.aload_n 0, 1, 0, 0) from rfl) (hl19 0 _ rfl) ?_
        refine q_iload_n (show mE (mtv 263) 2 = some (.iload_n 1, 1, 0, 0) from rfl) (hl19 1 _ rfl) ?_
        refine q_virtualI (show mE (mtv 263) 3 = some (.invokevirtual 175, 3, 220, 9) from rfl) (by decide) rfl rfl rfl (fun _ => ?_)
        have hl20 : qLs (lv_args 0 [.ref (85), .int (a1)]) [some (.ref (85)), some (.int (a1))] := qLs_ar 0
        refine q_iload_n (show mE (mtv 220) 0 = some (.iload_n 1, 1, 0, 0) from rfl) (hl20 1 _ rfl) ?_
        refine q_iconst (show mE (mtv 220) 1 = some (.iconst 0, 1, 0, 0) from rfl) kI_0 ?_
        refine q_aload_n (show mE (mtv 220) 2 = some (.aload_n 0, 1, 0, 0) from rfl) (hl20 0 _ rfl) ?_
        refine q_getI th (show mE (mtv 220) 3 = some (.getfield 117, 3, 9, 35) from rfl) (by decide) rfl ?_
        have r21 : I 85 35 = I 0 9 := hK.nk.symm
        rw [r21]; clear r21
        refine q_iconst (show mE (mtv 220) 6 = some (.iconst 1, 1, 0, 0) from rfl) kI_1 ?_
        refine q_isub (show mE (mtv 220) 7 = some (.isub, 1, 0, 0) from rfl) ?_
        refine q_staticP (show mE (mtv 220) 8 = some (.invokestatic 157, 3, 211, 0) from rfl) (by decide) rfl rfl rfl (fun _ g => sp_211 g) ?_
        refine q_ireturn (show mE (mtv 220) 11 = some (.ireturn, 1, 0, 0) from rfl) ?_
        refine qK_v ?_
        refine q_ifb_eq (t := 18) (show mE (mtv 263) 6 = some (.ifCond .eq 12, 3, 0, 0) from rfl) rfl (fun c22 => ?_) (fun c22 => ?_)
        · exfalso
          have s23 := hK.bk
          unfold inR at s23
          have s24 := i32_sub1 (x := I 0 9) (by omega)
          simp only [s24, Int32.lt_iff_toInt_lt, Int32.le_iff_toInt_le, ← Int32.toInt_inj, kt_0, kt_1] at c3 c14 c16 c22
          first | omega | contradiction
        · clear c22
          refine q_aload_n (show mE (mtv 263) 9 = some (.aload_n 0, 1, 0, 0) from rfl) (hl19 0 _ rfl) ?_
          refine q_iload (show mE (mtv 263) 10 = some (.iload 4, 2, 0, 0) from rfl) (hl19 4 _ rfl) ?_
          refine q_virtualI (show mE (mtv 263) 12 = some (.invokevirtual 183, 3, 223, 9) from rfl) (by decide) rfl rfl rfl (fun _ => ?_)
          have hl25 : qLs (lv_args 0 [.ref (85), .int (a4)]) [some (.ref (85)), some (.int (a4))] := qLs_ar 0
          refine q_iload_n (show mE (mtv 223) 0 = some (.iload_n 1, 1, 0, 0) from rfl) (hl25 1 _ rfl) ?_
          refine q_iconst (show mE (mtv 223) 1 = some (.iconst 0, 1, 0, 0) from rfl) kI_0 ?_
          refine q_aload_n (show mE (mtv 223) 2 = some (.aload_n 0, 1, 0, 0) from rfl) (hl25 0 _ rfl) ?_
          refine q_getI th (show mE (mtv 223) 3 = some (.getfield 120, 3, 9, 36) from rfl) (by decide) rfl ?_
          have r26 : I 85 36 = I 0 10 := hK.nd.symm
          rw [r26]; clear r26
          refine q_iconst (show mE (mtv 223) 6 = some (.iconst 1, 1, 0, 0) from rfl) kI_1 ?_
          refine q_isub (show mE (mtv 223) 7 = some (.isub, 1, 0, 0) from rfl) ?_
          refine q_staticP (show mE (mtv 223) 8 = some (.invokestatic 157, 3, 211, 0) from rfl) (by decide) rfl rfl rfl (fun _ g => sp_211 g) ?_
          refine q_ireturn (show mE (mtv 223) 11 = some (.ireturn, 1, 0, 0) from rfl) ?_
          refine qK_v ?_
          refine q_ifb_ne (t := 22) (show mE (mtv 263) 15 = some (.ifCond .ne 7, 3, 0, 0) from rfl) rfl (fun c27 => ?_) (fun c27 => ?_)
          · exfalso
            have s28 := hK.bk
            unfold inR at s28
            have s29 := hK.bd
            unfold inR at s29
            have s30 := i32_sub1 (x := I 0 10) (by omega)
            simp only [s30, Int32.lt_iff_toInt_lt, Int32.le_iff_toInt_le, ← Int32.toInt_inj, kt_0, kt_1] at c3 c14 c16 c27
            first | omega | contradiction
          · clear c27
            refine q_iconst (show mE (mtv 263) 18 = some (.iconst 1, 1, 0, 0) from rfl) kI_1 ?_
            refine q_goto (t := 49) (show mE (mtv 263) 19 = some (.goto 30, 3, 0, 0) from rfl) rfl ?_
            refine q_putI th (show mE (mtv 263) 49 = some (.putfield 138, 3, 9, 42) from rfl) (by decide) rfl (fun h31 t32 => ?_)
            refine q_aload_n (show mE (mtv 263) 52 = some (.aload_n 0, 1, 0, 0) from rfl) (hl19 0 _ rfl) ?_
            refine q_getIe t32 (show mE (mtv 263) 53 = some (.getfield 138, 3, 9, 42) from rfl) (by decide) rfl (upI_s) ?_
            refine q_ift (t := 114) (show mE (mtv 263) 56 = some (.ifCond .ne 58, 3, 0, 0) from rfl) (by decide) rfl ?_
            refine q_aload_n (show mE (mtv 263) 114 = some (.aload_n 0, 1, 0, 0) from rfl) (hl19 0 _ rfl) ?_
            refine q_getIe t32 (show mE (mtv 263) 115 = some (.getfield 138, 3, 9, 42) from rfl) (by decide) rfl (upI_s) ?_
            refine q_iff (t := 123) (show mE (mtv 263) 118 = some (.ifCond .le 5, 3, 0, 0) from rfl) (by decide) rfl ?_
            refine q_iconst (show mE (mtv 263) 121 = some (.iconst 0, 1, 0, 0) from rfl) kI_0 ?_
            refine q_ireturn (show mE (mtv 263) 122 = some (.ireturn, 1, 0, 0) from rfl) ?_
            exact ⟨(1 : Int32), (0 : Int32), _, _, _, rfl, rfl, t32, upI_s, (fun e => absurd e (by decide)), (RK_t (1 : Int32) hK)⟩
      · refine q_iload_n (show mE (mtv 67) 4 = some (.iload_n 1, 1, 0, 0) from rfl) (hl15 1 _ rfl) ?_
        refine q_aload_n (show mE (mtv 67) 5 = some (.aload_n 0, 1, 0, 0) from rfl) (hl15 0 _ rfl) ?_
        refine q_getI th (show mE (mtv 67) 6 = some (.getfield 171, 3, 8, 10) from rfl) (by decide) rfl ?_
        refine q_ic_lt (t := 23) (show mE (mtv 67) 9 = some (.if_icmp .lt 14, 3, 0, 0) from rfl) rfl (fun c33 => ?_) (fun c33 => ?_)
        · refine q_return_ (show mE (mtv 67) 23 = some (.return_, 1, 0, 0) from rfl) ?_
          refine qK_n ?_
          refine q_aload_n (show mE (mtv 128) 11 = some (.aload_n 0, 1, 0, 0) from rfl) (hl1 0 _ rfl) ?_
          refine q_iload_n (show mE (mtv 128) 12 = some (.iload_n 2, 1, 0, 0) from rfl) (hl1 2 _ rfl) ?_
          refine q_virtualI (show mE (mtv 128) 13 = some (.invokevirtual 296, 3, 119, 8) from rfl) (by decide) rfl rfl rfl (fun _ => ?_)
          have hl34 : qLs (lv_args 0 [.ref (0), .int (a2)]) [some (.ref (0)), some (.int (a2))] := qLs_ar 0
          refine q_iload_n (show mE (mtv 119) 0 = some (.iload_n 1, 1, 0, 0) from rfl) (hl34 1 _ rfl) ?_
          refine q_iconst (show mE (mtv 119) 1 = some (.iconst 0, 1, 0, 0) from rfl) kI_0 ?_
          refine q_iconst (show mE (mtv 119) 2 = some (.iconst 1, 1, 0, 0) from rfl) kI_1 ?_
          refine q_aload_n (show mE (mtv 119) 3 = some (.aload_n 0, 1, 0, 0) from rfl) (hl34 0 _ rfl) ?_
          refine q_getR (m := 1) th (show mE (mtv 119) 4 = some (.getfield 10, 3, 8, 0) from rfl) (by decide) rfl rfl ?_
          refine q_getI th (show mE (mtv 119) 7 = some (.getfield 123, 3, 4, 1) from rfl) (by decide) rfl ?_
          refine q_ishl (show mE (mtv 119) 10 = some (.ishl, 1, 0, 0) from rfl) ?_
          refine q_iconst (show mE (mtv 119) 11 = some (.iconst 1, 1, 0, 0) from rfl) kI_1 ?_
          refine q_isub (show mE (mtv 119) 12 = some (.isub, 1, 0, 0) from rfl) ?_
          refine q_staticP (show mE (mtv 119) 13 = some (.invokestatic 77, 3, 47, 0) from rfl) (by decide) rfl rfl rfl (fun _ g => sp_47 g) ?_
          refine q_ifb_ne (t := 30) (show mE (mtv 119) 16 = some (.ifCond .ne 14, 3, 0, 0) from rfl) rfl (fun c35 => ?_) (fun c35 => ?_)
          · refine q_return_ (show mE (mtv 119) 30 = some (.return_, 1, 0, 0) from rfl) ?_
            refine qK_n ?_
            refine q_aload_n (show mE (mtv 128) 16 = some (.aload_n 0, 1, 0, 0) from rfl) (hl1 0 _ rfl) ?_
            refine q_iload_n (show mE (mtv 128) 17 = some (.iload_n 1, 1, 0, 0) from rfl) (hl1 1 _ rfl) ?_
            refine q_iload_n (show mE (mtv 128) 18 = some (.iload_n 2, 1, 0, 0) from rfl) (hl1 2 _ rfl) ?_
            refine q_iload_n (show mE (mtv 128) 19 = some (.iload_n 3, 1, 0, 0) from rfl) (hl1 3 _ rfl) ?_
            refine q_virtualE (show mE (mtv 128) 20 = some (.invokevirtual 303, 3, 124, 8) from rfl) (by decide) rfl rfl rfl (fun _ g => sp_124 th g) ?_
            rintro _ ⟨v40, j36, h37, rfl, t38, e39⟩
            refine qK_v ?_
            have ag41 : agS j36 I := csS hK c3 c14 e39
            refine q_lstore (show mE (mtv 128) 23 = some (.lstore 5, 2, 0, 0) from rfl) (Nat.le_of_ble_eq_true rfl) hl1 (fun lv42 (hl43 : qLs lv42 [some (.ref (0)), some (.int (a1)), some (.int (a2)), some (.int (a3)), some (.int (a4)), some (.long (v40)), none, none]) => ?_)
            refine q_aload_n (show mE (mtv 128) 25 = some (.aload_n 0, 1, 0, 0) from rfl) (hl43 0 _ rfl) ?_
            refine q_lload (show mE (mtv 128) 26 = some (.lload 5, 2, 0, 0) from rfl) (hl43 5 _ rfl) ?_
            refine q_virtualI (show mE (mtv 128) 28 = some (.invokevirtual 231, 3, 96, 8) from rfl) (by decide) rfl rfl rfl (fun _ => ?_)
            have hl44 : qLs (lv_args 0 [.ref (0), .long (v40)]) [some (.ref (0)), some (.long (v40)), none] := qLs_ar 0
            refine q_lload_n (show mE (mtv 96) 0 = some (.lload_n 1, 1, 0, 0) from rfl) (hl44 1 _ rfl) ?_
            refine q_lconst (show mE (mtv 96) 1 = some (.lconst 0, 1, 0, 0) from rfl) kL_0 ?_
            refine q_lcmp (show mE (mtv 96) 2 = some (.lcmp, 1, 0, 0) from rfl) ?_
            refine q_ifl_ne (t := 17) (show mE (mtv 96) 3 = some (.ifCond .ne 14, 3, 0, 0) from rfl) rfl (fun c45 => ?_) (fun c45 => ?_)
            · refine q_return_ (show mE (mtv 96) 17 = some (.return_, 1, 0, 0) from rfl) ?_
              refine qK_n ?_
              refine q_aload_n (show mE (mtv 128) 31 = some (.aload_n 0, 1, 0, 0) from rfl) (hl43 0 _ rfl) ?_
              refine q_lload (show mE (mtv 128) 32 = some (.lload 5, 2, 0, 0) from rfl) (hl43 5 _ rfl) ?_
              refine q_virtualP (show mE (mtv 128) 34 = some (.invokevirtual 145, 3, 56, 8) from rfl) (by decide) rfl rfl rfl (fun _ g => sp_56 t38 g) ?_
              refine q_ifb_ne (t := 82) (show mE (mtv 128) 37 = some (.ifCond .ne 45, 3, 0, 0) from rfl) rfl (fun c46 => ?_) (fun c46 => ?_)
              · refine q_iconst (show mE (mtv 128) 82 = some (.iconst 0, 1, 0, 0) from rfl) kI_0 ?_
                refine q_istore (show mE (mtv 128) 83 = some (.istore 7, 2, 0, 0) from rfl) (Nat.le_of_ble_eq_true rfl) hl43 (fun lv47 (hl48 : qLs lv47 [some (.ref (0)), some (.int (a1)), some (.int (a2)), some (.int (a3)), some (.int (a4)), some (.long (v40)), none, some (.int ((0 : Int32)))]) => ?_)
                refine q_iload (show mE (mtv 128) 85 = some (.iload 7, 2, 0, 0) from rfl) (hl48 7 _ rfl) ?_
                refine q_iff (t := 101) (show mE (mtv 128) 87 = some (.ifCond .ne 14, 3, 0, 0) from rfl) (by decide) rfl ?_
                refine q_throw (show mE (mtv 128) 90 = some (.new 94, 3, 1003, 0) from rfl) (by decide) ?_
                refine qKh_x (hp := 29) (c := (31, sDr 6 (lv_args 0 [.ref (0), .int (a1), .int (a2), .int (a3), .int (a4), .ref (117)]), [], h37)) rfl (by decide) (fun _ _ => rfl) ?_
                refine q_iconst (show mE (mtv 127) 31 = some (.iconst 4, 1, 0, 0) from rfl) kI_4 ?_
                refine q_ireturn (show mE (mtv 127) 32 = some (.ireturn, 1, 0, 0) from rfl) ?_
                intro r49 g50
                have g50 : qGo 263 [.ref (85), .int (a1), .int (a2), .int (a3), .int (a4)] h37 r49 := g50
                refine qGo_w (Q := fun r2 => opE (.inl (some (.int ((4 : Int32))))) r2.1 r2.2 RK) g50 (fun _ => ?_)
                have hl51 : qLs (lv_args 0 [.ref (85), .int (a1), .int (a2), .int (a3), .int (a4)]) [some (.ref (85)), some (.int (a1)), some (.int (a2)), some (.int (a3)), some (.int (a4))] := qLs_ar 0
                refine q_aload_n (show mE (mtv 263) 0 = some (.aload_n 0, 1, 0, 0) from rfl) (hl51 0 _ rfl) ?_
                refine q_aload_n (show mE (mtv 263) 1 = some (.aload_n 0, 1, 0, 0) from rfl) (hl51 0 _ rfl) ?_
                refine q_iload_n (show mE (mtv 263) 2 = some (.iload_n 1, 1, 0, 0) from rfl) (hl51 1 _ rfl) ?_
                refine q_virtualI (show mE (mtv 263) 3 = some (.invokevirtual 175, 3, 220, 9) from rfl) (by decide) rfl rfl rfl (fun _ => ?_)
                have hl52 : qLs (lv_args 0 [.ref (85), .int (a1)]) [some (.ref (85)), some (.int (a1))] := qLs_ar 0
                refine q_iload_n (show mE (mtv 220) 0 = some (.iload_n 1, 1, 0, 0) from rfl) (hl52 1 _ rfl) ?_
                refine q_iconst (show mE (mtv 220) 1 = some (.iconst 0, 1, 0, 0) from rfl) kI_0 ?_
                refine q_aload_n (show mE (mtv 220) 2 = some (.aload_n 0, 1, 0, 0) from rfl) (hl52 0 _ rfl) ?_
                refine q_getI t38 (show mE (mtv 220) 3 = some (.getfield 117, 3, 9, 35) from rfl) (by decide) rfl ?_
                have r53 : j36 85 35 = I 85 35 := sc85 ag41 (by decide)
                rw [r53]; clear r53
                have r54 : I 85 35 = I 0 9 := hK.nk.symm
                rw [r54]; clear r54
                refine q_iconst (show mE (mtv 220) 6 = some (.iconst 1, 1, 0, 0) from rfl) kI_1 ?_
                refine q_isub (show mE (mtv 220) 7 = some (.isub, 1, 0, 0) from rfl) ?_
                refine q_staticP (show mE (mtv 220) 8 = some (.invokestatic 157, 3, 211, 0) from rfl) (by decide) rfl rfl rfl (fun _ g => sp_211 g) ?_
                refine q_ireturn (show mE (mtv 220) 11 = some (.ireturn, 1, 0, 0) from rfl) ?_
                refine qK_v ?_
                refine q_ifb_eq (t := 18) (show mE (mtv 263) 6 = some (.ifCond .eq 12, 3, 0, 0) from rfl) rfl (fun c55 => ?_) (fun c55 => ?_)
                · exfalso
                  have s56 := hK.bk
                  unfold inR at s56
                  have s57 := i32_sub1 (x := I 0 9) (by omega)
                  have s58 := hK.bd
                  unfold inR at s58
                  simp only [s57, Int32.lt_iff_toInt_lt, Int32.le_iff_toInt_le, ← Int32.toInt_inj, kt_0, kt_1] at c3 c14 c16 c33 c45 c55
                  first | omega | contradiction
                · clear c55
                  refine q_aload_n (show mE (mtv 263) 9 = some (.aload_n 0, 1, 0, 0) from rfl) (hl51 0 _ rfl) ?_
                  refine q_iload (show mE (mtv 263) 10 = some (.iload 4, 2, 0, 0) from rfl) (hl51 4 _ rfl) ?_
                  refine q_virtualI (show mE (mtv 263) 12 = some (.invokevirtual 183, 3, 223, 9) from rfl) (by decide) rfl rfl rfl (fun _ => ?_)
                  have hl59 : qLs (lv_args 0 [.ref (85), .int (a4)]) [some (.ref (85)), some (.int (a4))] := qLs_ar 0
                  refine q_iload_n (show mE (mtv 223) 0 = some (.iload_n 1, 1, 0, 0) from rfl) (hl59 1 _ rfl) ?_
                  refine q_iconst (show mE (mtv 223) 1 = some (.iconst 0, 1, 0, 0) from rfl) kI_0 ?_
                  refine q_aload_n (show mE (mtv 223) 2 = some (.aload_n 0, 1, 0, 0) from rfl) (hl59 0 _ rfl) ?_
                  refine q_getI t38 (show mE (mtv 223) 3 = some (.getfield 120, 3, 9, 36) from rfl) (by decide) rfl ?_
                  have r60 : j36 85 36 = I 85 36 := sc85 ag41 (by decide)
                  rw [r60]; clear r60
                  have r61 : I 85 36 = I 0 10 := hK.nd.symm
                  rw [r61]; clear r61
                  refine q_iconst (show mE (mtv 223) 6 = some (.iconst 1, 1, 0, 0) from rfl) kI_1 ?_
                  refine q_isub (show mE (mtv 223) 7 = some (.isub, 1, 0, 0) from rfl) ?_
                  refine q_staticP (show mE (mtv 223) 8 = some (.invokestatic 157, 3, 211, 0) from rfl) (by decide) rfl rfl rfl (fun _ g => sp_211 g) ?_
                  refine q_ireturn (show mE (mtv 223) 11 = some (.ireturn, 1, 0, 0) from rfl) ?_
                  refine qK_v ?_
                  refine q_ifb_ne (t := 22) (show mE (mtv 263) 15 = some (.ifCond .ne 7, 3, 0, 0) from rfl) rfl (fun c62 => ?_) (fun c62 => ?_)
                  · clear c62
                    refine q_aload_n (show mE (mtv 263) 22 = some (.aload_n 0, 1, 0, 0) from rfl) (hl51 0 _ rfl) ?_
                    refine q_iload_n (show mE (mtv 263) 23 = some (.iload_n 2, 1, 0, 0) from rfl) (hl51 2 _ rfl) ?_
                    refine q_virtualI (show mE (mtv 263) 24 = some (.invokevirtual 239, 3, 258, 9) from rfl) (by decide) rfl rfl rfl (fun _ => ?_)
                    have hl66 : qLs (lv_args 0 [.ref (85), .int (a2)]) [some (.ref (85)), some (.int (a2))] := qLs_ar 0
                    refine q_iload_n (show mE (mtv 258) 0 = some (.iload_n 1, 1, 0, 0) from rfl) (hl66 1 _ rfl) ?_
                    refine q_iconst (show mE (mtv 258) 1 = some (.iconst 0, 1, 0, 0) from rfl) kI_0 ?_
                    refine q_iconst (show mE (mtv 258) 2 = some (.iconst 1, 1, 0, 0) from rfl) kI_1 ?_
                    refine q_aload_n (show mE (mtv 258) 3 = some (.aload_n 0, 1, 0, 0) from rfl) (hl66 0 _ rfl) ?_
                    refine q_getI t38 (show mE (mtv 258) 4 = some (.getfield 104, 3, 9, 31) from rfl) (by decide) rfl ?_
                    have r67 : j36 85 31 = I 85 31 := sc85 ag41 (by decide)
                    rw [r67]; clear r67
                    have r68 : I 85 31 = I 1 1 := hK.ch.symm
                    rw [r68]; clear r68
                    refine q_ishl (show mE (mtv 258) 7 = some (.ishl, 1, 0, 0) from rfl) ?_
                    refine q_iconst (show mE (mtv 258) 8 = some (.iconst 1, 1, 0, 0) from rfl) kI_1 ?_
                    refine q_isub (show mE (mtv 258) 9 = some (.isub, 1, 0, 0) from rfl) ?_
                    refine q_staticP (show mE (mtv 258) 10 = some (.invokestatic 157, 3, 211, 0) from rfl) (by decide) rfl rfl rfl (fun _ g => sp_211 g) ?_
                    refine q_ireturn (show mE (mtv 258) 13 = some (.ireturn, 1, 0, 0) from rfl) ?_
                    refine qK_v ?_
                    refine q_ifb_ne (t := 34) (show mE (mtv 263) 27 = some (.ifCond .ne 7, 3, 0, 0) from rfl) rfl (fun c69 => ?_) (fun c69 => ?_)
                    · clear c69
                      refine q_aload_n (show mE (mtv 263) 34 = some (.aload_n 0, 1, 0, 0) from rfl) (hl51 0 _ rfl) ?_
                      refine q_iload_n (show mE (mtv 263) 35 = some (.iload_n 1, 1, 0, 0) from rfl) (hl51 1 _ rfl) ?_
                      refine q_iload_n (show mE (mtv 263) 36 = some (.iload_n 2, 1, 0, 0) from rfl) (hl51 2 _ rfl) ?_
                      refine q_iload_n (show mE (mtv 263) 37 = some (.iload_n 3, 1, 0, 0) from rfl) (hl51 3 _ rfl) ?_
                      refine q_virtualI (show mE (mtv 263) 38 = some (.invokevirtual 246, 3, 262, 9) from rfl) (by decide) rfl rfl rfl (fun _ => ?_)
                      have hl70 : qLs (lv_args 0 [.ref (85), .int (a1), .int (a2), .int (a3)]) [some (.ref (85)), some (.int (a1)), some (.int (a2)), some (.int (a3))] := qLs_ar 0
                      refine q_iload_n (show mE (mtv 262) 0 = some (.iload_n 3, 1, 0, 0) from rfl) (hl70 3 _ rfl) ?_
                      refine q_if_lt (t := 21) (show mE (mtv 262) 1 = some (.ifCond .lt 20, 3, 0, 0) from rfl) rfl (fun c71 => ?_) (fun c71 => ?_)
                      · refine q_iconst (show mE (mtv 262) 21 = some (.iconst 0, 1, 0, 0) from rfl) kI_0 ?_
                        refine q_ireturn (show mE (mtv 262) 22 = some (.ireturn, 1, 0, 0) from rfl) ?_
                        refine qK_v ?_
                        refine q_iff (t := 48) (show mE (mtv 263) 41 = some (.ifCond .ne 7, 3, 0, 0) from rfl) (by decide) rfl ?_
                        refine q_iconst (show mE (mtv 263) 44 = some (.iconst 3, 1, 0, 0) from rfl) kI_3 ?_
                        refine q_goto (t := 49) (show mE (mtv 263) 45 = some (.goto 4, 3, 0, 0) from rfl) rfl ?_
                        refine q_putI t38 (show mE (mtv 263) 49 = some (.putfield 138, 3, 9, 42) from rfl) (by decide) rfl (fun h72 t73 => ?_)
                        refine q_aload_n (show mE (mtv 263) 52 = some (.aload_n 0, 1, 0, 0) from rfl) (hl51 0 _ rfl) ?_
                        refine q_getIe t73 (show mE (mtv 263) 53 = some (.getfield 138, 3, 9, 42) from rfl) (by decide) rfl (upI_s) ?_
                        refine q_ift (t := 114) (show mE (mtv 263) 56 = some (.ifCond .ne 58, 3, 0, 0) from rfl) (by decide) rfl ?_
                        refine q_aload_n (show mE (mtv 263) 114 = some (.aload_n 0, 1, 0, 0) from rfl) (hl51 0 _ rfl) ?_
                        refine q_getIe t73 (show mE (mtv 263) 115 = some (.getfield 138, 3, 9, 42) from rfl) (by decide) rfl (upI_s) ?_
                        refine q_iff (t := 123) (show mE (mtv 263) 118 = some (.ifCond .le 5, 3, 0, 0) from rfl) (by decide) rfl ?_
                        refine q_iconst (show mE (mtv 263) 121 = some (.iconst 0, 1, 0, 0) from rfl) kI_0 ?_
                        refine q_ireturn (show mE (mtv 263) 122 = some (.ireturn, 1, 0, 0) from rfl) ?_
                        exact (p1 c3 c14 c16 c33 c35 v40 j36 e39 c45 c46 c71).elim
                      · refine q_aload_n (show mE (mtv 262) 4 = some (.aload_n 0, 1, 0, 0) from rfl) (hl70 0 _ rfl) ?_
                        refine q_iload_n (show mE (mtv 262) 5 = some (.iload_n 1, 1, 0, 0) from rfl) (hl70 1 _ rfl) ?_
                        refine q_iload_n (show mE (mtv 262) 6 = some (.iload_n 2, 1, 0, 0) from rfl) (hl70 2 _ rfl) ?_
                        refine q_iload_n (show mE (mtv 262) 7 = some (.iload_n 3, 1, 0, 0) from rfl) (hl70 3 _ rfl) ?_
                        refine q_virtualE (show mE (mtv 262) 8 = some (.invokevirtual 242, 3, 259, 9) from rfl) (by decide) rfl rfl rfl (fun _ g => sp_259 t38 g) ?_
                        rintro _ ⟨v78, j74, h75, rfl, t76, e77⟩
                        refine qK_v ?_
                        refine q_iload_n (show mE (mtv 262) 11 = some (.iload_n 3, 1, 0, 0) from rfl) (hl70 3 _ rfl) ?_
                        refine q_iconst (show mE (mtv 262) 12 = some (.iconst 1, 1, 0, 0) from rfl) kI_1 ?_
                        refine q_iadd (show mE (mtv 262) 13 = some (.iadd, 1, 0, 0) from rfl) ?_
                        refine q_ic_ne (t := 21) (show mE (mtv 262) 14 = some (.if_icmp .ne 7, 3, 0, 0) from rfl) rfl (fun c79 => ?_) (fun c79 => ?_)
                        · refine q_iconst (show mE (mtv 262) 21 = some (.iconst 0, 1, 0, 0) from rfl) kI_0 ?_
                          refine q_ireturn (show mE (mtv 262) 22 = some (.ireturn, 1, 0, 0) from rfl) ?_
                          refine qK_v ?_
                          refine q_iff (t := 48) (show mE (mtv 263) 41 = some (.ifCond .ne 7, 3, 0, 0) from rfl) (by decide) rfl ?_
                          refine q_iconst (show mE (mtv 263) 44 = some (.iconst 3, 1, 0, 0) from rfl) kI_3 ?_
                          refine q_goto (t := 49) (show mE (mtv 263) 45 = some (.goto 4, 3, 0, 0) from rfl) rfl ?_
                          refine q_putI t76 (show mE (mtv 263) 49 = some (.putfield 138, 3, 9, 42) from rfl) (by decide) rfl (fun h80 t81 => ?_)
                          refine q_aload_n (show mE (mtv 263) 52 = some (.aload_n 0, 1, 0, 0) from rfl) (hl51 0 _ rfl) ?_
                          refine q_getIe t81 (show mE (mtv 263) 53 = some (.getfield 138, 3, 9, 42) from rfl) (by decide) rfl (upI_s) ?_
                          refine q_ift (t := 114) (show mE (mtv 263) 56 = some (.ifCond .ne 58, 3, 0, 0) from rfl) (by decide) rfl ?_
                          refine q_aload_n (show mE (mtv 263) 114 = some (.aload_n 0, 1, 0, 0) from rfl) (hl51 0 _ rfl) ?_
                          refine q_getIe t81 (show mE (mtv 263) 115 = some (.getfield 138, 3, 9, 42) from rfl) (by decide) rfl (upI_s) ?_
                          refine q_iff (t := 123) (show mE (mtv 263) 118 = some (.ifCond .le 5, 3, 0, 0) from rfl) (by decide) rfl ?_
                          refine q_iconst (show mE (mtv 263) 121 = some (.iconst 0, 1, 0, 0) from rfl) kI_0 ?_
                          refine q_ireturn (show mE (mtv 263) 122 = some (.ireturn, 1, 0, 0) from rfl) ?_
                          exact (p2 c3 c14 c16 c33 c35 v40 j36 e39 c45 c46 c71 v78 j74 e77 c79).elim
                        · refine q_iconst (show mE (mtv 262) 17 = some (.iconst 1, 1, 0, 0) from rfl) kI_1 ?_
                          refine q_goto (t := 22) (show mE (mtv 262) 18 = some (.goto 4, 3, 0, 0) from rfl) rfl ?_
                          refine q_ireturn (show mE (mtv 262) 22 = some (.ireturn, 1, 0, 0) from rfl) ?_
                          refine qK_v ?_
                          refine q_ift (t := 48) (show mE (mtv 263) 41 = some (.ifCond .ne 7, 3, 0, 0) from rfl) (by decide) rfl ?_
                          refine q_iconst (show mE (mtv 263) 48 = some (.iconst 0, 1, 0, 0) from rfl) kI_0 ?_
                          refine q_putI t76 (show mE (mtv 263) 49 = some (.putfield 138, 3, 9, 42) from rfl) (by decide) rfl (fun h82 t83 => ?_)
                          refine q_aload_n (show mE (mtv 263) 52 = some (.aload_n 0, 1, 0, 0) from rfl) (hl51 0 _ rfl) ?_
                          refine q_getIe t83 (show mE (mtv 263) 53 = some (.getfield 138, 3, 9, 42) from rfl) (by decide) rfl (upI_s) ?_
                          refine q_iff (t := 114) (show mE (mtv 263) 56 = some (.ifCond .ne 58, 3, 0, 0) from rfl) (by decide) rfl ?_
                          refine q_aload_n (show mE (mtv 263) 59 = some (.aload_n 0, 1, 0, 0) from rfl) (hl51 0 _ rfl) ?_
                          refine q_aload_n (show mE (mtv 263) 60 = some (.aload_n 0, 1, 0, 0) from rfl) (hl51 0 _ rfl) ?_
                          refine q_virtualE (show mE (mtv 263) 61 = some (.invokevirtual 169, 3, 217, 9) from rfl) (by decide) rfl rfl rfl (fun _ g => sp_217 t83 g) ?_
                          rintro _ ⟨v84, rfl, e85⟩
                          refine qK_v ?_
                          refine q_iconst (show mE (mtv 263) 64 = some (.iconst (-1), 1, 0, 0) from rfl) kI_m1 ?_
                          refine q_ic_ne (t := 93) (show mE (mtv 263) 65 = some (.if_icmp .ne 28, 3, 0, 0) from rfl) rfl (fun c86 => ?_) (fun c86 => ?_)
                          · refine q_iconst (show mE (mtv 263) 93 = some (.iconst 4, 1, 0, 0) from rfl) kI_4 ?_
                            refine q_goto (t := 111) (show mE (mtv 263) 94 = some (.goto 17, 3, 0, 0) from rfl) rfl ?_
                            refine q_putI t83 (show mE (mtv 263) 111 = some (.putfield 138, 3, 9, 42) from rfl) (by decide) rfl (fun h87 t88 => ?_)
                            refine q_aload_n (show mE (mtv 263) 114 = some (.aload_n 0, 1, 0, 0) from rfl) (hl51 0 _ rfl) ?_
                            refine q_getIe t88 (show mE (mtv 263) 115 = some (.getfield 138, 3, 9, 42) from rfl) (by decide) rfl (upI_s) ?_
                            refine q_iff (t := 123) (show mE (mtv 263) 118 = some (.ifCond .le 5, 3, 0, 0) from rfl) (by decide) rfl ?_
                            refine q_iconst (show mE (mtv 263) 121 = some (.iconst 0, 1, 0, 0) from rfl) kI_0 ?_
                            refine q_ireturn (show mE (mtv 263) 122 = some (.ireturn, 1, 0, 0) from rfl) ?_
                            exact ⟨(4 : Int32), (0 : Int32), _, _, _, rfl, rfl, t88, upI_s, (fun e => absurd e (by decide)), p3 c3 c14 c16 c33 c35 v40 j36 e39 c45 c46 c71 v78 j74 e77 c79 v84 e85 c86⟩
                          · refine q_aload_n (show mE (mtv 263) 68 = some (.aload_n 0, 1, 0, 0) from rfl) (hl51 0 _ rfl) ?_
                            refine q_iload (show mE (mtv 263) 69 = some (.iload 4, 2, 0, 0) from rfl) (hl51 4 _ rfl) ?_
                            refine q_iload_n (show mE (mtv 263) 71 = some (.iload_n 1, 1, 0, 0) from rfl) (hl51 1 _ rfl) ?_
                            refine q_virtualP (show mE (mtv 263) 72 = some (.invokevirtual 186, 3, 224, 9) from rfl) (by decide) rfl rfl rfl (fun _ g => sp_224 t83 g) ?_
                            refine q_ifb_eq (t := 93) (show mE (mtv 263) 75 = some (.ifCond .eq 18, 3, 0, 0) from rfl) rfl (fun c89 => ?_) (fun c89 => ?_)
                            · refine q_iconst (show mE (mtv 263) 93 = some (.iconst 4, 1, 0, 0) from rfl) kI_4 ?_
                              refine q_goto (t := 111) (show mE (mtv 263) 94 = some (.goto 17, 3, 0, 0) from rfl) rfl ?_
                              refine q_putI t83 (show mE (mtv 263) 111 = some (.putfield 138, 3, 9, 42) from rfl) (by decide) rfl (fun h90 t91 => ?_)
                              refine q_aload_n (show mE (mtv 263) 114 = some (.aload_n 0, 1, 0, 0) from rfl) (hl51 0 _ rfl) ?_
                              refine q_getIe t91 (show mE (mtv 263) 115 = some (.getfield 138, 3, 9, 42) from rfl) (by decide) rfl (upI_s) ?_
                              refine q_iff (t := 123) (show mE (mtv 263) 118 = some (.ifCond .le 5, 3, 0, 0) from rfl) (by decide) rfl ?_
                              refine q_iconst (show mE (mtv 263) 121 = some (.iconst 0, 1, 0, 0) from rfl) kI_0 ?_
                              refine q_ireturn (show mE (mtv 263) 122 = some (.ireturn, 1, 0, 0) from rfl) ?_
                              exact ⟨(4 : Int32), (0 : Int32), _, _, _, rfl, rfl, t91, upI_s, (fun e => absurd e (by decide)), p4 c3 c14 c16 c33 c35 v40 j36 e39 c45 c46 c71 v78 j74 e77 c79 v84 e85 c86 c89⟩
                            · refine q_aload_n (show mE (mtv 263) 78 = some (.aload_n 0, 1, 0, 0) from rfl) (hl51 0 _ rfl) ?_
                              refine q_getIe t83 (show mE (mtv 263) 79 = some (.getfield 141, 3, 9, 43) from rfl) (by decide) rfl (upI_n (Or.inr (by decide))) ?_
                              refine q_aload_n (show mE (mtv 263) 82 = some (.aload_n 0, 1, 0, 0) from rfl) (hl51 0 _ rfl) ?_
                              refine q_getR (m := 97) t83 (show mE (mtv 263) 83 = some (.getfield 44, 3, 9, 11) from rfl) (by decide) rfl rfl ?_
                              refine q_iload (show mE (mtv 263) 86 = some (.iload 4, 2, 0, 0) from rfl) (hl51 4 _ rfl) ?_
                              refine q_iaload (n := 10) t83 (show mE (mtv 263) 88 = some (.iaload, 1, 0, 0) from rfl) (by decide) rfl (fun bb92 => ?_)
                              have g93 : (upI j74 85 42 (0 : Int32)) 97 (a4).toNatClampNeg = j74 97 ((a4).toNatClampNeg) := upI_n (Or.inl (by decide))
                              rw [g93]; clear g93
                              refine q_iand (show mE (mtv 263) 89 = some (.iand, 1, 0, 0) from rfl) ?_
                              refine q_if_eq (t := 97) (show mE (mtv 263) 90 = some (.ifCond .eq 7, 3, 0, 0) from rfl) rfl (fun c94 => ?_) (fun c94 => ?_)
                              · refine q_aload_n (show mE (mtv 263) 97 = some (.aload_n 0, 1, 0, 0) from rfl) (hl51 0 _ rfl) ?_
                                refine q_getIe t83 (show mE (mtv 263) 98 = some (.getfield 117, 3, 9, 35) from rfl) (by decide) rfl (upI_n (Or.inr (by decide))) ?_
                                refine q_bipush (show mE (mtv 263) 101 = some (.bipush 16, 2, 0, 0) from rfl) kB_16 ?_
                                refine q_ic_ne (t := 110) (show mE (mtv 263) 103 = some (.if_icmp .ne 7, 3, 0, 0) from rfl) rfl (fun c95 => ?_) (fun c95 => ?_)
                                · refine q_iconst (show mE (mtv 263) 110 = some (.iconst 0, 1, 0, 0) from rfl) kI_0 ?_
                                  refine q_putI t83 (show mE (mtv 263) 111 = some (.putfield 138, 3, 9, 42) from rfl) (by decide) rfl (fun h96 t97 => ?_)
                                  refine q_aload_n (show mE (mtv 263) 114 = some (.aload_n 0, 1, 0, 0) from rfl) (hl51 0 _ rfl) ?_
                                  refine q_getIe t97 (show mE (mtv 263) 115 = some (.getfield 138, 3, 9, 42) from rfl) (by decide) rfl (upI_s) ?_
                                  refine q_ift (t := 123) (show mE (mtv 263) 118 = some (.ifCond .le 5, 3, 0, 0) from rfl) (by decide) rfl ?_
                                  refine q_aload_n (show mE (mtv 263) 123 = some (.aload_n 0, 1, 0, 0) from rfl) (hl51 0 _ rfl) ?_
                                  refine q_getR (m := 88) t97 (show mE (mtv 263) 124 = some (.getfield 16, 3, 9, 2) from rfl) (by decide) rfl rfl ?_
                                  refine q_iload_n (show mE (mtv 263) 127 = some (.iload_n 1, 1, 0, 0) from rfl) (hl51 1 _ rfl) ?_
                                  refine q_dup2 (show mE (mtv 263) 128 = some (.dup2, 1, 0, 0) from rfl) ?_
                                  refine q_iaload (n := 16) t97 (show mE (mtv 263) 129 = some (.iaload, 1, 0, 0) from rfl) (by decide) rfl (fun bb98 => ?_)
                                  have g99 : (upI (upI j74 85 42 (0 : Int32)) 85 42 (0 : Int32)) 88 (a1).toNatClampNeg = j74 88 ((a1).toNatClampNeg) := (upI_n (Or.inl (by decide))).trans (upI_n (Or.inl (by decide)))
                                  rw [g99]; clear g99
                                  refine q_iconst (show mE (mtv 263) 130 = some (.iconst 1, 1, 0, 0) from rfl) kI_1 ?_
                                  refine q_iload (show mE (mtv 263) 131 = some (.iload 4, 2, 0, 0) from rfl) (hl51 4 _ rfl) ?_
                                  refine q_ishl (show mE (mtv 263) 133 = some (.ishl, 1, 0, 0) from rfl) ?_
                                  refine q_ior (show mE (mtv 263) 134 = some (.ior, 1, 0, 0) from rfl) ?_
                                  refine q_iastore (n := 16) t97 (show mE (mtv 263) 135 = some (.iastore, 1, 0, 0) from rfl) (by decide) rfl (fun bb100 h101 t102 => ?_)
                                  refine q_aload_n (show mE (mtv 263) 136 = some (.aload_n 0, 1, 0, 0) from rfl) (hl51 0 _ rfl) ?_
                                  refine q_iconst (show mE (mtv 263) 137 = some (.iconst 1, 1, 0, 0) from rfl) kI_1 ?_
                                  refine q_iload (show mE (mtv 263) 138 = some (.iload 4, 2, 0, 0) from rfl) (hl51 4 _ rfl) ?_
                                  refine q_ishl (show mE (mtv 263) 140 = some (.ishl, 1, 0, 0) from rfl) ?_
                                  refine q_virtualE (show mE (mtv 263) 141 = some (.invokevirtual 172, 3, 218, 9) from rfl) (by decide) rfl rfl rfl (fun _ g => sp_218 t102 g) ?_
                                  rintro _ ⟨v107, j103, h104, rfl, t105, e106⟩
                                  refine qK_v ?_
                                  refine q_ireturn (show mE (mtv 263) 144 = some (.ireturn, 1, 0, 0) from rfl) ?_
                                  exact ⟨(4 : Int32), v107, _, _, _, rfl, rfl, t105, (p5 c3 c14 c16 c33 c35 v40 j36 e39 c45 c46 c71 v78 j74 e77 c79 v84 e85 c86 c89 bb92 c94 c95 bb98 v107 j103 e106).1, (fun e => absurd e (by decide)), (p5 c3 c14 c16 c33 c35 v40 j36 e39 c45 c46 c71 v78 j74 e77 c79 v84 e85 c86 c89 bb92 c94 c95 bb98 v107 j103 e106).2⟩
                                · refine q_iconst (show mE (mtv 263) 106 = some (.iconst 5, 1, 0, 0) from rfl) kI_5 ?_
                                  refine q_goto (t := 111) (show mE (mtv 263) 107 = some (.goto 4, 3, 0, 0) from rfl) rfl ?_
                                  refine q_putI t83 (show mE (mtv 263) 111 = some (.putfield 138, 3, 9, 42) from rfl) (by decide) rfl (fun h108 t109 => ?_)
                                  refine q_aload_n (show mE (mtv 263) 114 = some (.aload_n 0, 1, 0, 0) from rfl) (hl51 0 _ rfl) ?_
                                  refine q_getIe t109 (show mE (mtv 263) 115 = some (.getfield 138, 3, 9, 42) from rfl) (by decide) rfl (upI_s) ?_
                                  refine q_iff (t := 123) (show mE (mtv 263) 118 = some (.ifCond .le 5, 3, 0, 0) from rfl) (by decide) rfl ?_
                                  refine q_iconst (show mE (mtv 263) 121 = some (.iconst 0, 1, 0, 0) from rfl) kI_0 ?_
                                  refine q_ireturn (show mE (mtv 263) 122 = some (.ireturn, 1, 0, 0) from rfl) ?_
                                  exact (p6 c3 c14 c16 c33 c35 v40 j36 e39 c45 c46 c71 v78 j74 e77 c79 v84 e85 c86 c89 bb92 c94 c95).elim
                              · refine q_iconst (show mE (mtv 263) 93 = some (.iconst 4, 1, 0, 0) from rfl) kI_4 ?_
                                refine q_goto (t := 111) (show mE (mtv 263) 94 = some (.goto 17, 3, 0, 0) from rfl) rfl ?_
                                refine q_putI t83 (show mE (mtv 263) 111 = some (.putfield 138, 3, 9, 42) from rfl) (by decide) rfl (fun h110 t111 => ?_)
                                refine q_aload_n (show mE (mtv 263) 114 = some (.aload_n 0, 1, 0, 0) from rfl) (hl51 0 _ rfl) ?_
                                refine q_getIe t111 (show mE (mtv 263) 115 = some (.getfield 138, 3, 9, 42) from rfl) (by decide) rfl (upI_s) ?_
                                refine q_iff (t := 123) (show mE (mtv 263) 118 = some (.ifCond .le 5, 3, 0, 0) from rfl) (by decide) rfl ?_
                                refine q_iconst (show mE (mtv 263) 121 = some (.iconst 0, 1, 0, 0) from rfl) kI_0 ?_
                                refine q_ireturn (show mE (mtv 263) 122 = some (.ireturn, 1, 0, 0) from rfl) ?_
                                exact ⟨(4 : Int32), (0 : Int32), _, _, _, rfl, rfl, t111, upI_s, (fun e => absurd e (by decide)), p7 c3 c14 c16 c33 c35 v40 j36 e39 c45 c46 c71 v78 j74 e77 c79 v84 e85 c86 c89 bb92 c94⟩
                    · exact absurd c35 c69
                  · exfalso
                    have s63 := hK.bk
                    unfold inR at s63
                    have s64 := hK.bd
                    unfold inR at s64
                    have s65 := i32_sub1 (x := I 0 10) (by omega)
                    simp only [s65, Int32.lt_iff_toInt_lt, Int32.le_iff_toInt_le, ← Int32.toInt_inj, kt_0, kt_1] at c3 c14 c16 c33 c45 c62
                    first | omega | contradiction
              · refine q_aload_n (show mE (mtv 128) 40 = some (.aload_n 0, 1, 0, 0) from rfl) (hl43 0 _ rfl) ?_
                refine q_aload_n (show mE (mtv 128) 41 = some (.aload_n 0, 1, 0, 0) from rfl) (hl43 0 _ rfl) ?_
                refine q_getR (m := 13) t38 (show mE (mtv 128) 42 = some (.getfield 31, 3, 8, 3) from rfl) (by decide) rfl rfl ?_
                refine q_iload (show mE (mtv 128) 45 = some (.iload 4, 2, 0, 0) from rfl) (hl43 4 _ rfl) ?_
                refine q_aaloadD t38 (show mE (mtv 128) 47 = some (.aaload, 1, 0, 0) from rfl) (fun bb112 d113 d114 => ?_)
                refine q_iload_n (show mE (mtv 128) 48 = some (.iload_n 1, 1, 0, 0) from rfl) (hl43 1 _ rfl) ?_
                refine q_virtualP (show mE (mtv 128) 49 = some (.invokevirtual 179, 3, 28, 8) from rfl) (by decide) rfl rfl rfl (fun _ g => sp_28 t38 (Nat.lt_of_le_of_lt d114 (by decide)) g) ?_
                refine q_ifb_eq (t := 82) (show mE (mtv 128) 52 = some (.ifCond .eq 30, 3, 0, 0) from rfl) rfl (fun c115 => ?_) (fun c115 => ?_)
                · refine q_iconst (show mE (mtv 128) 82 = some (.iconst 0, 1, 0, 0) from rfl) kI_0 ?_
                  refine q_istore (show mE (mtv 128) 83 = some (.istore 7, 2, 0, 0) from rfl) (Nat.le_of_ble_eq_true rfl) hl43 (fun lv116 (hl117 : qLs lv116 [some (.ref (0)), some (.int (a1)), some (.int (a2)), some (.int (a3)), some (.int (a4)), some (.long (v40)), none, some (.int ((0 : Int32)))]) => ?_)
                  refine q_iload (show mE (mtv 128) 85 = some (.iload 7, 2, 0, 0) from rfl) (hl117 7 _ rfl) ?_
                  refine q_iff (t := 101) (show mE (mtv 128) 87 = some (.ifCond .ne 14, 3, 0, 0) from rfl) (by decide) rfl ?_
                  refine q_throw (show mE (mtv 128) 90 = some (.new 94, 3, 1003, 0) from rfl) (by decide) ?_
                  refine qKh_x (hp := 29) (c := (31, sDr 6 (lv_args 0 [.ref (0), .int (a1), .int (a2), .int (a3), .int (a4), .ref (117)]), [], h37)) rfl (by decide) (fun _ _ => rfl) ?_
                  refine q_iconst (show mE (mtv 127) 31 = some (.iconst 4, 1, 0, 0) from rfl) kI_4 ?_
                  refine q_ireturn (show mE (mtv 127) 32 = some (.ireturn, 1, 0, 0) from rfl) ?_
                  intro r118 g119
                  have g119 : qGo 263 [.ref (85), .int (a1), .int (a2), .int (a3), .int (a4)] h37 r118 := g119
                  refine qGo_w (Q := fun r2 => opE (.inl (some (.int ((4 : Int32))))) r2.1 r2.2 RK) g119 (fun _ => ?_)
                  have hl120 : qLs (lv_args 0 [.ref (85), .int (a1), .int (a2), .int (a3), .int (a4)]) [some (.ref (85)), some (.int (a1)), some (.int (a2)), some (.int (a3)), some (.int (a4))] := qLs_ar 0
                  refine q_aload_n (show mE (mtv 263) 0 = some (.aload_n 0, 1, 0, 0) from rfl) (hl120 0 _ rfl) ?_
                  refine q_aload_n (show mE (mtv 263) 1 = some (.aload_n 0, 1, 0, 0) from rfl) (hl120 0 _ rfl) ?_
                  refine q_iload_n (show mE (mtv 263) 2 = some (.iload_n 1, 1, 0, 0) from rfl) (hl120 1 _ rfl) ?_
                  refine q_virtualI (show mE (mtv 263) 3 = some (.invokevirtual 175, 3, 220, 9) from rfl) (by decide) rfl rfl rfl (fun _ => ?_)
                  have hl121 : qLs (lv_args 0 [.ref (85), .int (a1)]) [some (.ref (85)), some (.int (a1))] := qLs_ar 0
                  refine q_iload_n (show mE (mtv 220) 0 = some (.iload_n 1, 1, 0, 0) from rfl) (hl121 1 _ rfl) ?_
                  refine q_iconst (show mE (mtv 220) 1 = some (.iconst 0, 1, 0, 0) from rfl) kI_0 ?_
                  refine q_aload_n (show mE (mtv 220) 2 = some (.aload_n 0, 1, 0, 0) from rfl) (hl121 0 _ rfl) ?_
                  refine q_getI t38 (show mE (mtv 220) 3 = some (.getfield 117, 3, 9, 35) from rfl) (by decide) rfl ?_
                  have r122 : j36 85 35 = I 85 35 := sc85 ag41 (by decide)
                  rw [r122]; clear r122
                  have r123 : I 85 35 = I 0 9 := hK.nk.symm
                  rw [r123]; clear r123
                  refine q_iconst (show mE (mtv 220) 6 = some (.iconst 1, 1, 0, 0) from rfl) kI_1 ?_
                  refine q_isub (show mE (mtv 220) 7 = some (.isub, 1, 0, 0) from rfl) ?_
                  refine q_staticP (show mE (mtv 220) 8 = some (.invokestatic 157, 3, 211, 0) from rfl) (by decide) rfl rfl rfl (fun _ g => sp_211 g) ?_
                  refine q_ireturn (show mE (mtv 220) 11 = some (.ireturn, 1, 0, 0) from rfl) ?_
                  refine qK_v ?_
                  refine q_ifb_eq (t := 18) (show mE (mtv 263) 6 = some (.ifCond .eq 12, 3, 0, 0) from rfl) rfl (fun c124 => ?_) (fun c124 => ?_)
                  · exfalso
                    have s125 := hK.bk
                    unfold inR at s125
                    have s126 := i32_sub1 (x := I 0 9) (by omega)
                    have s127 := hK.bd
                    unfold inR at s127
                    simp only [s126, Int32.lt_iff_toInt_lt, Int32.le_iff_toInt_le, ← Int32.toInt_inj, kt_0, kt_1] at c3 c14 c16 c33 c45 c124
                    first | omega | contradiction
                  · clear c124
                    refine q_aload_n (show mE (mtv 263) 9 = some (.aload_n 0, 1, 0, 0) from rfl) (hl120 0 _ rfl) ?_
                    refine q_iload (show mE (mtv 263) 10 = some (.iload 4, 2, 0, 0) from rfl) (hl120 4 _ rfl) ?_
                    refine q_virtualI (show mE (mtv 263) 12 = some (.invokevirtual 183, 3, 223, 9) from rfl) (by decide) rfl rfl rfl (fun _ => ?_)
                    have hl128 : qLs (lv_args 0 [.ref (85), .int (a4)]) [some (.ref (85)), some (.int (a4))] := qLs_ar 0
                    refine q_iload_n (show mE (mtv 223) 0 = some (.iload_n 1, 1, 0, 0) from rfl) (hl128 1 _ rfl) ?_
                    refine q_iconst (show mE (mtv 223) 1 = some (.iconst 0, 1, 0, 0) from rfl) kI_0 ?_
                    refine q_aload_n (show mE (mtv 223) 2 = some (.aload_n 0, 1, 0, 0) from rfl) (hl128 0 _ rfl) ?_
                    refine q_getI t38 (show mE (mtv 223) 3 = some (.getfield 120, 3, 9, 36) from rfl) (by decide) rfl ?_
                    have r129 : j36 85 36 = I 85 36 := sc85 ag41 (by decide)
                    rw [r129]; clear r129
                    have r130 : I 85 36 = I 0 10 := hK.nd.symm
                    rw [r130]; clear r130
                    refine q_iconst (show mE (mtv 223) 6 = some (.iconst 1, 1, 0, 0) from rfl) kI_1 ?_
                    refine q_isub (show mE (mtv 223) 7 = some (.isub, 1, 0, 0) from rfl) ?_
                    refine q_staticP (show mE (mtv 223) 8 = some (.invokestatic 157, 3, 211, 0) from rfl) (by decide) rfl rfl rfl (fun _ g => sp_211 g) ?_
                    refine q_ireturn (show mE (mtv 223) 11 = some (.ireturn, 1, 0, 0) from rfl) ?_
                    refine qK_v ?_
                    refine q_ifb_ne (t := 22) (show mE (mtv 263) 15 = some (.ifCond .ne 7, 3, 0, 0) from rfl) rfl (fun c131 => ?_) (fun c131 => ?_)
                    · clear c131
                      refine q_aload_n (show mE (mtv 263) 22 = some (.aload_n 0, 1, 0, 0) from rfl) (hl120 0 _ rfl) ?_
                      refine q_iload_n (show mE (mtv 263) 23 = some (.iload_n 2, 1, 0, 0) from rfl) (hl120 2 _ rfl) ?_
                      refine q_virtualI (show mE (mtv 263) 24 = some (.invokevirtual 239, 3, 258, 9) from rfl) (by decide) rfl rfl rfl (fun _ => ?_)
                      have hl135 : qLs (lv_args 0 [.ref (85), .int (a2)]) [some (.ref (85)), some (.int (a2))] := qLs_ar 0
                      refine q_iload_n (show mE (mtv 258) 0 = some (.iload_n 1, 1, 0, 0) from rfl) (hl135 1 _ rfl) ?_
                      refine q_iconst (show mE (mtv 258) 1 = some (.iconst 0, 1, 0, 0) from rfl) kI_0 ?_
                      refine q_iconst (show mE (mtv 258) 2 = some (.iconst 1, 1, 0, 0) from rfl) kI_1 ?_
                      refine q_aload_n (show mE (mtv 258) 3 = some (.aload_n 0, 1, 0, 0) from rfl) (hl135 0 _ rfl) ?_
                      refine q_getI t38 (show mE (mtv 258) 4 = some (.getfield 104, 3, 9, 31) from rfl) (by decide) rfl ?_
                      have r136 : j36 85 31 = I 85 31 := sc85 ag41 (by decide)
                      rw [r136]; clear r136
                      have r137 : I 85 31 = I 1 1 := hK.ch.symm
                      rw [r137]; clear r137
                      refine q_ishl (show mE (mtv 258) 7 = some (.ishl, 1, 0, 0) from rfl) ?_
                      refine q_iconst (show mE (mtv 258) 8 = some (.iconst 1, 1, 0, 0) from rfl) kI_1 ?_
                      refine q_isub (show mE (mtv 258) 9 = some (.isub, 1, 0, 0) from rfl) ?_
                      refine q_staticP (show mE (mtv 258) 10 = some (.invokestatic 157, 3, 211, 0) from rfl) (by decide) rfl rfl rfl (fun _ g => sp_211 g) ?_
                      refine q_ireturn (show mE (mtv 258) 13 = some (.ireturn, 1, 0, 0) from rfl) ?_
                      refine qK_v ?_
                      refine q_ifb_ne (t := 34) (show mE (mtv 263) 27 = some (.ifCond .ne 7, 3, 0, 0) from rfl) rfl (fun c138 => ?_) (fun c138 => ?_)
                      · clear c138
                        refine q_aload_n (show mE (mtv 263) 34 = some (.aload_n 0, 1, 0, 0) from rfl) (hl120 0 _ rfl) ?_
                        refine q_iload_n (show mE (mtv 263) 35 = some (.iload_n 1, 1, 0, 0) from rfl) (hl120 1 _ rfl) ?_
                        refine q_iload_n (show mE (mtv 263) 36 = some (.iload_n 2, 1, 0, 0) from rfl) (hl120 2 _ rfl) ?_
                        refine q_iload_n (show mE (mtv 263) 37 = some (.iload_n 3, 1, 0, 0) from rfl) (hl120 3 _ rfl) ?_
                        refine q_virtualI (show mE (mtv 263) 38 = some (.invokevirtual 246, 3, 262, 9) from rfl) (by decide) rfl rfl rfl (fun _ => ?_)
                        have hl139 : qLs (lv_args 0 [.ref (85), .int (a1), .int (a2), .int (a3)]) [some (.ref (85)), some (.int (a1)), some (.int (a2)), some (.int (a3))] := qLs_ar 0
                        refine q_iload_n (show mE (mtv 262) 0 = some (.iload_n 3, 1, 0, 0) from rfl) (hl139 3 _ rfl) ?_
                        refine q_if_lt (t := 21) (show mE (mtv 262) 1 = some (.ifCond .lt 20, 3, 0, 0) from rfl) rfl (fun c140 => ?_) (fun c140 => ?_)
                        · refine q_iconst (show mE (mtv 262) 21 = some (.iconst 0, 1, 0, 0) from rfl) kI_0 ?_
                          refine q_ireturn (show mE (mtv 262) 22 = some (.ireturn, 1, 0, 0) from rfl) ?_
                          refine qK_v ?_
                          refine q_iff (t := 48) (show mE (mtv 263) 41 = some (.ifCond .ne 7, 3, 0, 0) from rfl) (by decide) rfl ?_
                          refine q_iconst (show mE (mtv 263) 44 = some (.iconst 3, 1, 0, 0) from rfl) kI_3 ?_
                          refine q_goto (t := 49) (show mE (mtv 263) 45 = some (.goto 4, 3, 0, 0) from rfl) rfl ?_
                          refine q_putI t38 (show mE (mtv 263) 49 = some (.putfield 138, 3, 9, 42) from rfl) (by decide) rfl (fun h141 t142 => ?_)
                          refine q_aload_n (show mE (mtv 263) 52 = some (.aload_n 0, 1, 0, 0) from rfl) (hl120 0 _ rfl) ?_
                          refine q_getIe t142 (show mE (mtv 263) 53 = some (.getfield 138, 3, 9, 42) from rfl) (by decide) rfl (upI_s) ?_
                          refine q_ift (t := 114) (show mE (mtv 263) 56 = some (.ifCond .ne 58, 3, 0, 0) from rfl) (by decide) rfl ?_
                          refine q_aload_n (show mE (mtv 263) 114 = some (.aload_n 0, 1, 0, 0) from rfl) (hl120 0 _ rfl) ?_
                          refine q_getIe t142 (show mE (mtv 263) 115 = some (.getfield 138, 3, 9, 42) from rfl) (by decide) rfl (upI_s) ?_
                          refine q_iff (t := 123) (show mE (mtv 263) 118 = some (.ifCond .le 5, 3, 0, 0) from rfl) (by decide) rfl ?_
                          refine q_iconst (show mE (mtv 263) 121 = some (.iconst 0, 1, 0, 0) from rfl) kI_0 ?_
                          refine q_ireturn (show mE (mtv 263) 122 = some (.ireturn, 1, 0, 0) from rfl) ?_
                          exact (p8 c3 c14 c16 c33 c35 v40 j36 e39 c45 c46 bb112 d113 d114 c115 c140).elim
                        · refine q_aload_n (show mE (mtv 262) 4 = some (.aload_n 0, 1, 0, 0) from rfl) (hl139 0 _ rfl) ?_
                          refine q_iload_n (show mE (mtv 262) 5 = some (.iload_n 1, 1, 0, 0) from rfl) (hl139 1 _ rfl) ?_
                          refine q_iload_n (show mE (mtv 262) 6 = some (.iload_n 2, 1, 0, 0) from rfl) (hl139 2 _ rfl) ?_
                          refine q_iload_n (show mE (mtv 262) 7 = some (.iload_n 3, 1, 0, 0) from rfl) (hl139 3 _ rfl) ?_
                          refine q_virtualE (show mE (mtv 262) 8 = some (.invokevirtual 242, 3, 259, 9) from rfl) (by decide) rfl rfl rfl (fun _ g => sp_259 t38 g) ?_
                          rintro _ ⟨v147, j143, h144, rfl, t145, e146⟩
                          refine qK_v ?_
                          refine q_iload_n (show mE (mtv 262) 11 = some (.iload_n 3, 1, 0, 0) from rfl) (hl139 3 _ rfl) ?_
                          refine q_iconst (show mE (mtv 262) 12 = some (.iconst 1, 1, 0, 0) from rfl) kI_1 ?_
                          refine q_iadd (show mE (mtv 262) 13 = some (.iadd, 1, 0, 0) from rfl) ?_
                          refine q_ic_ne (t := 21) (show mE (mtv 262) 14 = some (.if_icmp .ne 7, 3, 0, 0) from rfl) rfl (fun c148 => ?_) (fun c148 => ?_)
                          · refine q_iconst (show mE (mtv 262) 21 = some (.iconst 0, 1, 0, 0) from rfl) kI_0 ?_
                            refine q_ireturn (show mE (mtv 262) 22 = some (.ireturn, 1, 0, 0) from rfl) ?_
                            refine qK_v ?_
                            refine q_iff (t := 48) (show mE (mtv 263) 41 = some (.ifCond .ne 7, 3, 0, 0) from rfl) (by decide) rfl ?_
                            refine q_iconst (show mE (mtv 263) 44 = some (.iconst 3, 1, 0, 0) from rfl) kI_3 ?_
                            refine q_goto (t := 49) (show mE (mtv 263) 45 = some (.goto 4, 3, 0, 0) from rfl) rfl ?_
                            refine q_putI t145 (show mE (mtv 263) 49 = some (.putfield 138, 3, 9, 42) from rfl) (by decide) rfl (fun h149 t150 => ?_)
                            refine q_aload_n (show mE (mtv 263) 52 = some (.aload_n 0, 1, 0, 0) from rfl) (hl120 0 _ rfl) ?_
                            refine q_getIe t150 (show mE (mtv 263) 53 = some (.getfield 138, 3, 9, 42) from rfl) (by decide) rfl (upI_s) ?_
                            refine q_ift (t := 114) (show mE (mtv 263) 56 = some (.ifCond .ne 58, 3, 0, 0) from rfl) (by decide) rfl ?_
                            refine q_aload_n (show mE (mtv 263) 114 = some (.aload_n 0, 1, 0, 0) from rfl) (hl120 0 _ rfl) ?_
                            refine q_getIe t150 (show mE (mtv 263) 115 = some (.getfield 138, 3, 9, 42) from rfl) (by decide) rfl (upI_s) ?_
                            refine q_iff (t := 123) (show mE (mtv 263) 118 = some (.ifCond .le 5, 3, 0, 0) from rfl) (by decide) rfl ?_
                            refine q_iconst (show mE (mtv 263) 121 = some (.iconst 0, 1, 0, 0) from rfl) kI_0 ?_
                            refine q_ireturn (show mE (mtv 263) 122 = some (.ireturn, 1, 0, 0) from rfl) ?_
                            exact (p9 c3 c14 c16 c33 c35 v40 j36 e39 c45 c46 bb112 d113 d114 c115 c140 v147 j143 e146 c148).elim
                          · refine q_iconst (show mE (mtv 262) 17 = some (.iconst 1, 1, 0, 0) from rfl) kI_1 ?_
                            refine q_goto (t := 22) (show mE (mtv 262) 18 = some (.goto 4, 3, 0, 0) from rfl) rfl ?_
                            refine q_ireturn (show mE (mtv 262) 22 = some (.ireturn, 1, 0, 0) from rfl) ?_
                            refine qK_v ?_
                            refine q_ift (t := 48) (show mE (mtv 263) 41 = some (.ifCond .ne 7, 3, 0, 0) from rfl) (by decide) rfl ?_
                            refine q_iconst (show mE (mtv 263) 48 = some (.iconst 0, 1, 0, 0) from rfl) kI_0 ?_
                            refine q_putI t145 (show mE (mtv 263) 49 = some (.putfield 138, 3, 9, 42) from rfl) (by decide) rfl (fun h151 t152 => ?_)
                            refine q_aload_n (show mE (mtv 263) 52 = some (.aload_n 0, 1, 0, 0) from rfl) (hl120 0 _ rfl) ?_
                            refine q_getIe t152 (show mE (mtv 263) 53 = some (.getfield 138, 3, 9, 42) from rfl) (by decide) rfl (upI_s) ?_
                            refine q_iff (t := 114) (show mE (mtv 263) 56 = some (.ifCond .ne 58, 3, 0, 0) from rfl) (by decide) rfl ?_
                            refine q_aload_n (show mE (mtv 263) 59 = some (.aload_n 0, 1, 0, 0) from rfl) (hl120 0 _ rfl) ?_
                            refine q_aload_n (show mE (mtv 263) 60 = some (.aload_n 0, 1, 0, 0) from rfl) (hl120 0 _ rfl) ?_
                            refine q_virtualE (show mE (mtv 263) 61 = some (.invokevirtual 169, 3, 217, 9) from rfl) (by decide) rfl rfl rfl (fun _ g => sp_217 t152 g) ?_
                            rintro _ ⟨v153, rfl, e154⟩
                            refine qK_v ?_
                            refine q_iconst (show mE (mtv 263) 64 = some (.iconst (-1), 1, 0, 0) from rfl) kI_m1 ?_
                            refine q_ic_ne (t := 93) (show mE (mtv 263) 65 = some (.if_icmp .ne 28, 3, 0, 0) from rfl) rfl (fun c155 => ?_) (fun c155 => ?_)
                            · refine q_iconst (show mE (mtv 263) 93 = some (.iconst 4, 1, 0, 0) from rfl) kI_4 ?_
                              refine q_goto (t := 111) (show mE (mtv 263) 94 = some (.goto 17, 3, 0, 0) from rfl) rfl ?_
                              refine q_putI t152 (show mE (mtv 263) 111 = some (.putfield 138, 3, 9, 42) from rfl) (by decide) rfl (fun h156 t157 => ?_)
                              refine q_aload_n (show mE (mtv 263) 114 = some (.aload_n 0, 1, 0, 0) from rfl) (hl120 0 _ rfl) ?_
                              refine q_getIe t157 (show mE (mtv 263) 115 = some (.getfield 138, 3, 9, 42) from rfl) (by decide) rfl (upI_s) ?_
                              refine q_iff (t := 123) (show mE (mtv 263) 118 = some (.ifCond .le 5, 3, 0, 0) from rfl) (by decide) rfl ?_
                              refine q_iconst (show mE (mtv 263) 121 = some (.iconst 0, 1, 0, 0) from rfl) kI_0 ?_
                              refine q_ireturn (show mE (mtv 263) 122 = some (.ireturn, 1, 0, 0) from rfl) ?_
                              exact ⟨(4 : Int32), (0 : Int32), _, _, _, rfl, rfl, t157, upI_s, (fun e => absurd e (by decide)), p10 c3 c14 c16 c33 c35 v40 j36 e39 c45 c46 bb112 d113 d114 c115 c140 v147 j143 e146 c148 v153 e154 c155⟩
                            · refine q_aload_n (show mE (mtv 263) 68 = some (.aload_n 0, 1, 0, 0) from rfl) (hl120 0 _ rfl) ?_
                              refine q_iload (show mE (mtv 263) 69 = some (.iload 4, 2, 0, 0) from rfl) (hl120 4 _ rfl) ?_
                              refine q_iload_n (show mE (mtv 263) 71 = some (.iload_n 1, 1, 0, 0) from rfl) (hl120 1 _ rfl) ?_
                              refine q_virtualP (show mE (mtv 263) 72 = some (.invokevirtual 186, 3, 224, 9) from rfl) (by decide) rfl rfl rfl (fun _ g => sp_224 t152 g) ?_
                              refine q_ifb_eq (t := 93) (show mE (mtv 263) 75 = some (.ifCond .eq 18, 3, 0, 0) from rfl) rfl (fun c158 => ?_) (fun c158 => ?_)
                              · refine q_iconst (show mE (mtv 263) 93 = some (.iconst 4, 1, 0, 0) from rfl) kI_4 ?_
                                refine q_goto (t := 111) (show mE (mtv 263) 94 = some (.goto 17, 3, 0, 0) from rfl) rfl ?_
                                refine q_putI t152 (show mE (mtv 263) 111 = some (.putfield 138, 3, 9, 42) from rfl) (by decide) rfl (fun h159 t160 => ?_)
                                refine q_aload_n (show mE (mtv 263) 114 = some (.aload_n 0, 1, 0, 0) from rfl) (hl120 0 _ rfl) ?_
                                refine q_getIe t160 (show mE (mtv 263) 115 = some (.getfield 138, 3, 9, 42) from rfl) (by decide) rfl (upI_s) ?_
                                refine q_iff (t := 123) (show mE (mtv 263) 118 = some (.ifCond .le 5, 3, 0, 0) from rfl) (by decide) rfl ?_
                                refine q_iconst (show mE (mtv 263) 121 = some (.iconst 0, 1, 0, 0) from rfl) kI_0 ?_
                                refine q_ireturn (show mE (mtv 263) 122 = some (.ireturn, 1, 0, 0) from rfl) ?_
                                exact ⟨(4 : Int32), (0 : Int32), _, _, _, rfl, rfl, t160, upI_s, (fun e => absurd e (by decide)), p11 c3 c14 c16 c33 c35 v40 j36 e39 c45 c46 bb112 d113 d114 c115 c140 v147 j143 e146 c148 v153 e154 c155 c158⟩
                              · refine q_aload_n (show mE (mtv 263) 78 = some (.aload_n 0, 1, 0, 0) from rfl) (hl120 0 _ rfl) ?_
                                refine q_getIe t152 (show mE (mtv 263) 79 = some (.getfield 141, 3, 9, 43) from rfl) (by decide) rfl (upI_n (Or.inr (by decide))) ?_
                                refine q_aload_n (show mE (mtv 263) 82 = some (.aload_n 0, 1, 0, 0) from rfl) (hl120 0 _ rfl) ?_
                                refine q_getR (m := 97) t152 (show mE (mtv 263) 83 = some (.getfield 44, 3, 9, 11) from rfl) (by decide) rfl rfl ?_
                                refine q_iload (show mE (mtv 263) 86 = some (.iload 4, 2, 0, 0) from rfl) (hl120 4 _ rfl) ?_
                                refine q_iaload (n := 10) t152 (show mE (mtv 263) 88 = some (.iaload, 1, 0, 0) from rfl) (by decide) rfl (fun bb161 => ?_)
                                have g162 : (upI j143 85 42 (0 : Int32)) 97 (a4).toNatClampNeg = j143 97 ((a4).toNatClampNeg) := upI_n (Or.inl (by decide))
                                rw [g162]; clear g162
                                refine q_iand (show mE (mtv 263) 89 = some (.iand, 1, 0, 0) from rfl) ?_
                                refine q_if_eq (t := 97) (show mE (mtv 263) 90 = some (.ifCond .eq 7, 3, 0, 0) from rfl) rfl (fun c163 => ?_) (fun c163 => ?_)
                                · refine q_aload_n (show mE (mtv 263) 97 = some (.aload_n 0, 1, 0, 0) from rfl) (hl120 0 _ rfl) ?_
                                  refine q_getIe t152 (show mE (mtv 263) 98 = some (.getfield 117, 3, 9, 35) from rfl) (by decide) rfl (upI_n (Or.inr (by decide))) ?_
                                  refine q_bipush (show mE (mtv 263) 101 = some (.bipush 16, 2, 0, 0) from rfl) kB_16 ?_
                                  refine q_ic_ne (t := 110) (show mE (mtv 263) 103 = some (.if_icmp .ne 7, 3, 0, 0) from rfl) rfl (fun c164 => ?_) (fun c164 => ?_)
                                  · refine q_iconst (show mE (mtv 263) 110 = some (.iconst 0, 1, 0, 0) from rfl) kI_0 ?_
                                    refine q_putI t152 (show mE (mtv 263) 111 = some (.putfield 138, 3, 9, 42) from rfl) (by decide) rfl (fun h165 t166 => ?_)
                                    refine q_aload_n (show mE (mtv 263) 114 = some (.aload_n 0, 1, 0, 0) from rfl) (hl120 0 _ rfl) ?_
                                    refine q_getIe t166 (show mE (mtv 263) 115 = some (.getfield 138, 3, 9, 42) from rfl) (by decide) rfl (upI_s) ?_
                                    refine q_ift (t := 123) (show mE (mtv 263) 118 = some (.ifCond .le 5, 3, 0, 0) from rfl) (by decide) rfl ?_
                                    refine q_aload_n (show mE (mtv 263) 123 = some (.aload_n 0, 1, 0, 0) from rfl) (hl120 0 _ rfl) ?_
                                    refine q_getR (m := 88) t166 (show mE (mtv 263) 124 = some (.getfield 16, 3, 9, 2) from rfl) (by decide) rfl rfl ?_
                                    refine q_iload_n (show mE (mtv 263) 127 = some (.iload_n 1, 1, 0, 0) from rfl) (hl120 1 _ rfl) ?_
                                    refine q_dup2 (show mE (mtv 263) 128 = some (.dup2, 1, 0, 0) from rfl) ?_
                                    refine q_iaload (n := 16) t166 (show mE (mtv 263) 129 = some (.iaload, 1, 0, 0) from rfl) (by decide) rfl (fun bb167 => ?_)
                                    have g168 : (upI (upI j143 85 42 (0 : Int32)) 85 42 (0 : Int32)) 88 (a1).toNatClampNeg = j143 88 ((a1).toNatClampNeg) := (upI_n (Or.inl (by decide))).trans (upI_n (Or.inl (by decide)))
                                    rw [g168]; clear g168
                                    refine q_iconst (show mE (mtv 263) 130 = some (.iconst 1, 1, 0, 0) from rfl) kI_1 ?_
                                    refine q_iload (show mE (mtv 263) 131 = some (.iload 4, 2, 0, 0) from rfl) (hl120 4 _ rfl) ?_
                                    refine q_ishl (show mE (mtv 263) 133 = some (.ishl, 1, 0, 0) from rfl) ?_
                                    refine q_ior (show mE (mtv 263) 134 = some (.ior, 1, 0, 0) from rfl) ?_
                                    refine q_iastore (n := 16) t166 (show mE (mtv 263) 135 = some (.iastore, 1, 0, 0) from rfl) (by decide) rfl (fun bb169 h170 t171 => ?_)
                                    refine q_aload_n (show mE (mtv 263) 136 = some (.aload_n 0, 1, 0, 0) from rfl) (hl120 0 _ rfl) ?_
                                    refine q_iconst (show mE (mtv 263) 137 = some (.iconst 1, 1, 0, 0) from rfl) kI_1 ?_
                                    refine q_iload (show mE (mtv 263) 138 = some (.iload 4, 2, 0, 0) from rfl) (hl120 4 _ rfl) ?_
                                    refine q_ishl (show mE (mtv 263) 140 = some (.ishl, 1, 0, 0) from rfl) ?_
                                    refine q_virtualE (show mE (mtv 263) 141 = some (.invokevirtual 172, 3, 218, 9) from rfl) (by decide) rfl rfl rfl (fun _ g => sp_218 t171 g) ?_
                                    rintro _ ⟨v176, j172, h173, rfl, t174, e175⟩
                                    refine qK_v ?_
                                    refine q_ireturn (show mE (mtv 263) 144 = some (.ireturn, 1, 0, 0) from rfl) ?_
                                    exact ⟨(4 : Int32), v176, _, _, _, rfl, rfl, t174, (p12 c3 c14 c16 c33 c35 v40 j36 e39 c45 c46 bb112 d113 d114 c115 c140 v147 j143 e146 c148 v153 e154 c155 c158 c163 c164 bb167 v176 j172 e175).1, (fun e => absurd e (by decide)), (p12 c3 c14 c16 c33 c35 v40 j36 e39 c45 c46 bb112 d113 d114 c115 c140 v147 j143 e146 c148 v153 e154 c155 c158 c163 c164 bb167 v176 j172 e175).2⟩
                                  · refine q_iconst (show mE (mtv 263) 106 = some (.iconst 5, 1, 0, 0) from rfl) kI_5 ?_
                                    refine q_goto (t := 111) (show mE (mtv 263) 107 = some (.goto 4, 3, 0, 0) from rfl) rfl ?_
                                    refine q_putI t152 (show mE (mtv 263) 111 = some (.putfield 138, 3, 9, 42) from rfl) (by decide) rfl (fun h177 t178 => ?_)
                                    refine q_aload_n (show mE (mtv 263) 114 = some (.aload_n 0, 1, 0, 0) from rfl) (hl120 0 _ rfl) ?_
                                    refine q_getIe t178 (show mE (mtv 263) 115 = some (.getfield 138, 3, 9, 42) from rfl) (by decide) rfl (upI_s) ?_
                                    refine q_iff (t := 123) (show mE (mtv 263) 118 = some (.ifCond .le 5, 3, 0, 0) from rfl) (by decide) rfl ?_
                                    refine q_iconst (show mE (mtv 263) 121 = some (.iconst 0, 1, 0, 0) from rfl) kI_0 ?_
                                    refine q_ireturn (show mE (mtv 263) 122 = some (.ireturn, 1, 0, 0) from rfl) ?_
                                    exact (p13 c3 c14 c16 c33 c35 v40 j36 e39 c45 c46 bb112 d113 d114 c115 c140 v147 j143 e146 c148 v153 e154 c155 c158 c163 c164).elim
                                · refine q_iconst (show mE (mtv 263) 93 = some (.iconst 4, 1, 0, 0) from rfl) kI_4 ?_
                                  refine q_goto (t := 111) (show mE (mtv 263) 94 = some (.goto 17, 3, 0, 0) from rfl) rfl ?_
                                  refine q_putI t152 (show mE (mtv 263) 111 = some (.putfield 138, 3, 9, 42) from rfl) (by decide) rfl (fun h179 t180 => ?_)
                                  refine q_aload_n (show mE (mtv 263) 114 = some (.aload_n 0, 1, 0, 0) from rfl) (hl120 0 _ rfl) ?_
                                  refine q_getIe t180 (show mE (mtv 263) 115 = some (.getfield 138, 3, 9, 42) from rfl) (by decide) rfl (upI_s) ?_
                                  refine q_iff (t := 123) (show mE (mtv 263) 118 = some (.ifCond .le 5, 3, 0, 0) from rfl) (by decide) rfl ?_
                                  refine q_iconst (show mE (mtv 263) 121 = some (.iconst 0, 1, 0, 0) from rfl) kI_0 ?_
                                  refine q_ireturn (show mE (mtv 263) 122 = some (.ireturn, 1, 0, 0) from rfl) ?_
                                  exact ⟨(4 : Int32), (0 : Int32), _, _, _, rfl, rfl, t180, upI_s, (fun e => absurd e (by decide)), p14 c3 c14 c16 c33 c35 v40 j36 e39 c45 c46 bb112 d113 d114 c115 c140 v147 j143 e146 c148 v153 e154 c155 c158 c163⟩
                      · exact absurd c35 c138
                    · exfalso
                      have s132 := hK.bk
                      unfold inR at s132
                      have s133 := hK.bd
                      unfold inR at s133
                      have s134 := i32_sub1 (x := I 0 10) (by omega)
                      simp only [s134, Int32.lt_iff_toInt_lt, Int32.le_iff_toInt_le, ← Int32.toInt_inj, kt_0, kt_1] at c3 c14 c16 c33 c45 c131
                      first | omega | contradiction
                · refine q_aload_n (show mE (mtv 128) 55 = some (.aload_n 0, 1, 0, 0) from rfl) (hl43 0 _ rfl) ?_
                  refine q_getR (m := 1) t38 (show mE (mtv 128) 56 = some (.getfield 10, 3, 8, 0) from rfl) (by decide) rfl rfl ?_
                  refine q_getI t38 (show mE (mtv 128) 59 = some (.getfield 260, 3, 4, 4) from rfl) (by decide) rfl ?_
                  refine q_aload_n (show mE (mtv 128) 62 = some (.aload_n 0, 1, 0, 0) from rfl) (hl43 0 _ rfl) ?_
                  refine q_getR (m := 13) t38 (show mE (mtv 128) 63 = some (.getfield 31, 3, 8, 3) from rfl) (by decide) rfl rfl ?_
                  refine q_iload (show mE (mtv 128) 66 = some (.iload 4, 2, 0, 0) from rfl) (hl43 4 _ rfl) ?_
                  refine q_aaloadD t38 (show mE (mtv 128) 68 = some (.aaload, 1, 0, 0) from rfl) (fun bb181 d182 d183 => ?_)
                  refine q_getI t38 (show mE (mtv 128) 69 = some (.getfield 273, 3, 1, 0) from rfl) (Nat.lt_of_le_of_lt d183 (by decide)) rfl ?_
                  refine q_staticP (show mE (mtv 128) 72 = some (.invokestatic 306, 3, 18, 0) from rfl) (by decide) rfl rfl rfl (fun _ g => sp_18 g) ?_
                  refine q_ifb_eq (t := 82) (show mE (mtv 128) 75 = some (.ifCond .eq 7, 3, 0, 0) from rfl) rfl (fun c184 => ?_) (fun c184 => ?_)
                  · refine q_iconst (show mE (mtv 128) 82 = some (.iconst 0, 1, 0, 0) from rfl) kI_0 ?_
                    refine q_istore (show mE (mtv 128) 83 = some (.istore 7, 2, 0, 0) from rfl) (Nat.le_of_ble_eq_true rfl) hl43 (fun lv185 (hl186 : qLs lv185 [some (.ref (0)), some (.int (a1)), some (.int (a2)), some (.int (a3)), some (.int (a4)), some (.long (v40)), none, some (.int ((0 : Int32)))]) => ?_)
                    refine q_iload (show mE (mtv 128) 85 = some (.iload 7, 2, 0, 0) from rfl) (hl186 7 _ rfl) ?_
                    refine q_iff (t := 101) (show mE (mtv 128) 87 = some (.ifCond .ne 14, 3, 0, 0) from rfl) (by decide) rfl ?_
                    refine q_throw (show mE (mtv 128) 90 = some (.new 94, 3, 1003, 0) from rfl) (by decide) ?_
                    refine qKh_x (hp := 29) (c := (31, sDr 6 (lv_args 0 [.ref (0), .int (a1), .int (a2), .int (a3), .int (a4), .ref (117)]), [], h37)) rfl (by decide) (fun _ _ => rfl) ?_
                    refine q_iconst (show mE (mtv 127) 31 = some (.iconst 4, 1, 0, 0) from rfl) kI_4 ?_
                    refine q_ireturn (show mE (mtv 127) 32 = some (.ireturn, 1, 0, 0) from rfl) ?_
                    intro r187 g188
                    have g188 : qGo 263 [.ref (85), .int (a1), .int (a2), .int (a3), .int (a4)] h37 r187 := g188
                    refine qGo_w (Q := fun r2 => opE (.inl (some (.int ((4 : Int32))))) r2.1 r2.2 RK) g188 (fun _ => ?_)
                    have hl189 : qLs (lv_args 0 [.ref (85), .int (a1), .int (a2), .int (a3), .int (a4)]) [some (.ref (85)), some (.int (a1)), some (.int (a2)), some (.int (a3)), some (.int (a4))] := qLs_ar 0
                    refine q_aload_n (show mE (mtv 263) 0 = some (.aload_n 0, 1, 0, 0) from rfl) (hl189 0 _ rfl) ?_
                    refine q_aload_n (show mE (mtv 263) 1 = some (.aload_n 0, 1, 0, 0) from rfl) (hl189 0 _ rfl) ?_
                    refine q_iload_n (show mE (mtv 263) 2 = some (.iload_n 1, 1, 0, 0) from rfl) (hl189 1 _ rfl) ?_
                    refine q_virtualI (show mE (mtv 263) 3 = some (.invokevirtual 175, 3, 220, 9) from rfl) (by decide) rfl rfl rfl (fun _ => ?_)
                    have hl190 : qLs (lv_args 0 [.ref (85), .int (a1)]) [some (.ref (85)), some (.int (a1))] := qLs_ar 0
                    refine q_iload_n (show mE (mtv 220) 0 = some (.iload_n 1, 1, 0, 0) from rfl) (hl190 1 _ rfl) ?_
                    refine q_iconst (show mE (mtv 220) 1 = some (.iconst 0, 1, 0, 0) from rfl) kI_0 ?_
                    refine q_aload_n (show mE (mtv 220) 2 = some (.aload_n 0, 1, 0, 0) from rfl) (hl190 0 _ rfl) ?_
                    refine q_getI t38 (show mE (mtv 220) 3 = some (.getfield 117, 3, 9, 35) from rfl) (by decide) rfl ?_
                    have r191 : j36 85 35 = I 85 35 := sc85 ag41 (by decide)
                    rw [r191]; clear r191
                    have r192 : I 85 35 = I 0 9 := hK.nk.symm
                    rw [r192]; clear r192
                    refine q_iconst (show mE (mtv 220) 6 = some (.iconst 1, 1, 0, 0) from rfl) kI_1 ?_
                    refine q_isub (show mE (mtv 220) 7 = some (.isub, 1, 0, 0) from rfl) ?_
                    refine q_staticP (show mE (mtv 220) 8 = some (.invokestatic 157, 3, 211, 0) from rfl) (by decide) rfl rfl rfl (fun _ g => sp_211 g) ?_
                    refine q_ireturn (show mE (mtv 220) 11 = some (.ireturn, 1, 0, 0) from rfl) ?_
                    refine qK_v ?_
                    refine q_ifb_eq (t := 18) (show mE (mtv 263) 6 = some (.ifCond .eq 12, 3, 0, 0) from rfl) rfl (fun c193 => ?_) (fun c193 => ?_)
                    · exfalso
                      have s194 := hK.bk
                      unfold inR at s194
                      have s195 := i32_sub1 (x := I 0 9) (by omega)
                      have s196 := hK.bd
                      unfold inR at s196
                      simp only [s195, Int32.lt_iff_toInt_lt, Int32.le_iff_toInt_le, ← Int32.toInt_inj, kt_0, kt_1] at c3 c14 c16 c33 c45 c193
                      first | omega | contradiction
                    · clear c193
                      refine q_aload_n (show mE (mtv 263) 9 = some (.aload_n 0, 1, 0, 0) from rfl) (hl189 0 _ rfl) ?_
                      refine q_iload (show mE (mtv 263) 10 = some (.iload 4, 2, 0, 0) from rfl) (hl189 4 _ rfl) ?_
                      refine q_virtualI (show mE (mtv 263) 12 = some (.invokevirtual 183, 3, 223, 9) from rfl) (by decide) rfl rfl rfl (fun _ => ?_)
                      have hl197 : qLs (lv_args 0 [.ref (85), .int (a4)]) [some (.ref (85)), some (.int (a4))] := qLs_ar 0
                      refine q_iload_n (show mE (mtv 223) 0 = some (.iload_n 1, 1, 0, 0) from rfl) (hl197 1 _ rfl) ?_
                      refine q_iconst (show mE (mtv 223) 1 = some (.iconst 0, 1, 0, 0) from rfl) kI_0 ?_
                      refine q_aload_n (show mE (mtv 223) 2 = some (.aload_n 0, 1, 0, 0) from rfl) (hl197 0 _ rfl) ?_
                      refine q_getI t38 (show mE (mtv 223) 3 = some (.getfield 120, 3, 9, 36) from rfl) (by decide) rfl ?_
                      have r198 : j36 85 36 = I 85 36 := sc85 ag41 (by decide)
                      rw [r198]; clear r198
                      have r199 : I 85 36 = I 0 10 := hK.nd.symm
                      rw [r199]; clear r199
                      refine q_iconst (show mE (mtv 223) 6 = some (.iconst 1, 1, 0, 0) from rfl) kI_1 ?_
                      refine q_isub (show mE (mtv 223) 7 = some (.isub, 1, 0, 0) from rfl) ?_
                      refine q_staticP (show mE (mtv 223) 8 = some (.invokestatic 157, 3, 211, 0) from rfl) (by decide) rfl rfl rfl (fun _ g => sp_211 g) ?_
                      refine q_ireturn (show mE (mtv 223) 11 = some (.ireturn, 1, 0, 0) from rfl) ?_
                      refine qK_v ?_
                      refine q_ifb_ne (t := 22) (show mE (mtv 263) 15 = some (.ifCond .ne 7, 3, 0, 0) from rfl) rfl (fun c200 => ?_) (fun c200 => ?_)
                      · clear c200
                        refine q_aload_n (show mE (mtv 263) 22 = some (.aload_n 0, 1, 0, 0) from rfl) (hl189 0 _ rfl) ?_
                        refine q_iload_n (show mE (mtv 263) 23 = some (.iload_n 2, 1, 0, 0) from rfl) (hl189 2 _ rfl) ?_
                        refine q_virtualI (show mE (mtv 263) 24 = some (.invokevirtual 239, 3, 258, 9) from rfl) (by decide) rfl rfl rfl (fun _ => ?_)
                        have hl204 : qLs (lv_args 0 [.ref (85), .int (a2)]) [some (.ref (85)), some (.int (a2))] := qLs_ar 0
                        refine q_iload_n (show mE (mtv 258) 0 = some (.iload_n 1, 1, 0, 0) from rfl) (hl204 1 _ rfl) ?_
                        refine q_iconst (show mE (mtv 258) 1 = some (.iconst 0, 1, 0, 0) from rfl) kI_0 ?_
                        refine q_iconst (show mE (mtv 258) 2 = some (.iconst 1, 1, 0, 0) from rfl) kI_1 ?_
                        refine q_aload_n (show mE (mtv 258) 3 = some (.aload_n 0, 1, 0, 0) from rfl) (hl204 0 _ rfl) ?_
                        refine q_getI t38 (show mE (mtv 258) 4 = some (.getfield 104, 3, 9, 31) from rfl) (by decide) rfl ?_
                        have r205 : j36 85 31 = I 85 31 := sc85 ag41 (by decide)
                        rw [r205]; clear r205
                        have r206 : I 85 31 = I 1 1 := hK.ch.symm
                        rw [r206]; clear r206
                        refine q_ishl (show mE (mtv 258) 7 = some (.ishl, 1, 0, 0) from rfl) ?_
                        refine q_iconst (show mE (mtv 258) 8 = some (.iconst 1, 1, 0, 0) from rfl) kI_1 ?_
                        refine q_isub (show mE (mtv 258) 9 = some (.isub, 1, 0, 0) from rfl) ?_
                        refine q_staticP (show mE (mtv 258) 10 = some (.invokestatic 157, 3, 211, 0) from rfl) (by decide) rfl rfl rfl (fun _ g => sp_211 g) ?_
                        refine q_ireturn (show mE (mtv 258) 13 = some (.ireturn, 1, 0, 0) from rfl) ?_
                        refine qK_v ?_
                        refine q_ifb_ne (t := 34) (show mE (mtv 263) 27 = some (.ifCond .ne 7, 3, 0, 0) from rfl) rfl (fun c207 => ?_) (fun c207 => ?_)
                        · clear c207
                          refine q_aload_n (show mE (mtv 263) 34 = some (.aload_n 0, 1, 0, 0) from rfl) (hl189 0 _ rfl) ?_
                          refine q_iload_n (show mE (mtv 263) 35 = some (.iload_n 1, 1, 0, 0) from rfl) (hl189 1 _ rfl) ?_
                          refine q_iload_n (show mE (mtv 263) 36 = some (.iload_n 2, 1, 0, 0) from rfl) (hl189 2 _ rfl) ?_
                          refine q_iload_n (show mE (mtv 263) 37 = some (.iload_n 3, 1, 0, 0) from rfl) (hl189 3 _ rfl) ?_
                          refine q_virtualI (show mE (mtv 263) 38 = some (.invokevirtual 246, 3, 262, 9) from rfl) (by decide) rfl rfl rfl (fun _ => ?_)
                          have hl208 : qLs (lv_args 0 [.ref (85), .int (a1), .int (a2), .int (a3)]) [some (.ref (85)), some (.int (a1)), some (.int (a2)), some (.int (a3))] := qLs_ar 0
                          refine q_iload_n (show mE (mtv 262) 0 = some (.iload_n 3, 1, 0, 0) from rfl) (hl208 3 _ rfl) ?_
                          refine q_if_lt (t := 21) (show mE (mtv 262) 1 = some (.ifCond .lt 20, 3, 0, 0) from rfl) rfl (fun c209 => ?_) (fun c209 => ?_)
                          · refine q_iconst (show mE (mtv 262) 21 = some (.iconst 0, 1, 0, 0) from rfl) kI_0 ?_
                            refine q_ireturn (show mE (mtv 262) 22 = some (.ireturn, 1, 0, 0) from rfl) ?_
                            refine qK_v ?_
                            refine q_iff (t := 48) (show mE (mtv 263) 41 = some (.ifCond .ne 7, 3, 0, 0) from rfl) (by decide) rfl ?_
                            refine q_iconst (show mE (mtv 263) 44 = some (.iconst 3, 1, 0, 0) from rfl) kI_3 ?_
                            refine q_goto (t := 49) (show mE (mtv 263) 45 = some (.goto 4, 3, 0, 0) from rfl) rfl ?_
                            refine q_putI t38 (show mE (mtv 263) 49 = some (.putfield 138, 3, 9, 42) from rfl) (by decide) rfl (fun h210 t211 => ?_)
                            refine q_aload_n (show mE (mtv 263) 52 = some (.aload_n 0, 1, 0, 0) from rfl) (hl189 0 _ rfl) ?_
                            refine q_getIe t211 (show mE (mtv 263) 53 = some (.getfield 138, 3, 9, 42) from rfl) (by decide) rfl (upI_s) ?_
                            refine q_ift (t := 114) (show mE (mtv 263) 56 = some (.ifCond .ne 58, 3, 0, 0) from rfl) (by decide) rfl ?_
                            refine q_aload_n (show mE (mtv 263) 114 = some (.aload_n 0, 1, 0, 0) from rfl) (hl189 0 _ rfl) ?_
                            refine q_getIe t211 (show mE (mtv 263) 115 = some (.getfield 138, 3, 9, 42) from rfl) (by decide) rfl (upI_s) ?_
                            refine q_iff (t := 123) (show mE (mtv 263) 118 = some (.ifCond .le 5, 3, 0, 0) from rfl) (by decide) rfl ?_
                            refine q_iconst (show mE (mtv 263) 121 = some (.iconst 0, 1, 0, 0) from rfl) kI_0 ?_
                            refine q_ireturn (show mE (mtv 263) 122 = some (.ireturn, 1, 0, 0) from rfl) ?_
                            exact (p15 c3 c14 c16 c33 c35 v40 j36 e39 c45 c46 bb112 d113 d114 c115 c184 c209).elim
                          · refine q_aload_n (show mE (mtv 262) 4 = some (.aload_n 0, 1, 0, 0) from rfl) (hl208 0 _ rfl) ?_
                            refine q_iload_n (show mE (mtv 262) 5 = some (.iload_n 1, 1, 0, 0) from rfl) (hl208 1 _ rfl) ?_
                            refine q_iload_n (show mE (mtv 262) 6 = some (.iload_n 2, 1, 0, 0) from rfl) (hl208 2 _ rfl) ?_
                            refine q_iload_n (show mE (mtv 262) 7 = some (.iload_n 3, 1, 0, 0) from rfl) (hl208 3 _ rfl) ?_
                            refine q_virtualE (show mE (mtv 262) 8 = some (.invokevirtual 242, 3, 259, 9) from rfl) (by decide) rfl rfl rfl (fun _ g => sp_259 t38 g) ?_
                            rintro _ ⟨v216, j212, h213, rfl, t214, e215⟩
                            refine qK_v ?_
                            refine q_iload_n (show mE (mtv 262) 11 = some (.iload_n 3, 1, 0, 0) from rfl) (hl208 3 _ rfl) ?_
                            refine q_iconst (show mE (mtv 262) 12 = some (.iconst 1, 1, 0, 0) from rfl) kI_1 ?_
                            refine q_iadd (show mE (mtv 262) 13 = some (.iadd, 1, 0, 0) from rfl) ?_
                            refine q_ic_ne (t := 21) (show mE (mtv 262) 14 = some (.if_icmp .ne 7, 3, 0, 0) from rfl) rfl (fun c217 => ?_) (fun c217 => ?_)
                            · refine q_iconst (show mE (mtv 262) 21 = some (.iconst 0, 1, 0, 0) from rfl) kI_0 ?_
                              refine q_ireturn (show mE (mtv 262) 22 = some (.ireturn, 1, 0, 0) from rfl) ?_
                              refine qK_v ?_
                              refine q_iff (t := 48) (show mE (mtv 263) 41 = some (.ifCond .ne 7, 3, 0, 0) from rfl) (by decide) rfl ?_
                              refine q_iconst (show mE (mtv 263) 44 = some (.iconst 3, 1, 0, 0) from rfl) kI_3 ?_
                              refine q_goto (t := 49) (show mE (mtv 263) 45 = some (.goto 4, 3, 0, 0) from rfl) rfl ?_
                              refine q_putI t214 (show mE (mtv 263) 49 = some (.putfield 138, 3, 9, 42) from rfl) (by decide) rfl (fun h218 t219 => ?_)
                              refine q_aload_n (show mE (mtv 263) 52 = some (.aload_n 0, 1, 0, 0) from rfl) (hl189 0 _ rfl) ?_
                              refine q_getIe t219 (show mE (mtv 263) 53 = some (.getfield 138, 3, 9, 42) from rfl) (by decide) rfl (upI_s) ?_
                              refine q_ift (t := 114) (show mE (mtv 263) 56 = some (.ifCond .ne 58, 3, 0, 0) from rfl) (by decide) rfl ?_
                              refine q_aload_n (show mE (mtv 263) 114 = some (.aload_n 0, 1, 0, 0) from rfl) (hl189 0 _ rfl) ?_
                              refine q_getIe t219 (show mE (mtv 263) 115 = some (.getfield 138, 3, 9, 42) from rfl) (by decide) rfl (upI_s) ?_
                              refine q_iff (t := 123) (show mE (mtv 263) 118 = some (.ifCond .le 5, 3, 0, 0) from rfl) (by decide) rfl ?_
                              refine q_iconst (show mE (mtv 263) 121 = some (.iconst 0, 1, 0, 0) from rfl) kI_0 ?_
                              refine q_ireturn (show mE (mtv 263) 122 = some (.ireturn, 1, 0, 0) from rfl) ?_
                              exact (p16 c3 c14 c16 c33 c35 v40 j36 e39 c45 c46 bb112 d113 d114 c115 c184 c209 v216 j212 e215 c217).elim
                            · refine q_iconst (show mE (mtv 262) 17 = some (.iconst 1, 1, 0, 0) from rfl) kI_1 ?_
                              refine q_goto (t := 22) (show mE (mtv 262) 18 = some (.goto 4, 3, 0, 0) from rfl) rfl ?_
                              refine q_ireturn (show mE (mtv 262) 22 = some (.ireturn, 1, 0, 0) from rfl) ?_
                              refine qK_v ?_
                              refine q_ift (t := 48) (show mE (mtv 263) 41 = some (.ifCond .ne 7, 3, 0, 0) from rfl) (by decide) rfl ?_
                              refine q_iconst (show mE (mtv 263) 48 = some (.iconst 0, 1, 0, 0) from rfl) kI_0 ?_
                              refine q_putI t214 (show mE (mtv 263) 49 = some (.putfield 138, 3, 9, 42) from rfl) (by decide) rfl (fun h220 t221 => ?_)
                              refine q_aload_n (show mE (mtv 263) 52 = some (.aload_n 0, 1, 0, 0) from rfl) (hl189 0 _ rfl) ?_
                              refine q_getIe t221 (show mE (mtv 263) 53 = some (.getfield 138, 3, 9, 42) from rfl) (by decide) rfl (upI_s) ?_
                              refine q_iff (t := 114) (show mE (mtv 263) 56 = some (.ifCond .ne 58, 3, 0, 0) from rfl) (by decide) rfl ?_
                              refine q_aload_n (show mE (mtv 263) 59 = some (.aload_n 0, 1, 0, 0) from rfl) (hl189 0 _ rfl) ?_
                              refine q_aload_n (show mE (mtv 263) 60 = some (.aload_n 0, 1, 0, 0) from rfl) (hl189 0 _ rfl) ?_
                              refine q_virtualE (show mE (mtv 263) 61 = some (.invokevirtual 169, 3, 217, 9) from rfl) (by decide) rfl rfl rfl (fun _ g => sp_217 t221 g) ?_
                              rintro _ ⟨v222, rfl, e223⟩
                              refine qK_v ?_
                              refine q_iconst (show mE (mtv 263) 64 = some (.iconst (-1), 1, 0, 0) from rfl) kI_m1 ?_
                              refine q_ic_ne (t := 93) (show mE (mtv 263) 65 = some (.if_icmp .ne 28, 3, 0, 0) from rfl) rfl (fun c224 => ?_) (fun c224 => ?_)
                              · refine q_iconst (show mE (mtv 263) 93 = some (.iconst 4, 1, 0, 0) from rfl) kI_4 ?_
                                refine q_goto (t := 111) (show mE (mtv 263) 94 = some (.goto 17, 3, 0, 0) from rfl) rfl ?_
                                refine q_putI t221 (show mE (mtv 263) 111 = some (.putfield 138, 3, 9, 42) from rfl) (by decide) rfl (fun h225 t226 => ?_)
                                refine q_aload_n (show mE (mtv 263) 114 = some (.aload_n 0, 1, 0, 0) from rfl) (hl189 0 _ rfl) ?_
                                refine q_getIe t226 (show mE (mtv 263) 115 = some (.getfield 138, 3, 9, 42) from rfl) (by decide) rfl (upI_s) ?_
                                refine q_iff (t := 123) (show mE (mtv 263) 118 = some (.ifCond .le 5, 3, 0, 0) from rfl) (by decide) rfl ?_
                                refine q_iconst (show mE (mtv 263) 121 = some (.iconst 0, 1, 0, 0) from rfl) kI_0 ?_
                                refine q_ireturn (show mE (mtv 263) 122 = some (.ireturn, 1, 0, 0) from rfl) ?_
                                exact ⟨(4 : Int32), (0 : Int32), _, _, _, rfl, rfl, t226, upI_s, (fun e => absurd e (by decide)), p17 c3 c14 c16 c33 c35 v40 j36 e39 c45 c46 bb112 d113 d114 c115 c184 c209 v216 j212 e215 c217 v222 e223 c224⟩
                              · refine q_aload_n (show mE (mtv 263) 68 = some (.aload_n 0, 1, 0, 0) from rfl) (hl189 0 _ rfl) ?_
                                refine q_iload (show mE (mtv 263) 69 = some (.iload 4, 2, 0, 0) from rfl) (hl189 4 _ rfl) ?_
                                refine q_iload_n (show mE (mtv 263) 71 = some (.iload_n 1, 1, 0, 0) from rfl) (hl189 1 _ rfl) ?_
                                refine q_virtualP (show mE (mtv 263) 72 = some (.invokevirtual 186, 3, 224, 9) from rfl) (by decide) rfl rfl rfl (fun _ g => sp_224 t221 g) ?_
                                refine q_ifb_eq (t := 93) (show mE (mtv 263) 75 = some (.ifCond .eq 18, 3, 0, 0) from rfl) rfl (fun c227 => ?_) (fun c227 => ?_)
                                · refine q_iconst (show mE (mtv 263) 93 = some (.iconst 4, 1, 0, 0) from rfl) kI_4 ?_
                                  refine q_goto (t := 111) (show mE (mtv 263) 94 = some (.goto 17, 3, 0, 0) from rfl) rfl ?_
                                  refine q_putI t221 (show mE (mtv 263) 111 = some (.putfield 138, 3, 9, 42) from rfl) (by decide) rfl (fun h228 t229 => ?_)
                                  refine q_aload_n (show mE (mtv 263) 114 = some (.aload_n 0, 1, 0, 0) from rfl) (hl189 0 _ rfl) ?_
                                  refine q_getIe t229 (show mE (mtv 263) 115 = some (.getfield 138, 3, 9, 42) from rfl) (by decide) rfl (upI_s) ?_
                                  refine q_iff (t := 123) (show mE (mtv 263) 118 = some (.ifCond .le 5, 3, 0, 0) from rfl) (by decide) rfl ?_
                                  refine q_iconst (show mE (mtv 263) 121 = some (.iconst 0, 1, 0, 0) from rfl) kI_0 ?_
                                  refine q_ireturn (show mE (mtv 263) 122 = some (.ireturn, 1, 0, 0) from rfl) ?_
                                  exact ⟨(4 : Int32), (0 : Int32), _, _, _, rfl, rfl, t229, upI_s, (fun e => absurd e (by decide)), p18 c3 c14 c16 c33 c35 v40 j36 e39 c45 c46 bb112 d113 d114 c115 c184 c209 v216 j212 e215 c217 v222 e223 c224 c227⟩
                                · refine q_aload_n (show mE (mtv 263) 78 = some (.aload_n 0, 1, 0, 0) from rfl) (hl189 0 _ rfl) ?_
                                  refine q_getIe t221 (show mE (mtv 263) 79 = some (.getfield 141, 3, 9, 43) from rfl) (by decide) rfl (upI_n (Or.inr (by decide))) ?_
                                  refine q_aload_n (show mE (mtv 263) 82 = some (.aload_n 0, 1, 0, 0) from rfl) (hl189 0 _ rfl) ?_
                                  refine q_getR (m := 97) t221 (show mE (mtv 263) 83 = some (.getfield 44, 3, 9, 11) from rfl) (by decide) rfl rfl ?_
                                  refine q_iload (show mE (mtv 263) 86 = some (.iload 4, 2, 0, 0) from rfl) (hl189 4 _ rfl) ?_
                                  refine q_iaload (n := 10) t221 (show mE (mtv 263) 88 = some (.iaload, 1, 0, 0) from rfl) (by decide) rfl (fun bb230 => ?_)
                                  have g231 : (upI j212 85 42 (0 : Int32)) 97 (a4).toNatClampNeg = j212 97 ((a4).toNatClampNeg) := upI_n (Or.inl (by decide))
                                  rw [g231]; clear g231
                                  refine q_iand (show mE (mtv 263) 89 = some (.iand, 1, 0, 0) from rfl) ?_
                                  refine q_if_eq (t := 97) (show mE (mtv 263) 90 = some (.ifCond .eq 7, 3, 0, 0) from rfl) rfl (fun c232 => ?_) (fun c232 => ?_)
                                  · refine q_aload_n (show mE (mtv 263) 97 = some (.aload_n 0, 1, 0, 0) from rfl) (hl189 0 _ rfl) ?_
                                    refine q_getIe t221 (show mE (mtv 263) 98 = some (.getfield 117, 3, 9, 35) from rfl) (by decide) rfl (upI_n (Or.inr (by decide))) ?_
                                    refine q_bipush (show mE (mtv 263) 101 = some (.bipush 16, 2, 0, 0) from rfl) kB_16 ?_
                                    refine q_ic_ne (t := 110) (show mE (mtv 263) 103 = some (.if_icmp .ne 7, 3, 0, 0) from rfl) rfl (fun c233 => ?_) (fun c233 => ?_)
                                    · refine q_iconst (show mE (mtv 263) 110 = some (.iconst 0, 1, 0, 0) from rfl) kI_0 ?_
                                      refine q_putI t221 (show mE (mtv 263) 111 = some (.putfield 138, 3, 9, 42) from rfl) (by decide) rfl (fun h234 t235 => ?_)
                                      refine q_aload_n (show mE (mtv 263) 114 = some (.aload_n 0, 1, 0, 0) from rfl) (hl189 0 _ rfl) ?_
                                      refine q_getIe t235 (show mE (mtv 263) 115 = some (.getfield 138, 3, 9, 42) from rfl) (by decide) rfl (upI_s) ?_
                                      refine q_ift (t := 123) (show mE (mtv 263) 118 = some (.ifCond .le 5, 3, 0, 0) from rfl) (by decide) rfl ?_
                                      refine q_aload_n (show mE (mtv 263) 123 = some (.aload_n 0, 1, 0, 0) from rfl) (hl189 0 _ rfl) ?_
                                      refine q_getR (m := 88) t235 (show mE (mtv 263) 124 = some (.getfield 16, 3, 9, 2) from rfl) (by decide) rfl rfl ?_
                                      refine q_iload_n (show mE (mtv 263) 127 = some (.iload_n 1, 1, 0, 0) from rfl) (hl189 1 _ rfl) ?_
                                      refine q_dup2 (show mE (mtv 263) 128 = some (.dup2, 1, 0, 0) from rfl) ?_
                                      refine q_iaload (n := 16) t235 (show mE (mtv 263) 129 = some (.iaload, 1, 0, 0) from rfl) (by decide) rfl (fun bb236 => ?_)
                                      have g237 : (upI (upI j212 85 42 (0 : Int32)) 85 42 (0 : Int32)) 88 (a1).toNatClampNeg = j212 88 ((a1).toNatClampNeg) := (upI_n (Or.inl (by decide))).trans (upI_n (Or.inl (by decide)))
                                      rw [g237]; clear g237
                                      refine q_iconst (show mE (mtv 263) 130 = some (.iconst 1, 1, 0, 0) from rfl) kI_1 ?_
                                      refine q_iload (show mE (mtv 263) 131 = some (.iload 4, 2, 0, 0) from rfl) (hl189 4 _ rfl) ?_
                                      refine q_ishl (show mE (mtv 263) 133 = some (.ishl, 1, 0, 0) from rfl) ?_
                                      refine q_ior (show mE (mtv 263) 134 = some (.ior, 1, 0, 0) from rfl) ?_
                                      refine q_iastore (n := 16) t235 (show mE (mtv 263) 135 = some (.iastore, 1, 0, 0) from rfl) (by decide) rfl (fun bb238 h239 t240 => ?_)
                                      refine q_aload_n (show mE (mtv 263) 136 = some (.aload_n 0, 1, 0, 0) from rfl) (hl189 0 _ rfl) ?_
                                      refine q_iconst (show mE (mtv 263) 137 = some (.iconst 1, 1, 0, 0) from rfl) kI_1 ?_
                                      refine q_iload (show mE (mtv 263) 138 = some (.iload 4, 2, 0, 0) from rfl) (hl189 4 _ rfl) ?_
                                      refine q_ishl (show mE (mtv 263) 140 = some (.ishl, 1, 0, 0) from rfl) ?_
                                      refine q_virtualE (show mE (mtv 263) 141 = some (.invokevirtual 172, 3, 218, 9) from rfl) (by decide) rfl rfl rfl (fun _ g => sp_218 t240 g) ?_
                                      rintro _ ⟨v245, j241, h242, rfl, t243, e244⟩
                                      refine qK_v ?_
                                      refine q_ireturn (show mE (mtv 263) 144 = some (.ireturn, 1, 0, 0) from rfl) ?_
                                      exact ⟨(4 : Int32), v245, _, _, _, rfl, rfl, t243, (p19 c3 c14 c16 c33 c35 v40 j36 e39 c45 c46 bb112 d113 d114 c115 c184 c209 v216 j212 e215 c217 v222 e223 c224 c227 c232 c233 bb236 v245 j241 e244).1, (fun e => absurd e (by decide)), (p19 c3 c14 c16 c33 c35 v40 j36 e39 c45 c46 bb112 d113 d114 c115 c184 c209 v216 j212 e215 c217 v222 e223 c224 c227 c232 c233 bb236 v245 j241 e244).2⟩
                                    · refine q_iconst (show mE (mtv 263) 106 = some (.iconst 5, 1, 0, 0) from rfl) kI_5 ?_
                                      refine q_goto (t := 111) (show mE (mtv 263) 107 = some (.goto 4, 3, 0, 0) from rfl) rfl ?_
                                      refine q_putI t221 (show mE (mtv 263) 111 = some (.putfield 138, 3, 9, 42) from rfl) (by decide) rfl (fun h246 t247 => ?_)
                                      refine q_aload_n (show mE (mtv 263) 114 = some (.aload_n 0, 1, 0, 0) from rfl) (hl189 0 _ rfl) ?_
                                      refine q_getIe t247 (show mE (mtv 263) 115 = some (.getfield 138, 3, 9, 42) from rfl) (by decide) rfl (upI_s) ?_
                                      refine q_iff (t := 123) (show mE (mtv 263) 118 = some (.ifCond .le 5, 3, 0, 0) from rfl) (by decide) rfl ?_
                                      refine q_iconst (show mE (mtv 263) 121 = some (.iconst 0, 1, 0, 0) from rfl) kI_0 ?_
                                      refine q_ireturn (show mE (mtv 263) 122 = some (.ireturn, 1, 0, 0) from rfl) ?_
                                      exact (p20 c3 c14 c16 c33 c35 v40 j36 e39 c45 c46 bb112 d113 d114 c115 c184 c209 v216 j212 e215 c217 v222 e223 c224 c227 c232 c233).elim
                                  · refine q_iconst (show mE (mtv 263) 93 = some (.iconst 4, 1, 0, 0) from rfl) kI_4 ?_
                                    refine q_goto (t := 111) (show mE (mtv 263) 94 = some (.goto 17, 3, 0, 0) from rfl) rfl ?_
                                    refine q_putI t221 (show mE (mtv 263) 111 = some (.putfield 138, 3, 9, 42) from rfl) (by decide) rfl (fun h248 t249 => ?_)
                                    refine q_aload_n (show mE (mtv 263) 114 = some (.aload_n 0, 1, 0, 0) from rfl) (hl189 0 _ rfl) ?_
                                    refine q_getIe t249 (show mE (mtv 263) 115 = some (.getfield 138, 3, 9, 42) from rfl) (by decide) rfl (upI_s) ?_
                                    refine q_iff (t := 123) (show mE (mtv 263) 118 = some (.ifCond .le 5, 3, 0, 0) from rfl) (by decide) rfl ?_
                                    refine q_iconst (show mE (mtv 263) 121 = some (.iconst 0, 1, 0, 0) from rfl) kI_0 ?_
                                    refine q_ireturn (show mE (mtv 263) 122 = some (.ireturn, 1, 0, 0) from rfl) ?_
                                    exact ⟨(4 : Int32), (0 : Int32), _, _, _, rfl, rfl, t249, upI_s, (fun e => absurd e (by decide)), p21 c3 c14 c16 c33 c35 v40 j36 e39 c45 c46 bb112 d113 d114 c115 c184 c209 v216 j212 e215 c217 v222 e223 c224 c227 c232⟩
                        · exact absurd c35 c207
                      · exfalso
                        have s201 := hK.bk
                        unfold inR at s201
                        have s202 := hK.bd
                        unfold inR at s202
                        have s203 := i32_sub1 (x := I 0 10) (by omega)
                        simp only [s203, Int32.lt_iff_toInt_lt, Int32.le_iff_toInt_le, ← Int32.toInt_inj, kt_0, kt_1] at c3 c14 c16 c33 c45 c200
                        first | omega | contradiction
                  · refine q_iconst (show mE (mtv 128) 78 = some (.iconst 1, 1, 0, 0) from rfl) kI_1 ?_
                    refine q_goto (t := 83) (show mE (mtv 128) 79 = some (.goto 4, 3, 0, 0) from rfl) rfl ?_
                    refine q_istore (show mE (mtv 128) 83 = some (.istore 7, 2, 0, 0) from rfl) (Nat.le_of_ble_eq_true rfl) hl43 (fun lv250 (hl251 : qLs lv250 [some (.ref (0)), some (.int (a1)), some (.int (a2)), some (.int (a3)), some (.int (a4)), some (.long (v40)), none, some (.int ((1 : Int32)))]) => ?_)
                    refine q_iload (show mE (mtv 128) 85 = some (.iload 7, 2, 0, 0) from rfl) (hl251 7 _ rfl) ?_
                    refine q_ift (t := 101) (show mE (mtv 128) 87 = some (.ifCond .ne 14, 3, 0, 0) from rfl) (by decide) rfl ?_
                    refine q_aload_n (show mE (mtv 128) 101 = some (.aload_n 0, 1, 0, 0) from rfl) (hl251 0 _ rfl) ?_
                    refine q_virtualI (show mE (mtv 128) 102 = some (.invokevirtual 151, 3, 57, 8) from rfl) (by decide) rfl rfl rfl (fun _ => ?_)
                    have hl252 : qLs (lv_args 0 [.ref (0)]) [some (.ref (0))] := qLs_ar 0
                    refine q_aload_n (show mE (mtv 57) 0 = some (.aload_n 0, 1, 0, 0) from rfl) (hl252 0 _ rfl) ?_
                    refine q_getI t38 (show mE (mtv 57) 1 = some (.getfield 88, 3, 8, 9) from rfl) (by decide) rfl ?_
                    refine q_bipush (show mE (mtv 57) 4 = some (.bipush 16, 2, 0, 0) from rfl) kB_16 ?_
                    refine q_ic_lt (t := 20) (show mE (mtv 57) 6 = some (.if_icmp .lt 14, 3, 0, 0) from rfl) rfl (fun c253 => ?_) (fun c253 => ?_)
                    · refine q_return_ (show mE (mtv 57) 20 = some (.return_, 1, 0, 0) from rfl) ?_
                      refine qK_n ?_
                      refine q_aload_n (show mE (mtv 128) 105 = some (.aload_n 0, 1, 0, 0) from rfl) (hl251 0 _ rfl) ?_
                      refine q_getR (m := 13) t38 (show mE (mtv 128) 106 = some (.getfield 31, 3, 8, 3) from rfl) (by decide) rfl rfl ?_
                      refine q_iload (show mE (mtv 128) 109 = some (.iload 4, 2, 0, 0) from rfl) (hl251 4 _ rfl) ?_
                      refine q_aaloadD t38 (show mE (mtv 128) 111 = some (.aaload, 1, 0, 0) from rfl) (fun bb254 d255 d256 => ?_)
                      refine q_aload_n (show mE (mtv 128) 112 = some (.aload_n 0, 1, 0, 0) from rfl) (hl251 0 _ rfl) ?_
                      refine q_getR (m := 13) t38 (show mE (mtv 128) 113 = some (.getfield 31, 3, 8, 3) from rfl) (by decide) rfl rfl ?_
                      refine q_iload (show mE (mtv 128) 116 = some (.iload 4, 2, 0, 0) from rfl) (hl251 4 _ rfl) ?_
                      refine q_aaloadD t38 (show mE (mtv 128) 118 = some (.aaload, 1, 0, 0) from rfl) (fun bb257 d258 d259 => ?_)
                      refine q_getI t38 (show mE (mtv 128) 119 = some (.getfield 185, 3, 1, 1) from rfl) (Nat.lt_of_le_of_lt d259 (by decide)) rfl ?_
                      refine q_iload_n (show mE (mtv 128) 122 = some (.iload_n 1, 1, 0, 0) from rfl) (hl251 1 _ rfl) ?_
                      refine q_iconst (show mE (mtv 128) 123 = some (.iconst 1, 1, 0, 0) from rfl) kI_1 ?_
                      refine q_staticP (show mE (mtv 128) 124 = some (.invokestatic 188, 3, 29, 0) from rfl) (by decide) rfl rfl rfl (fun _ g => sp_29 g) ?_
                      refine q_putI t38 (show mE (mtv 128) 127 = some (.putfield 185, 3, 1, 1) from rfl) (Nat.lt_of_le_of_lt d256 (by decide)) rfl (fun h260 t261 => ?_)
                      refine q_aload_n (show mE (mtv 128) 130 = some (.aload_n 0, 1, 0, 0) from rfl) (hl251 0 _ rfl) ?_
                      refine q_lload (show mE (mtv 128) 131 = some (.lload 5, 2, 0, 0) from rfl) (hl251 5 _ rfl) ?_
                      refine q_iconst (show mE (mtv 128) 133 = some (.iconst 1, 1, 0, 0) from rfl) kI_1 ?_
                      refine q_iload (show mE (mtv 128) 134 = some (.iload 4, 2, 0, 0) from rfl) (hl251 4 _ rfl) ?_
                      refine q_ishl (show mE (mtv 128) 136 = some (.ishl, 1, 0, 0) from rfl) ?_
                      refine q_virtualI (show mE (mtv 128) 137 = some (.invokevirtual 235, 3, 97, 8) from rfl) (by decide) rfl rfl rfl (fun _ => ?_)
                      have hl262 : qLs (lv_args 0 [.ref (0), .long (v40), .int ((1 : Int32) <<< (a4 &&& 31))]) [some (.ref (0)), some (.long (v40)), none, some (.int ((1 : Int32) <<< (a4 &&& 31))), none] := qLs_ar 1
                      refine q_aload_n (show mE (mtv 97) 0 = some (.aload_n 0, 1, 0, 0) from rfl) (hl262 0 _ rfl) ?_
                      refine q_lload_n (show mE (mtv 97) 1 = some (.lload_n 1, 1, 0, 0) from rfl) (hl262 1 _ rfl) ?_
                      refine q_virtualI (show mE (mtv 97) 2 = some (.invokevirtual 154, 3, 58, 8) from rfl) (by decide) rfl rfl rfl (fun _ => ?_)
                      have hl263 : qLs (lv_args 0 [.ref (0), .long (v40)]) [some (.ref (0)), some (.long (v40)), none, none] := qLs_ar 1
                      refine q_aload_n (show mE (mtv 58) 0 = some (.aload_n 0, 1, 0, 0) from rfl) (hl263 0 _ rfl) ?_
                      refine q_getIe t261 (show mE (mtv 58) 1 = some (.getfield 88, 3, 8, 9) from rfl) (by decide) rfl (upI_n (Or.inr (by decide))) ?_
                      refine q_istore_n (show mE (mtv 58) 4 = some (.istore_n 3, 1, 0, 0) from rfl) (Nat.le_of_ble_eq_true rfl) hl263 (fun lv264 (hl265 : qLs lv264 [some (.ref (0)), some (.long (v40)), none, some (.int (j36 0 9))]) => ?_)
                      refine q_aload_n (show mE (mtv 58) 5 = some (.aload_n 0, 1, 0, 0) from rfl) (hl265 0 _ rfl) ?_
                      refine q_getR (m := 12) t261 (show mE (mtv 58) 6 = some (.getfield 25, 3, 8, 2) from rfl) (by decide) rfl rfl ?_
                      refine q_iload_n (show mE (mtv 58) 9 = some (.iload_n 3, 1, 0, 0) from rfl) (hl265 3 _ rfl) ?_
                      refine q_aaload (n := 16) (t := 4) (m := 19) t261 (show mE (mtv 58) 10 = some (.aaload, 1, 0, 0) from rfl) (by decide) rfl (fun _ _ => rfl) (fun bb266 => ?_)
                      refine q_lload_n (show mE (mtv 58) 11 = some (.lload_n 1, 1, 0, 0) from rfl) (hl265 1 _ rfl) ?_
                      refine q_putL t261 (show mE (mtv 58) 12 = some (.putfield 165, 3, 3, 0) from rfl) (qB bb266 (by decide)) rfl (fun h267 t268 => ?_)
                      refine q_aload_n (show mE (mtv 58) 15 = some (.aload_n 0, 1, 0, 0) from rfl) (hl265 0 _ rfl) ?_
                      refine q_getR (m := 12) t268 (show mE (mtv 58) 16 = some (.getfield 25, 3, 8, 2) from rfl) (by decide) rfl rfl ?_
                      refine q_iload_n (show mE (mtv 58) 19 = some (.iload_n 3, 1, 0, 0) from rfl) (hl265 3 _ rfl) ?_
                      refine q_aaload (n := 16) (t := 4) (m := 19) t268 (show mE (mtv 58) 20 = some (.aaload, 1, 0, 0) from rfl) (by decide) rfl (fun _ _ => rfl) (fun bb269 => ?_)
                      refine q_aload_n (show mE (mtv 58) 21 = some (.aload_n 0, 1, 0, 0) from rfl) (hl265 0 _ rfl) ?_
                      refine q_getR (m := 1) t268 (show mE (mtv 58) 22 = some (.getfield 10, 3, 8, 0) from rfl) (by decide) rfl rfl ?_
                      refine q_getIe t268 (show mE (mtv 58) 25 = some (.getfield 260, 3, 4, 4) from rfl) (by decide) rfl (upI_n (Or.inr (by decide))) ?_
                      refine q_putI t268 (show mE (mtv 58) 28 = some (.putfield 263, 3, 3, 1) from rfl) (qB bb269 (by decide)) rfl (fun h270 t271 => ?_)
                      refine q_aload_n (show mE (mtv 58) 31 = some (.aload_n 0, 1, 0, 0) from rfl) (hl265 0 _ rfl) ?_
                      refine q_getR (m := 12) t271 (show mE (mtv 58) 32 = some (.getfield 25, 3, 8, 2) from rfl) (by decide) rfl rfl ?_
                      refine q_iload_n (show mE (mtv 58) 35 = some (.iload_n 3, 1, 0, 0) from rfl) (hl265 3 _ rfl) ?_
                      refine q_aaload (n := 16) (t := 4) (m := 19) t271 (show mE (mtv 58) 36 = some (.aaload, 1, 0, 0) from rfl) (by decide) rfl (fun _ _ => rfl) (fun bb272 => ?_)
                      refine q_iconst (show mE (mtv 58) 37 = some (.iconst 1, 1, 0, 0) from rfl) kI_1 ?_
                      refine q_iload_n (show mE (mtv 58) 38 = some (.iload_n 3, 1, 0, 0) from rfl) (hl265 3 _ rfl) ?_
                      refine q_ishl (show mE (mtv 58) 39 = some (.ishl, 1, 0, 0) from rfl) ?_
                      refine q_putI t271 (show mE (mtv 58) 40 = some (.putfield 372, 3, 3, 3) from rfl) (qB bb272 (by decide)) rfl (fun h273 t274 => ?_)
                      refine q_aload_n (show mE (mtv 58) 43 = some (.aload_n 0, 1, 0, 0) from rfl) (hl265 0 _ rfl) ?_
                      refine q_iload_n (show mE (mtv 58) 44 = some (.iload_n 3, 1, 0, 0) from rfl) (hl265 3 _ rfl) ?_
                      refine q_iconst (show mE (mtv 58) 45 = some (.iconst 1, 1, 0, 0) from rfl) kI_1 ?_
                      refine q_iadd (show mE (mtv 58) 46 = some (.iadd, 1, 0, 0) from rfl) ?_
                      refine q_putI t274 (show mE (mtv 58) 47 = some (.putfield 88, 3, 8, 9) from rfl) (by decide) rfl (fun h275 t276 => ?_)
                      refine q_iload_n (show mE (mtv 58) 50 = some (.iload_n 3, 1, 0, 0) from rfl) (hl265 3 _ rfl) ?_
                      refine q_ireturn (show mE (mtv 58) 51 = some (.ireturn, 1, 0, 0) from rfl) ?_
                      refine qK_v ?_
                      refine q_istore (show mE (mtv 97) 5 = some (.istore 4, 2, 0, 0) from rfl) (Nat.le_of_ble_eq_true rfl) hl262 (fun lv277 (hl278 : qLs lv277 [some (.ref (0)), some (.long (v40)), none, some (.int ((1 : Int32) <<< (a4 &&& 31))), some (.int (j36 0 9))]) => ?_)
                      refine q_aload_n (show mE (mtv 97) 7 = some (.aload_n 0, 1, 0, 0) from rfl) (hl278 0 _ rfl) ?_
                      refine q_iload_n (show mE (mtv 97) 8 = some (.iload_n 3, 1, 0, 0) from rfl) (hl278 3 _ rfl) ?_
                      refine q_iload (show mE (mtv 97) 9 = some (.iload 4, 2, 0, 0) from rfl) (hl278 4 _ rfl) ?_
                      refine q_iconst (show mE (mtv 97) 11 = some (.iconst 1, 1, 0, 0) from rfl) kI_1 ?_
                      refine q_virtualE (show mE (mtv 97) 12 = some (.invokevirtual 254, 3, 98, 8) from rfl) (by decide) rfl rfl rfl (fun _ g => sp_98 t276 g) ?_
                      rintro _ ⟨j279, h280, rfl, t281, e282⟩
                      refine qK_n ?_
                      refine q_iload (show mE (mtv 97) 15 = some (.iload 4, 2, 0, 0) from rfl) (hl278 4 _ rfl) ?_
                      refine q_ireturn (show mE (mtv 97) 17 = some (.ireturn, 1, 0, 0) from rfl) ?_
                      refine qK_v ?_
                      refine q_ireturn (show mE (mtv 128) 140 = some (.ireturn, 1, 0, 0) from rfl) ?_
                      refine qKh_v ?_
                      refine q_i2l (show mE (mtv 127) 12 = some (.i2l, 1, 0, 0) from rfl) ?_
                      refine q_lastore (n := 1) t281 (show mE (mtv 127) 13 = some (.lastore, 1, 0, 0) from rfl) (by decide) rfl (fun bb283 h284 t285 => ?_)
                      refine q_goto (t := 37) (show mE (mtv 127) 14 = some (.goto 23, 3, 0, 0) from rfl) rfl ?_
                      refine q_iconst (show mE (mtv 127) 37 = some (.iconst 0, 1, 0, 0) from rfl) kI_0 ?_
                      refine q_ireturn (show mE (mtv 127) 38 = some (.ireturn, 1, 0, 0) from rfl) ?_
                      intro r286 g287
                      have g287 : qGo 263 [.ref (85), .int (a1), .int (a2), .int (a3), .int (a4)] h284 r286 := g287
                      refine qGo_w (Q := fun r2 => opE (.inl (some (.int ((0 : Int32))))) r2.1 r2.2 RK) g287 (fun _ => ?_)
                      have hl288 : qLs (lv_args 0 [.ref (85), .int (a1), .int (a2), .int (a3), .int (a4)]) [some (.ref (85)), some (.int (a1)), some (.int (a2)), some (.int (a3)), some (.int (a4))] := qLs_ar 0
                      refine q_aload_n (show mE (mtv 263) 0 = some (.aload_n 0, 1, 0, 0) from rfl) (hl288 0 _ rfl) ?_
                      refine q_aload_n (show mE (mtv 263) 1 = some (.aload_n 0, 1, 0, 0) from rfl) (hl288 0 _ rfl) ?_
                      refine q_iload_n (show mE (mtv 263) 2 = some (.iload_n 1, 1, 0, 0) from rfl) (hl288 1 _ rfl) ?_
                      refine q_virtualI (show mE (mtv 263) 3 = some (.invokevirtual 175, 3, 220, 9) from rfl) (by decide) rfl rfl rfl (fun _ => ?_)
                      have hl289 : qLs (lv_args 0 [.ref (85), .int (a1)]) [some (.ref (85)), some (.int (a1))] := qLs_ar 0
                      refine q_iload_n (show mE (mtv 220) 0 = some (.iload_n 1, 1, 0, 0) from rfl) (hl289 1 _ rfl) ?_
                      refine q_iconst (show mE (mtv 220) 1 = some (.iconst 0, 1, 0, 0) from rfl) kI_0 ?_
                      refine q_aload_n (show mE (mtv 220) 2 = some (.aload_n 0, 1, 0, 0) from rfl) (hl289 0 _ rfl) ?_
                      refine q_getI t285 (show mE (mtv 220) 3 = some (.getfield 117, 3, 9, 35) from rfl) (by decide) rfl ?_
                      refine q_iconst (show mE (mtv 220) 6 = some (.iconst 1, 1, 0, 0) from rfl) kI_1 ?_
                      refine q_isub (show mE (mtv 220) 7 = some (.isub, 1, 0, 0) from rfl) ?_
                      refine q_staticP (show mE (mtv 220) 8 = some (.invokestatic 157, 3, 211, 0) from rfl) (by decide) rfl rfl rfl (fun _ g => sp_211 g) ?_
                      refine q_ireturn (show mE (mtv 220) 11 = some (.ireturn, 1, 0, 0) from rfl) ?_
                      refine qK_v ?_
                      refine q_ifb_eq (t := 18) (show mE (mtv 263) 6 = some (.ifCond .eq 12, 3, 0, 0) from rfl) rfl (fun c290 => ?_) (fun c290 => ?_)
                      · refine q_iconst (show mE (mtv 263) 18 = some (.iconst 1, 1, 0, 0) from rfl) kI_1 ?_
                        refine q_goto (t := 49) (show mE (mtv 263) 19 = some (.goto 30, 3, 0, 0) from rfl) rfl ?_
                        refine q_putI t285 (show mE (mtv 263) 49 = some (.putfield 138, 3, 9, 42) from rfl) (by decide) rfl (fun h291 t292 => ?_)
                        refine q_aload_n (show mE (mtv 263) 52 = some (.aload_n 0, 1, 0, 0) from rfl) (hl288 0 _ rfl) ?_
                        refine q_getIe t292 (show mE (mtv 263) 53 = some (.getfield 138, 3, 9, 42) from rfl) (by decide) rfl (upI_s) ?_
                        refine q_ift (t := 114) (show mE (mtv 263) 56 = some (.ifCond .ne 58, 3, 0, 0) from rfl) (by decide) rfl ?_
                        refine q_aload_n (show mE (mtv 263) 114 = some (.aload_n 0, 1, 0, 0) from rfl) (hl288 0 _ rfl) ?_
                        refine q_getIe t292 (show mE (mtv 263) 115 = some (.getfield 138, 3, 9, 42) from rfl) (by decide) rfl (upI_s) ?_
                        refine q_iff (t := 123) (show mE (mtv 263) 118 = some (.ifCond .le 5, 3, 0, 0) from rfl) (by decide) rfl ?_
                        refine q_iconst (show mE (mtv 263) 121 = some (.iconst 0, 1, 0, 0) from rfl) kI_0 ?_
                        refine q_ireturn (show mE (mtv 263) 122 = some (.ireturn, 1, 0, 0) from rfl) ?_
                        exact (p22 c3 c14 c16 c33 c35 v40 j36 e39 c45 c46 bb112 d113 d114 c115 c184 c253 bb266 j279 e282 bb283 c290).elim
                      · refine q_aload_n (show mE (mtv 263) 9 = some (.aload_n 0, 1, 0, 0) from rfl) (hl288 0 _ rfl) ?_
                        refine q_iload (show mE (mtv 263) 10 = some (.iload 4, 2, 0, 0) from rfl) (hl288 4 _ rfl) ?_
                        refine q_virtualI (show mE (mtv 263) 12 = some (.invokevirtual 183, 3, 223, 9) from rfl) (by decide) rfl rfl rfl (fun _ => ?_)
                        have hl293 : qLs (lv_args 0 [.ref (85), .int (a4)]) [some (.ref (85)), some (.int (a4))] := qLs_ar 0
                        refine q_iload_n (show mE (mtv 223) 0 = some (.iload_n 1, 1, 0, 0) from rfl) (hl293 1 _ rfl) ?_
                        refine q_iconst (show mE (mtv 223) 1 = some (.iconst 0, 1, 0, 0) from rfl) kI_0 ?_
                        refine q_aload_n (show mE (mtv 223) 2 = some (.aload_n 0, 1, 0, 0) from rfl) (hl293 0 _ rfl) ?_
                        refine q_getI t285 (show mE (mtv 223) 3 = some (.getfield 120, 3, 9, 36) from rfl) (by decide) rfl ?_
                        refine q_iconst (show mE (mtv 223) 6 = some (.iconst 1, 1, 0, 0) from rfl) kI_1 ?_
                        refine q_isub (show mE (mtv 223) 7 = some (.isub, 1, 0, 0) from rfl) ?_
                        refine q_staticP (show mE (mtv 223) 8 = some (.invokestatic 157, 3, 211, 0) from rfl) (by decide) rfl rfl rfl (fun _ g => sp_211 g) ?_
                        refine q_ireturn (show mE (mtv 223) 11 = some (.ireturn, 1, 0, 0) from rfl) ?_
                        refine qK_v ?_
                        refine q_ifb_ne (t := 22) (show mE (mtv 263) 15 = some (.ifCond .ne 7, 3, 0, 0) from rfl) rfl (fun c294 => ?_) (fun c294 => ?_)
                        · refine q_aload_n (show mE (mtv 263) 22 = some (.aload_n 0, 1, 0, 0) from rfl) (hl288 0 _ rfl) ?_
                          refine q_iload_n (show mE (mtv 263) 23 = some (.iload_n 2, 1, 0, 0) from rfl) (hl288 2 _ rfl) ?_
                          refine q_virtualI (show mE (mtv 263) 24 = some (.invokevirtual 239, 3, 258, 9) from rfl) (by decide) rfl rfl rfl (fun _ => ?_)
                          have hl295 : qLs (lv_args 0 [.ref (85), .int (a2)]) [some (.ref (85)), some (.int (a2))] := qLs_ar 0
                          refine q_iload_n (show mE (mtv 258) 0 = some (.iload_n 1, 1, 0, 0) from rfl) (hl295 1 _ rfl) ?_
                          refine q_iconst (show mE (mtv 258) 1 = some (.iconst 0, 1, 0, 0) from rfl) kI_0 ?_
                          refine q_iconst (show mE (mtv 258) 2 = some (.iconst 1, 1, 0, 0) from rfl) kI_1 ?_
                          refine q_aload_n (show mE (mtv 258) 3 = some (.aload_n 0, 1, 0, 0) from rfl) (hl295 0 _ rfl) ?_
                          refine q_getI t285 (show mE (mtv 258) 4 = some (.getfield 104, 3, 9, 31) from rfl) (by decide) rfl ?_
                          refine q_ishl (show mE (mtv 258) 7 = some (.ishl, 1, 0, 0) from rfl) ?_
                          refine q_iconst (show mE (mtv 258) 8 = some (.iconst 1, 1, 0, 0) from rfl) kI_1 ?_
                          refine q_isub (show mE (mtv 258) 9 = some (.isub, 1, 0, 0) from rfl) ?_
                          refine q_staticP (show mE (mtv 258) 10 = some (.invokestatic 157, 3, 211, 0) from rfl) (by decide) rfl rfl rfl (fun _ g => sp_211 g) ?_
                          refine q_ireturn (show mE (mtv 258) 13 = some (.ireturn, 1, 0, 0) from rfl) ?_
                          refine qK_v ?_
                          refine q_ifb_ne (t := 34) (show mE (mtv 263) 27 = some (.ifCond .ne 7, 3, 0, 0) from rfl) rfl (fun c296 => ?_) (fun c296 => ?_)
                          · refine q_aload_n (show mE (mtv 263) 34 = some (.aload_n 0, 1, 0, 0) from rfl) (hl288 0 _ rfl) ?_
                            refine q_iload_n (show mE (mtv 263) 35 = some (.iload_n 1, 1, 0, 0) from rfl) (hl288 1 _ rfl) ?_
                            refine q_iload_n (show mE (mtv 263) 36 = some (.iload_n 2, 1, 0, 0) from rfl) (hl288 2 _ rfl) ?_
                            refine q_iload_n (show mE (mtv 263) 37 = some (.iload_n 3, 1, 0, 0) from rfl) (hl288 3 _ rfl) ?_
                            refine q_virtualI (show mE (mtv 263) 38 = some (.invokevirtual 246, 3, 262, 9) from rfl) (by decide) rfl rfl rfl (fun _ => ?_)
                            have hl297 : qLs (lv_args 0 [.ref (85), .int (a1), .int (a2), .int (a3)]) [some (.ref (85)), some (.int (a1)), some (.int (a2)), some (.int (a3))] := qLs_ar 0
                            refine q_iload_n (show mE (mtv 262) 0 = some (.iload_n 3, 1, 0, 0) from rfl) (hl297 3 _ rfl) ?_
                            refine q_if_lt (t := 21) (show mE (mtv 262) 1 = some (.ifCond .lt 20, 3, 0, 0) from rfl) rfl (fun c298 => ?_) (fun c298 => ?_)
                            · refine q_iconst (show mE (mtv 262) 21 = some (.iconst 0, 1, 0, 0) from rfl) kI_0 ?_
                              refine q_ireturn (show mE (mtv 262) 22 = some (.ireturn, 1, 0, 0) from rfl) ?_
                              refine qK_v ?_
                              refine q_iff (t := 48) (show mE (mtv 263) 41 = some (.ifCond .ne 7, 3, 0, 0) from rfl) (by decide) rfl ?_
                              refine q_iconst (show mE (mtv 263) 44 = some (.iconst 3, 1, 0, 0) from rfl) kI_3 ?_
                              refine q_goto (t := 49) (show mE (mtv 263) 45 = some (.goto 4, 3, 0, 0) from rfl) rfl ?_
                              refine q_putI t285 (show mE (mtv 263) 49 = some (.putfield 138, 3, 9, 42) from rfl) (by decide) rfl (fun h299 t300 => ?_)
                              refine q_aload_n (show mE (mtv 263) 52 = some (.aload_n 0, 1, 0, 0) from rfl) (hl288 0 _ rfl) ?_
                              refine q_getIe t300 (show mE (mtv 263) 53 = some (.getfield 138, 3, 9, 42) from rfl) (by decide) rfl (upI_s) ?_
                              refine q_ift (t := 114) (show mE (mtv 263) 56 = some (.ifCond .ne 58, 3, 0, 0) from rfl) (by decide) rfl ?_
                              refine q_aload_n (show mE (mtv 263) 114 = some (.aload_n 0, 1, 0, 0) from rfl) (hl288 0 _ rfl) ?_
                              refine q_getIe t300 (show mE (mtv 263) 115 = some (.getfield 138, 3, 9, 42) from rfl) (by decide) rfl (upI_s) ?_
                              refine q_iff (t := 123) (show mE (mtv 263) 118 = some (.ifCond .le 5, 3, 0, 0) from rfl) (by decide) rfl ?_
                              refine q_iconst (show mE (mtv 263) 121 = some (.iconst 0, 1, 0, 0) from rfl) kI_0 ?_
                              refine q_ireturn (show mE (mtv 263) 122 = some (.ireturn, 1, 0, 0) from rfl) ?_
                              exact (p23 c3 c14 c16 c33 c35 v40 j36 e39 c45 c46 bb112 d113 d114 c115 c184 c253 bb266 j279 e282 bb283 c290 c294 c296 c298).elim
                            · refine q_aload_n (show mE (mtv 262) 4 = some (.aload_n 0, 1, 0, 0) from rfl) (hl297 0 _ rfl) ?_
                              refine q_iload_n (show mE (mtv 262) 5 = some (.iload_n 1, 1, 0, 0) from rfl) (hl297 1 _ rfl) ?_
                              refine q_iload_n (show mE (mtv 262) 6 = some (.iload_n 2, 1, 0, 0) from rfl) (hl297 2 _ rfl) ?_
                              refine q_iload_n (show mE (mtv 262) 7 = some (.iload_n 3, 1, 0, 0) from rfl) (hl297 3 _ rfl) ?_
                              refine q_virtualE (show mE (mtv 262) 8 = some (.invokevirtual 242, 3, 259, 9) from rfl) (by decide) rfl rfl rfl (fun _ g => sp_259 t285 g) ?_
                              rintro _ ⟨v305, j301, h302, rfl, t303, e304⟩
                              refine qK_v ?_
                              refine q_iload_n (show mE (mtv 262) 11 = some (.iload_n 3, 1, 0, 0) from rfl) (hl297 3 _ rfl) ?_
                              refine q_iconst (show mE (mtv 262) 12 = some (.iconst 1, 1, 0, 0) from rfl) kI_1 ?_
                              refine q_iadd (show mE (mtv 262) 13 = some (.iadd, 1, 0, 0) from rfl) ?_
                              refine q_ic_ne (t := 21) (show mE (mtv 262) 14 = some (.if_icmp .ne 7, 3, 0, 0) from rfl) rfl (fun c306 => ?_) (fun c306 => ?_)
                              · refine q_iconst (show mE (mtv 262) 21 = some (.iconst 0, 1, 0, 0) from rfl) kI_0 ?_
                                refine q_ireturn (show mE (mtv 262) 22 = some (.ireturn, 1, 0, 0) from rfl) ?_
                                refine qK_v ?_
                                refine q_iff (t := 48) (show mE (mtv 263) 41 = some (.ifCond .ne 7, 3, 0, 0) from rfl) (by decide) rfl ?_
                                refine q_iconst (show mE (mtv 263) 44 = some (.iconst 3, 1, 0, 0) from rfl) kI_3 ?_
                                refine q_goto (t := 49) (show mE (mtv 263) 45 = some (.goto 4, 3, 0, 0) from rfl) rfl ?_
                                refine q_putI t303 (show mE (mtv 263) 49 = some (.putfield 138, 3, 9, 42) from rfl) (by decide) rfl (fun h307 t308 => ?_)
                                refine q_aload_n (show mE (mtv 263) 52 = some (.aload_n 0, 1, 0, 0) from rfl) (hl288 0 _ rfl) ?_
                                refine q_getIe t308 (show mE (mtv 263) 53 = some (.getfield 138, 3, 9, 42) from rfl) (by decide) rfl (upI_s) ?_
                                refine q_ift (t := 114) (show mE (mtv 263) 56 = some (.ifCond .ne 58, 3, 0, 0) from rfl) (by decide) rfl ?_
                                refine q_aload_n (show mE (mtv 263) 114 = some (.aload_n 0, 1, 0, 0) from rfl) (hl288 0 _ rfl) ?_
                                refine q_getIe t308 (show mE (mtv 263) 115 = some (.getfield 138, 3, 9, 42) from rfl) (by decide) rfl (upI_s) ?_
                                refine q_iff (t := 123) (show mE (mtv 263) 118 = some (.ifCond .le 5, 3, 0, 0) from rfl) (by decide) rfl ?_
                                refine q_iconst (show mE (mtv 263) 121 = some (.iconst 0, 1, 0, 0) from rfl) kI_0 ?_
                                refine q_ireturn (show mE (mtv 263) 122 = some (.ireturn, 1, 0, 0) from rfl) ?_
                                exact (p24 c3 c14 c16 c33 c35 v40 j36 e39 c45 c46 bb112 d113 d114 c115 c184 c253 bb266 j279 e282 bb283 c290 c294 c296 c298 v305 j301 e304 c306).elim
                              · refine q_iconst (show mE (mtv 262) 17 = some (.iconst 1, 1, 0, 0) from rfl) kI_1 ?_
                                refine q_goto (t := 22) (show mE (mtv 262) 18 = some (.goto 4, 3, 0, 0) from rfl) rfl ?_
                                refine q_ireturn (show mE (mtv 262) 22 = some (.ireturn, 1, 0, 0) from rfl) ?_
                                refine qK_v ?_
                                refine q_ift (t := 48) (show mE (mtv 263) 41 = some (.ifCond .ne 7, 3, 0, 0) from rfl) (by decide) rfl ?_
                                refine q_iconst (show mE (mtv 263) 48 = some (.iconst 0, 1, 0, 0) from rfl) kI_0 ?_
                                refine q_putI t303 (show mE (mtv 263) 49 = some (.putfield 138, 3, 9, 42) from rfl) (by decide) rfl (fun h309 t310 => ?_)
                                refine q_aload_n (show mE (mtv 263) 52 = some (.aload_n 0, 1, 0, 0) from rfl) (hl288 0 _ rfl) ?_
                                refine q_getIe t310 (show mE (mtv 263) 53 = some (.getfield 138, 3, 9, 42) from rfl) (by decide) rfl (upI_s) ?_
                                refine q_iff (t := 114) (show mE (mtv 263) 56 = some (.ifCond .ne 58, 3, 0, 0) from rfl) (by decide) rfl ?_
                                refine q_aload_n (show mE (mtv 263) 59 = some (.aload_n 0, 1, 0, 0) from rfl) (hl288 0 _ rfl) ?_
                                refine q_aload_n (show mE (mtv 263) 60 = some (.aload_n 0, 1, 0, 0) from rfl) (hl288 0 _ rfl) ?_
                                refine q_virtualE (show mE (mtv 263) 61 = some (.invokevirtual 169, 3, 217, 9) from rfl) (by decide) rfl rfl rfl (fun _ g => sp_217 t310 g) ?_
                                rintro _ ⟨v311, rfl, e312⟩
                                refine qK_v ?_
                                refine q_iconst (show mE (mtv 263) 64 = some (.iconst (-1), 1, 0, 0) from rfl) kI_m1 ?_
                                refine q_ic_ne (t := 93) (show mE (mtv 263) 65 = some (.if_icmp .ne 28, 3, 0, 0) from rfl) rfl (fun c313 => ?_) (fun c313 => ?_)
                                · refine q_iconst (show mE (mtv 263) 93 = some (.iconst 4, 1, 0, 0) from rfl) kI_4 ?_
                                  refine q_goto (t := 111) (show mE (mtv 263) 94 = some (.goto 17, 3, 0, 0) from rfl) rfl ?_
                                  refine q_putI t310 (show mE (mtv 263) 111 = some (.putfield 138, 3, 9, 42) from rfl) (by decide) rfl (fun h314 t315 => ?_)
                                  refine q_aload_n (show mE (mtv 263) 114 = some (.aload_n 0, 1, 0, 0) from rfl) (hl288 0 _ rfl) ?_
                                  refine q_getIe t315 (show mE (mtv 263) 115 = some (.getfield 138, 3, 9, 42) from rfl) (by decide) rfl (upI_s) ?_
                                  refine q_iff (t := 123) (show mE (mtv 263) 118 = some (.ifCond .le 5, 3, 0, 0) from rfl) (by decide) rfl ?_
                                  refine q_iconst (show mE (mtv 263) 121 = some (.iconst 0, 1, 0, 0) from rfl) kI_0 ?_
                                  refine q_ireturn (show mE (mtv 263) 122 = some (.ireturn, 1, 0, 0) from rfl) ?_
                                  exact (p25 c3 c14 c16 c33 c35 v40 j36 e39 c45 c46 bb112 d113 d114 c115 c184 c253 bb266 j279 e282 bb283 c290 c294 c296 c298 v305 j301 e304 c306 v311 e312 c313).elim
                                · refine q_aload_n (show mE (mtv 263) 68 = some (.aload_n 0, 1, 0, 0) from rfl) (hl288 0 _ rfl) ?_
                                  refine q_iload (show mE (mtv 263) 69 = some (.iload 4, 2, 0, 0) from rfl) (hl288 4 _ rfl) ?_
                                  refine q_iload_n (show mE (mtv 263) 71 = some (.iload_n 1, 1, 0, 0) from rfl) (hl288 1 _ rfl) ?_
                                  refine q_virtualP (show mE (mtv 263) 72 = some (.invokevirtual 186, 3, 224, 9) from rfl) (by decide) rfl rfl rfl (fun _ g => sp_224 t310 g) ?_
                                  refine q_ifb_eq (t := 93) (show mE (mtv 263) 75 = some (.ifCond .eq 18, 3, 0, 0) from rfl) rfl (fun c316 => ?_) (fun c316 => ?_)
                                  · refine q_iconst (show mE (mtv 263) 93 = some (.iconst 4, 1, 0, 0) from rfl) kI_4 ?_
                                    refine q_goto (t := 111) (show mE (mtv 263) 94 = some (.goto 17, 3, 0, 0) from rfl) rfl ?_
                                    refine q_putI t310 (show mE (mtv 263) 111 = some (.putfield 138, 3, 9, 42) from rfl) (by decide) rfl (fun h317 t318 => ?_)
                                    refine q_aload_n (show mE (mtv 263) 114 = some (.aload_n 0, 1, 0, 0) from rfl) (hl288 0 _ rfl) ?_
                                    refine q_getIe t318 (show mE (mtv 263) 115 = some (.getfield 138, 3, 9, 42) from rfl) (by decide) rfl (upI_s) ?_
                                    refine q_iff (t := 123) (show mE (mtv 263) 118 = some (.ifCond .le 5, 3, 0, 0) from rfl) (by decide) rfl ?_
                                    refine q_iconst (show mE (mtv 263) 121 = some (.iconst 0, 1, 0, 0) from rfl) kI_0 ?_
                                    refine q_ireturn (show mE (mtv 263) 122 = some (.ireturn, 1, 0, 0) from rfl) ?_
                                    exact (p26 c3 c14 c16 c33 c35 v40 j36 e39 c45 c46 bb112 d113 d114 c115 c184 c253 bb266 j279 e282 bb283 c290 c294 c296 c298 v305 j301 e304 c306 v311 e312 c313 c316).elim
                                  · refine q_aload_n (show mE (mtv 263) 78 = some (.aload_n 0, 1, 0, 0) from rfl) (hl288 0 _ rfl) ?_
                                    refine q_getIe t310 (show mE (mtv 263) 79 = some (.getfield 141, 3, 9, 43) from rfl) (by decide) rfl (upI_n (Or.inr (by decide))) ?_
                                    refine q_aload_n (show mE (mtv 263) 82 = some (.aload_n 0, 1, 0, 0) from rfl) (hl288 0 _ rfl) ?_
                                    refine q_getR (m := 97) t310 (show mE (mtv 263) 83 = some (.getfield 44, 3, 9, 11) from rfl) (by decide) rfl rfl ?_
                                    refine q_iload (show mE (mtv 263) 86 = some (.iload 4, 2, 0, 0) from rfl) (hl288 4 _ rfl) ?_
                                    refine q_iaload (n := 10) t310 (show mE (mtv 263) 88 = some (.iaload, 1, 0, 0) from rfl) (by decide) rfl (fun bb319 => ?_)
                                    have g320 : (upI j301 85 42 (0 : Int32)) 97 (a4).toNatClampNeg = j301 97 ((a4).toNatClampNeg) := upI_n (Or.inl (by decide))
                                    rw [g320]; clear g320
                                    refine q_iand (show mE (mtv 263) 89 = some (.iand, 1, 0, 0) from rfl) ?_
                                    refine q_if_eq (t := 97) (show mE (mtv 263) 90 = some (.ifCond .eq 7, 3, 0, 0) from rfl) rfl (fun c321 => ?_) (fun c321 => ?_)
                                    · refine q_aload_n (show mE (mtv 263) 97 = some (.aload_n 0, 1, 0, 0) from rfl) (hl288 0 _ rfl) ?_
                                      refine q_getIe t310 (show mE (mtv 263) 98 = some (.getfield 117, 3, 9, 35) from rfl) (by decide) rfl (upI_n (Or.inr (by decide))) ?_
                                      refine q_bipush (show mE (mtv 263) 101 = some (.bipush 16, 2, 0, 0) from rfl) kB_16 ?_
                                      refine q_ic_ne (t := 110) (show mE (mtv 263) 103 = some (.if_icmp .ne 7, 3, 0, 0) from rfl) rfl (fun c322 => ?_) (fun c322 => ?_)
                                      · refine q_iconst (show mE (mtv 263) 110 = some (.iconst 0, 1, 0, 0) from rfl) kI_0 ?_
                                        refine q_putI t310 (show mE (mtv 263) 111 = some (.putfield 138, 3, 9, 42) from rfl) (by decide) rfl (fun h323 t324 => ?_)
                                        refine q_aload_n (show mE (mtv 263) 114 = some (.aload_n 0, 1, 0, 0) from rfl) (hl288 0 _ rfl) ?_
                                        refine q_getIe t324 (show mE (mtv 263) 115 = some (.getfield 138, 3, 9, 42) from rfl) (by decide) rfl (upI_s) ?_
                                        refine q_ift (t := 123) (show mE (mtv 263) 118 = some (.ifCond .le 5, 3, 0, 0) from rfl) (by decide) rfl ?_
                                        refine q_aload_n (show mE (mtv 263) 123 = some (.aload_n 0, 1, 0, 0) from rfl) (hl288 0 _ rfl) ?_
                                        refine q_getR (m := 88) t324 (show mE (mtv 263) 124 = some (.getfield 16, 3, 9, 2) from rfl) (by decide) rfl rfl ?_
                                        refine q_iload_n (show mE (mtv 263) 127 = some (.iload_n 1, 1, 0, 0) from rfl) (hl288 1 _ rfl) ?_
                                        refine q_dup2 (show mE (mtv 263) 128 = some (.dup2, 1, 0, 0) from rfl) ?_
                                        refine q_iaload (n := 16) t324 (show mE (mtv 263) 129 = some (.iaload, 1, 0, 0) from rfl) (by decide) rfl (fun bb325 => ?_)
                                        have g326 : (upI (upI j301 85 42 (0 : Int32)) 85 42 (0 : Int32)) 88 (a1).toNatClampNeg = j301 88 ((a1).toNatClampNeg) := (upI_n (Or.inl (by decide))).trans (upI_n (Or.inl (by decide)))
                                        rw [g326]; clear g326
                                        refine q_iconst (show mE (mtv 263) 130 = some (.iconst 1, 1, 0, 0) from rfl) kI_1 ?_
                                        refine q_iload (show mE (mtv 263) 131 = some (.iload 4, 2, 0, 0) from rfl) (hl288 4 _ rfl) ?_
                                        refine q_ishl (show mE (mtv 263) 133 = some (.ishl, 1, 0, 0) from rfl) ?_
                                        refine q_ior (show mE (mtv 263) 134 = some (.ior, 1, 0, 0) from rfl) ?_
                                        refine q_iastore (n := 16) t324 (show mE (mtv 263) 135 = some (.iastore, 1, 0, 0) from rfl) (by decide) rfl (fun bb327 h328 t329 => ?_)
                                        refine q_aload_n (show mE (mtv 263) 136 = some (.aload_n 0, 1, 0, 0) from rfl) (hl288 0 _ rfl) ?_
                                        refine q_iconst (show mE (mtv 263) 137 = some (.iconst 1, 1, 0, 0) from rfl) kI_1 ?_
                                        refine q_iload (show mE (mtv 263) 138 = some (.iload 4, 2, 0, 0) from rfl) (hl288 4 _ rfl) ?_
                                        refine q_ishl (show mE (mtv 263) 140 = some (.ishl, 1, 0, 0) from rfl) ?_
                                        refine q_virtualE (show mE (mtv 263) 141 = some (.invokevirtual 172, 3, 218, 9) from rfl) (by decide) rfl rfl rfl (fun _ g => sp_218 t329 g) ?_
                                        rintro _ ⟨v334, j330, h331, rfl, t332, e333⟩
                                        refine qK_v ?_
                                        refine q_ireturn (show mE (mtv 263) 144 = some (.ireturn, 1, 0, 0) from rfl) ?_
                                        exact ⟨(0 : Int32), v334, _, _, _, rfl, rfl, t332, ((p27 c3 c14 c16 c33 c35 v40 j36 e39 c45 c46 bb112 d113 d114 c115 c184 c253 bb266 j279 e282 bb283 c290 c294 c296 c298 v305 j301 e304 c306 v311 e312 c313 c316 c321 c322 bb325 v334 j330 e333)).1, (fun _ => (p27 c3 c14 c16 c33 c35 v40 j36 e39 c45 c46 bb112 d113 d114 c115 c184 c253 bb266 j279 e282 bb283 c290 c294 c296 c298 v305 j301 e304 c306 v311 e312 c313 c316 c321 c322 bb325 v334 j330 e333).2.1), (p27 c3 c14 c16 c33 c35 v40 j36 e39 c45 c46 bb112 d113 d114 c115 c184 c253 bb266 j279 e282 bb283 c290 c294 c296 c298 v305 j301 e304 c306 v311 e312 c313 c316 c321 c322 bb325 v334 j330 e333).2.2⟩
                                      · refine q_iconst (show mE (mtv 263) 106 = some (.iconst 5, 1, 0, 0) from rfl) kI_5 ?_
                                        refine q_goto (t := 111) (show mE (mtv 263) 107 = some (.goto 4, 3, 0, 0) from rfl) rfl ?_
                                        refine q_putI t310 (show mE (mtv 263) 111 = some (.putfield 138, 3, 9, 42) from rfl) (by decide) rfl (fun h335 t336 => ?_)
                                        refine q_aload_n (show mE (mtv 263) 114 = some (.aload_n 0, 1, 0, 0) from rfl) (hl288 0 _ rfl) ?_
                                        refine q_getIe t336 (show mE (mtv 263) 115 = some (.getfield 138, 3, 9, 42) from rfl) (by decide) rfl (upI_s) ?_
                                        refine q_iff (t := 123) (show mE (mtv 263) 118 = some (.ifCond .le 5, 3, 0, 0) from rfl) (by decide) rfl ?_
                                        refine q_iconst (show mE (mtv 263) 121 = some (.iconst 0, 1, 0, 0) from rfl) kI_0 ?_
                                        refine q_ireturn (show mE (mtv 263) 122 = some (.ireturn, 1, 0, 0) from rfl) ?_
                                        exact (p28 c3 c14 c16 c33 c35 v40 j36 e39 c45 c46 bb112 d113 d114 c115 c184 c253 bb266 j279 e282 bb283 c290 c294 c296 c298 v305 j301 e304 c306 v311 e312 c313 c316 c321 c322).elim
                                    · refine q_iconst (show mE (mtv 263) 93 = some (.iconst 4, 1, 0, 0) from rfl) kI_4 ?_
                                      refine q_goto (t := 111) (show mE (mtv 263) 94 = some (.goto 17, 3, 0, 0) from rfl) rfl ?_
                                      refine q_putI t310 (show mE (mtv 263) 111 = some (.putfield 138, 3, 9, 42) from rfl) (by decide) rfl (fun h337 t338 => ?_)
                                      refine q_aload_n (show mE (mtv 263) 114 = some (.aload_n 0, 1, 0, 0) from rfl) (hl288 0 _ rfl) ?_
                                      refine q_getIe t338 (show mE (mtv 263) 115 = some (.getfield 138, 3, 9, 42) from rfl) (by decide) rfl (upI_s) ?_
                                      refine q_iff (t := 123) (show mE (mtv 263) 118 = some (.ifCond .le 5, 3, 0, 0) from rfl) (by decide) rfl ?_
                                      refine q_iconst (show mE (mtv 263) 121 = some (.iconst 0, 1, 0, 0) from rfl) kI_0 ?_
                                      refine q_ireturn (show mE (mtv 263) 122 = some (.ireturn, 1, 0, 0) from rfl) ?_
                                      exact (p29 c3 c14 c16 c33 c35 v40 j36 e39 c45 c46 bb112 d113 d114 c115 c184 c253 bb266 j279 e282 bb283 c290 c294 c296 c298 v305 j301 e304 c306 v311 e312 c313 c316 c321).elim
                          · refine q_iconst (show mE (mtv 263) 30 = some (.iconst 2, 1, 0, 0) from rfl) kI_2 ?_
                            refine q_goto (t := 49) (show mE (mtv 263) 31 = some (.goto 18, 3, 0, 0) from rfl) rfl ?_
                            refine q_putI t285 (show mE (mtv 263) 49 = some (.putfield 138, 3, 9, 42) from rfl) (by decide) rfl (fun h339 t340 => ?_)
                            refine q_aload_n (show mE (mtv 263) 52 = some (.aload_n 0, 1, 0, 0) from rfl) (hl288 0 _ rfl) ?_
                            refine q_getIe t340 (show mE (mtv 263) 53 = some (.getfield 138, 3, 9, 42) from rfl) (by decide) rfl (upI_s) ?_
                            refine q_ift (t := 114) (show mE (mtv 263) 56 = some (.ifCond .ne 58, 3, 0, 0) from rfl) (by decide) rfl ?_
                            refine q_aload_n (show mE (mtv 263) 114 = some (.aload_n 0, 1, 0, 0) from rfl) (hl288 0 _ rfl) ?_
                            refine q_getIe t340 (show mE (mtv 263) 115 = some (.getfield 138, 3, 9, 42) from rfl) (by decide) rfl (upI_s) ?_
                            refine q_iff (t := 123) (show mE (mtv 263) 118 = some (.ifCond .le 5, 3, 0, 0) from rfl) (by decide) rfl ?_
                            refine q_iconst (show mE (mtv 263) 121 = some (.iconst 0, 1, 0, 0) from rfl) kI_0 ?_
                            refine q_ireturn (show mE (mtv 263) 122 = some (.ireturn, 1, 0, 0) from rfl) ?_
                            exact (p30 c3 c14 c16 c33 c35 v40 j36 e39 c45 c46 bb112 d113 d114 c115 c184 c253 bb266 j279 e282 bb283 c290 c294 c296).elim
                        · refine q_iconst (show mE (mtv 263) 18 = some (.iconst 1, 1, 0, 0) from rfl) kI_1 ?_
                          refine q_goto (t := 49) (show mE (mtv 263) 19 = some (.goto 30, 3, 0, 0) from rfl) rfl ?_
                          refine q_putI t285 (show mE (mtv 263) 49 = some (.putfield 138, 3, 9, 42) from rfl) (by decide) rfl (fun h341 t342 => ?_)
                          refine q_aload_n (show mE (mtv 263) 52 = some (.aload_n 0, 1, 0, 0) from rfl) (hl288 0 _ rfl) ?_
                          refine q_getIe t342 (show mE (mtv 263) 53 = some (.getfield 138, 3, 9, 42) from rfl) (by decide) rfl (upI_s) ?_
                          refine q_ift (t := 114) (show mE (mtv 263) 56 = some (.ifCond .ne 58, 3, 0, 0) from rfl) (by decide) rfl ?_
                          refine q_aload_n (show mE (mtv 263) 114 = some (.aload_n 0, 1, 0, 0) from rfl) (hl288 0 _ rfl) ?_
                          refine q_getIe t342 (show mE (mtv 263) 115 = some (.getfield 138, 3, 9, 42) from rfl) (by decide) rfl (upI_s) ?_
                          refine q_iff (t := 123) (show mE (mtv 263) 118 = some (.ifCond .le 5, 3, 0, 0) from rfl) (by decide) rfl ?_
                          refine q_iconst (show mE (mtv 263) 121 = some (.iconst 0, 1, 0, 0) from rfl) kI_0 ?_
                          refine q_ireturn (show mE (mtv 263) 122 = some (.ireturn, 1, 0, 0) from rfl) ?_
                          exact (p31 c3 c14 c16 c33 c35 v40 j36 e39 c45 c46 bb112 d113 d114 c115 c184 c253 bb266 j279 e282 bb283 c290 c294).elim
                    · refine q_throw (show mE (mtv 57) 9 = some (.new 126, 3, 1001, 0) from rfl) (by decide) ?_
                      refine qK_x ?_
                      refine qKh_x (hp := 33) (c := (35, sDr 6 (lv_args 0 [.ref (0), .int (a1), .int (a2), .int (a3), .int (a4), .ref (117)]), [], h37)) rfl (by decide) (fun _ _ => rfl) ?_
                      refine q_iconst (show mE (mtv 127) 35 = some (.iconst 5, 1, 0, 0) from rfl) kI_5 ?_
                      refine q_ireturn (show mE (mtv 127) 36 = some (.ireturn, 1, 0, 0) from rfl) ?_
                      intro r343 g344
                      have g344 : qGo 263 [.ref (85), .int (a1), .int (a2), .int (a3), .int (a4)] h37 r343 := g344
                      refine qGo_w (Q := fun r2 => opE (.inl (some (.int ((5 : Int32))))) r2.1 r2.2 RK) g344 (fun _ => ?_)
                      have hl345 : qLs (lv_args 0 [.ref (85), .int (a1), .int (a2), .int (a3), .int (a4)]) [some (.ref (85)), some (.int (a1)), some (.int (a2)), some (.int (a3)), some (.int (a4))] := qLs_ar 0
                      refine q_aload_n (show mE (mtv 263) 0 = some (.aload_n 0, 1, 0, 0) from rfl) (hl345 0 _ rfl) ?_
                      refine q_aload_n (show mE (mtv 263) 1 = some (.aload_n 0, 1, 0, 0) from rfl) (hl345 0 _ rfl) ?_
                      refine q_iload_n (show mE (mtv 263) 2 = some (.iload_n 1, 1, 0, 0) from rfl) (hl345 1 _ rfl) ?_
                      refine q_virtualI (show mE (mtv 263) 3 = some (.invokevirtual 175, 3, 220, 9) from rfl) (by decide) rfl rfl rfl (fun _ => ?_)
                      have hl346 : qLs (lv_args 0 [.ref (85), .int (a1)]) [some (.ref (85)), some (.int (a1))] := qLs_ar 0
                      refine q_iload_n (show mE (mtv 220) 0 = some (.iload_n 1, 1, 0, 0) from rfl) (hl346 1 _ rfl) ?_
                      refine q_iconst (show mE (mtv 220) 1 = some (.iconst 0, 1, 0, 0) from rfl) kI_0 ?_
                      refine q_aload_n (show mE (mtv 220) 2 = some (.aload_n 0, 1, 0, 0) from rfl) (hl346 0 _ rfl) ?_
                      refine q_getI t38 (show mE (mtv 220) 3 = some (.getfield 117, 3, 9, 35) from rfl) (by decide) rfl ?_
                      have r347 : j36 85 35 = I 85 35 := sc85 ag41 (by decide)
                      rw [r347]; clear r347
                      have r348 : I 85 35 = I 0 9 := hK.nk.symm
                      rw [r348]; clear r348
                      refine q_iconst (show mE (mtv 220) 6 = some (.iconst 1, 1, 0, 0) from rfl) kI_1 ?_
                      refine q_isub (show mE (mtv 220) 7 = some (.isub, 1, 0, 0) from rfl) ?_
                      refine q_staticP (show mE (mtv 220) 8 = some (.invokestatic 157, 3, 211, 0) from rfl) (by decide) rfl rfl rfl (fun _ g => sp_211 g) ?_
                      refine q_ireturn (show mE (mtv 220) 11 = some (.ireturn, 1, 0, 0) from rfl) ?_
                      refine qK_v ?_
                      refine q_ifb_eq (t := 18) (show mE (mtv 263) 6 = some (.ifCond .eq 12, 3, 0, 0) from rfl) rfl (fun c349 => ?_) (fun c349 => ?_)
                      · exfalso
                        have s350 := hK.bk
                        unfold inR at s350
                        have s351 := i32_sub1 (x := I 0 9) (by omega)
                        have s352 := hK.bd
                        unfold inR at s352
                        simp only [s351, Int32.lt_iff_toInt_lt, Int32.le_iff_toInt_le, ← Int32.toInt_inj, kt_0, kt_1, kt_16] at c3 c14 c16 c33 c45 c253 c349
                        first | omega | contradiction
                      · clear c349
                        refine q_aload_n (show mE (mtv 263) 9 = some (.aload_n 0, 1, 0, 0) from rfl) (hl345 0 _ rfl) ?_
                        refine q_iload (show mE (mtv 263) 10 = some (.iload 4, 2, 0, 0) from rfl) (hl345 4 _ rfl) ?_
                        refine q_virtualI (show mE (mtv 263) 12 = some (.invokevirtual 183, 3, 223, 9) from rfl) (by decide) rfl rfl rfl (fun _ => ?_)
                        have hl353 : qLs (lv_args 0 [.ref (85), .int (a4)]) [some (.ref (85)), some (.int (a4))] := qLs_ar 0
                        refine q_iload_n (show mE (mtv 223) 0 = some (.iload_n 1, 1, 0, 0) from rfl) (hl353 1 _ rfl) ?_
                        refine q_iconst (show mE (mtv 223) 1 = some (.iconst 0, 1, 0, 0) from rfl) kI_0 ?_
                        refine q_aload_n (show mE (mtv 223) 2 = some (.aload_n 0, 1, 0, 0) from rfl) (hl353 0 _ rfl) ?_
                        refine q_getI t38 (show mE (mtv 223) 3 = some (.getfield 120, 3, 9, 36) from rfl) (by decide) rfl ?_
                        have r354 : j36 85 36 = I 85 36 := sc85 ag41 (by decide)
                        rw [r354]; clear r354
                        have r355 : I 85 36 = I 0 10 := hK.nd.symm
                        rw [r355]; clear r355
                        refine q_iconst (show mE (mtv 223) 6 = some (.iconst 1, 1, 0, 0) from rfl) kI_1 ?_
                        refine q_isub (show mE (mtv 223) 7 = some (.isub, 1, 0, 0) from rfl) ?_
                        refine q_staticP (show mE (mtv 223) 8 = some (.invokestatic 157, 3, 211, 0) from rfl) (by decide) rfl rfl rfl (fun _ g => sp_211 g) ?_
                        refine q_ireturn (show mE (mtv 223) 11 = some (.ireturn, 1, 0, 0) from rfl) ?_
                        refine qK_v ?_
                        refine q_ifb_ne (t := 22) (show mE (mtv 263) 15 = some (.ifCond .ne 7, 3, 0, 0) from rfl) rfl (fun c356 => ?_) (fun c356 => ?_)
                        · clear c356
                          refine q_aload_n (show mE (mtv 263) 22 = some (.aload_n 0, 1, 0, 0) from rfl) (hl345 0 _ rfl) ?_
                          refine q_iload_n (show mE (mtv 263) 23 = some (.iload_n 2, 1, 0, 0) from rfl) (hl345 2 _ rfl) ?_
                          refine q_virtualI (show mE (mtv 263) 24 = some (.invokevirtual 239, 3, 258, 9) from rfl) (by decide) rfl rfl rfl (fun _ => ?_)
                          have hl360 : qLs (lv_args 0 [.ref (85), .int (a2)]) [some (.ref (85)), some (.int (a2))] := qLs_ar 0
                          refine q_iload_n (show mE (mtv 258) 0 = some (.iload_n 1, 1, 0, 0) from rfl) (hl360 1 _ rfl) ?_
                          refine q_iconst (show mE (mtv 258) 1 = some (.iconst 0, 1, 0, 0) from rfl) kI_0 ?_
                          refine q_iconst (show mE (mtv 258) 2 = some (.iconst 1, 1, 0, 0) from rfl) kI_1 ?_
                          refine q_aload_n (show mE (mtv 258) 3 = some (.aload_n 0, 1, 0, 0) from rfl) (hl360 0 _ rfl) ?_
                          refine q_getI t38 (show mE (mtv 258) 4 = some (.getfield 104, 3, 9, 31) from rfl) (by decide) rfl ?_
                          have r361 : j36 85 31 = I 85 31 := sc85 ag41 (by decide)
                          rw [r361]; clear r361
                          have r362 : I 85 31 = I 1 1 := hK.ch.symm
                          rw [r362]; clear r362
                          refine q_ishl (show mE (mtv 258) 7 = some (.ishl, 1, 0, 0) from rfl) ?_
                          refine q_iconst (show mE (mtv 258) 8 = some (.iconst 1, 1, 0, 0) from rfl) kI_1 ?_
                          refine q_isub (show mE (mtv 258) 9 = some (.isub, 1, 0, 0) from rfl) ?_
                          refine q_staticP (show mE (mtv 258) 10 = some (.invokestatic 157, 3, 211, 0) from rfl) (by decide) rfl rfl rfl (fun _ g => sp_211 g) ?_
                          refine q_ireturn (show mE (mtv 258) 13 = some (.ireturn, 1, 0, 0) from rfl) ?_
                          refine qK_v ?_
                          refine q_ifb_ne (t := 34) (show mE (mtv 263) 27 = some (.ifCond .ne 7, 3, 0, 0) from rfl) rfl (fun c363 => ?_) (fun c363 => ?_)
                          · clear c363
                            refine q_aload_n (show mE (mtv 263) 34 = some (.aload_n 0, 1, 0, 0) from rfl) (hl345 0 _ rfl) ?_
                            refine q_iload_n (show mE (mtv 263) 35 = some (.iload_n 1, 1, 0, 0) from rfl) (hl345 1 _ rfl) ?_
                            refine q_iload_n (show mE (mtv 263) 36 = some (.iload_n 2, 1, 0, 0) from rfl) (hl345 2 _ rfl) ?_
                            refine q_iload_n (show mE (mtv 263) 37 = some (.iload_n 3, 1, 0, 0) from rfl) (hl345 3 _ rfl) ?_
                            refine q_virtualI (show mE (mtv 263) 38 = some (.invokevirtual 246, 3, 262, 9) from rfl) (by decide) rfl rfl rfl (fun _ => ?_)
                            have hl364 : qLs (lv_args 0 [.ref (85), .int (a1), .int (a2), .int (a3)]) [some (.ref (85)), some (.int (a1)), some (.int (a2)), some (.int (a3))] := qLs_ar 0
                            refine q_iload_n (show mE (mtv 262) 0 = some (.iload_n 3, 1, 0, 0) from rfl) (hl364 3 _ rfl) ?_
                            refine q_if_lt (t := 21) (show mE (mtv 262) 1 = some (.ifCond .lt 20, 3, 0, 0) from rfl) rfl (fun c365 => ?_) (fun c365 => ?_)
                            · refine q_iconst (show mE (mtv 262) 21 = some (.iconst 0, 1, 0, 0) from rfl) kI_0 ?_
                              refine q_ireturn (show mE (mtv 262) 22 = some (.ireturn, 1, 0, 0) from rfl) ?_
                              refine qK_v ?_
                              refine q_iff (t := 48) (show mE (mtv 263) 41 = some (.ifCond .ne 7, 3, 0, 0) from rfl) (by decide) rfl ?_
                              refine q_iconst (show mE (mtv 263) 44 = some (.iconst 3, 1, 0, 0) from rfl) kI_3 ?_
                              refine q_goto (t := 49) (show mE (mtv 263) 45 = some (.goto 4, 3, 0, 0) from rfl) rfl ?_
                              refine q_putI t38 (show mE (mtv 263) 49 = some (.putfield 138, 3, 9, 42) from rfl) (by decide) rfl (fun h366 t367 => ?_)
                              refine q_aload_n (show mE (mtv 263) 52 = some (.aload_n 0, 1, 0, 0) from rfl) (hl345 0 _ rfl) ?_
                              refine q_getIe t367 (show mE (mtv 263) 53 = some (.getfield 138, 3, 9, 42) from rfl) (by decide) rfl (upI_s) ?_
                              refine q_ift (t := 114) (show mE (mtv 263) 56 = some (.ifCond .ne 58, 3, 0, 0) from rfl) (by decide) rfl ?_
                              refine q_aload_n (show mE (mtv 263) 114 = some (.aload_n 0, 1, 0, 0) from rfl) (hl345 0 _ rfl) ?_
                              refine q_getIe t367 (show mE (mtv 263) 115 = some (.getfield 138, 3, 9, 42) from rfl) (by decide) rfl (upI_s) ?_
                              refine q_iff (t := 123) (show mE (mtv 263) 118 = some (.ifCond .le 5, 3, 0, 0) from rfl) (by decide) rfl ?_
                              refine q_iconst (show mE (mtv 263) 121 = some (.iconst 0, 1, 0, 0) from rfl) kI_0 ?_
                              refine q_ireturn (show mE (mtv 263) 122 = some (.ireturn, 1, 0, 0) from rfl) ?_
                              exact (p32 c3 c14 c16 c33 c35 v40 j36 e39 c45 c46 bb112 d113 d114 c115 c184 c253 c365).elim
                            · refine q_aload_n (show mE (mtv 262) 4 = some (.aload_n 0, 1, 0, 0) from rfl) (hl364 0 _ rfl) ?_
                              refine q_iload_n (show mE (mtv 262) 5 = some (.iload_n 1, 1, 0, 0) from rfl) (hl364 1 _ rfl) ?_
                              refine q_iload_n (show mE (mtv 262) 6 = some (.iload_n 2, 1, 0, 0) from rfl) (hl364 2 _ rfl) ?_
                              refine q_iload_n (show mE (mtv 262) 7 = some (.iload_n 3, 1, 0, 0) from rfl) (hl364 3 _ rfl) ?_
                              refine q_virtualE (show mE (mtv 262) 8 = some (.invokevirtual 242, 3, 259, 9) from rfl) (by decide) rfl rfl rfl (fun _ g => sp_259 t38 g) ?_
                              rintro _ ⟨v372, j368, h369, rfl, t370, e371⟩
                              refine qK_v ?_
                              refine q_iload_n (show mE (mtv 262) 11 = some (.iload_n 3, 1, 0, 0) from rfl) (hl364 3 _ rfl) ?_
                              refine q_iconst (show mE (mtv 262) 12 = some (.iconst 1, 1, 0, 0) from rfl) kI_1 ?_
                              refine q_iadd (show mE (mtv 262) 13 = some (.iadd, 1, 0, 0) from rfl) ?_
                              refine q_ic_ne (t := 21) (show mE (mtv 262) 14 = some (.if_icmp .ne 7, 3, 0, 0) from rfl) rfl (fun c373 => ?_) (fun c373 => ?_)
                              · refine q_iconst (show mE (mtv 262) 21 = some (.iconst 0, 1, 0, 0) from rfl) kI_0 ?_
                                refine q_ireturn (show mE (mtv 262) 22 = some (.ireturn, 1, 0, 0) from rfl) ?_
                                refine qK_v ?_
                                refine q_iff (t := 48) (show mE (mtv 263) 41 = some (.ifCond .ne 7, 3, 0, 0) from rfl) (by decide) rfl ?_
                                refine q_iconst (show mE (mtv 263) 44 = some (.iconst 3, 1, 0, 0) from rfl) kI_3 ?_
                                refine q_goto (t := 49) (show mE (mtv 263) 45 = some (.goto 4, 3, 0, 0) from rfl) rfl ?_
                                refine q_putI t370 (show mE (mtv 263) 49 = some (.putfield 138, 3, 9, 42) from rfl) (by decide) rfl (fun h374 t375 => ?_)
                                refine q_aload_n (show mE (mtv 263) 52 = some (.aload_n 0, 1, 0, 0) from rfl) (hl345 0 _ rfl) ?_
                                refine q_getIe t375 (show mE (mtv 263) 53 = some (.getfield 138, 3, 9, 42) from rfl) (by decide) rfl (upI_s) ?_
                                refine q_ift (t := 114) (show mE (mtv 263) 56 = some (.ifCond .ne 58, 3, 0, 0) from rfl) (by decide) rfl ?_
                                refine q_aload_n (show mE (mtv 263) 114 = some (.aload_n 0, 1, 0, 0) from rfl) (hl345 0 _ rfl) ?_
                                refine q_getIe t375 (show mE (mtv 263) 115 = some (.getfield 138, 3, 9, 42) from rfl) (by decide) rfl (upI_s) ?_
                                refine q_iff (t := 123) (show mE (mtv 263) 118 = some (.ifCond .le 5, 3, 0, 0) from rfl) (by decide) rfl ?_
                                refine q_iconst (show mE (mtv 263) 121 = some (.iconst 0, 1, 0, 0) from rfl) kI_0 ?_
                                refine q_ireturn (show mE (mtv 263) 122 = some (.ireturn, 1, 0, 0) from rfl) ?_
                                exact (p33 c3 c14 c16 c33 c35 v40 j36 e39 c45 c46 bb112 d113 d114 c115 c184 c253 c365 v372 j368 e371 c373).elim
                              · refine q_iconst (show mE (mtv 262) 17 = some (.iconst 1, 1, 0, 0) from rfl) kI_1 ?_
                                refine q_goto (t := 22) (show mE (mtv 262) 18 = some (.goto 4, 3, 0, 0) from rfl) rfl ?_
                                refine q_ireturn (show mE (mtv 262) 22 = some (.ireturn, 1, 0, 0) from rfl) ?_
                                refine qK_v ?_
                                refine q_ift (t := 48) (show mE (mtv 263) 41 = some (.ifCond .ne 7, 3, 0, 0) from rfl) (by decide) rfl ?_
                                refine q_iconst (show mE (mtv 263) 48 = some (.iconst 0, 1, 0, 0) from rfl) kI_0 ?_
                                refine q_putI t370 (show mE (mtv 263) 49 = some (.putfield 138, 3, 9, 42) from rfl) (by decide) rfl (fun h376 t377 => ?_)
                                refine q_aload_n (show mE (mtv 263) 52 = some (.aload_n 0, 1, 0, 0) from rfl) (hl345 0 _ rfl) ?_
                                refine q_getIe t377 (show mE (mtv 263) 53 = some (.getfield 138, 3, 9, 42) from rfl) (by decide) rfl (upI_s) ?_
                                refine q_iff (t := 114) (show mE (mtv 263) 56 = some (.ifCond .ne 58, 3, 0, 0) from rfl) (by decide) rfl ?_
                                refine q_aload_n (show mE (mtv 263) 59 = some (.aload_n 0, 1, 0, 0) from rfl) (hl345 0 _ rfl) ?_
                                refine q_aload_n (show mE (mtv 263) 60 = some (.aload_n 0, 1, 0, 0) from rfl) (hl345 0 _ rfl) ?_
                                refine q_virtualE (show mE (mtv 263) 61 = some (.invokevirtual 169, 3, 217, 9) from rfl) (by decide) rfl rfl rfl (fun _ g => sp_217 t377 g) ?_
                                rintro _ ⟨v378, rfl, e379⟩
                                refine qK_v ?_
                                refine q_iconst (show mE (mtv 263) 64 = some (.iconst (-1), 1, 0, 0) from rfl) kI_m1 ?_
                                refine q_ic_ne (t := 93) (show mE (mtv 263) 65 = some (.if_icmp .ne 28, 3, 0, 0) from rfl) rfl (fun c380 => ?_) (fun c380 => ?_)
                                · refine q_iconst (show mE (mtv 263) 93 = some (.iconst 4, 1, 0, 0) from rfl) kI_4 ?_
                                  refine q_goto (t := 111) (show mE (mtv 263) 94 = some (.goto 17, 3, 0, 0) from rfl) rfl ?_
                                  refine q_putI t377 (show mE (mtv 263) 111 = some (.putfield 138, 3, 9, 42) from rfl) (by decide) rfl (fun h381 t382 => ?_)
                                  refine q_aload_n (show mE (mtv 263) 114 = some (.aload_n 0, 1, 0, 0) from rfl) (hl345 0 _ rfl) ?_
                                  refine q_getIe t382 (show mE (mtv 263) 115 = some (.getfield 138, 3, 9, 42) from rfl) (by decide) rfl (upI_s) ?_
                                  refine q_iff (t := 123) (show mE (mtv 263) 118 = some (.ifCond .le 5, 3, 0, 0) from rfl) (by decide) rfl ?_
                                  refine q_iconst (show mE (mtv 263) 121 = some (.iconst 0, 1, 0, 0) from rfl) kI_0 ?_
                                  refine q_ireturn (show mE (mtv 263) 122 = some (.ireturn, 1, 0, 0) from rfl) ?_
                                  exact (p34 c3 c14 c16 c33 c35 v40 j36 e39 c45 c46 bb112 d113 d114 c115 c184 c253 c365 v372 j368 e371 c373 v378 e379 c380).elim
                                · refine q_aload_n (show mE (mtv 263) 68 = some (.aload_n 0, 1, 0, 0) from rfl) (hl345 0 _ rfl) ?_
                                  refine q_iload (show mE (mtv 263) 69 = some (.iload 4, 2, 0, 0) from rfl) (hl345 4 _ rfl) ?_
                                  refine q_iload_n (show mE (mtv 263) 71 = some (.iload_n 1, 1, 0, 0) from rfl) (hl345 1 _ rfl) ?_
                                  refine q_virtualP (show mE (mtv 263) 72 = some (.invokevirtual 186, 3, 224, 9) from rfl) (by decide) rfl rfl rfl (fun _ g => sp_224 t377 g) ?_
                                  refine q_ifb_eq (t := 93) (show mE (mtv 263) 75 = some (.ifCond .eq 18, 3, 0, 0) from rfl) rfl (fun c383 => ?_) (fun c383 => ?_)
                                  · refine q_iconst (show mE (mtv 263) 93 = some (.iconst 4, 1, 0, 0) from rfl) kI_4 ?_
                                    refine q_goto (t := 111) (show mE (mtv 263) 94 = some (.goto 17, 3, 0, 0) from rfl) rfl ?_
                                    refine q_putI t377 (show mE (mtv 263) 111 = some (.putfield 138, 3, 9, 42) from rfl) (by decide) rfl (fun h384 t385 => ?_)
                                    refine q_aload_n (show mE (mtv 263) 114 = some (.aload_n 0, 1, 0, 0) from rfl) (hl345 0 _ rfl) ?_
                                    refine q_getIe t385 (show mE (mtv 263) 115 = some (.getfield 138, 3, 9, 42) from rfl) (by decide) rfl (upI_s) ?_
                                    refine q_iff (t := 123) (show mE (mtv 263) 118 = some (.ifCond .le 5, 3, 0, 0) from rfl) (by decide) rfl ?_
                                    refine q_iconst (show mE (mtv 263) 121 = some (.iconst 0, 1, 0, 0) from rfl) kI_0 ?_
                                    refine q_ireturn (show mE (mtv 263) 122 = some (.ireturn, 1, 0, 0) from rfl) ?_
                                    exact (p35 c3 c14 c16 c33 c35 v40 j36 e39 c45 c46 bb112 d113 d114 c115 c184 c253 c365 v372 j368 e371 c373 v378 e379 c380 c383).elim
                                  · refine q_aload_n (show mE (mtv 263) 78 = some (.aload_n 0, 1, 0, 0) from rfl) (hl345 0 _ rfl) ?_
                                    refine q_getIe t377 (show mE (mtv 263) 79 = some (.getfield 141, 3, 9, 43) from rfl) (by decide) rfl (upI_n (Or.inr (by decide))) ?_
                                    refine q_aload_n (show mE (mtv 263) 82 = some (.aload_n 0, 1, 0, 0) from rfl) (hl345 0 _ rfl) ?_
                                    refine q_getR (m := 97) t377 (show mE (mtv 263) 83 = some (.getfield 44, 3, 9, 11) from rfl) (by decide) rfl rfl ?_
                                    refine q_iload (show mE (mtv 263) 86 = some (.iload 4, 2, 0, 0) from rfl) (hl345 4 _ rfl) ?_
                                    refine q_iaload (n := 10) t377 (show mE (mtv 263) 88 = some (.iaload, 1, 0, 0) from rfl) (by decide) rfl (fun bb386 => ?_)
                                    have g387 : (upI j368 85 42 (0 : Int32)) 97 (a4).toNatClampNeg = j368 97 ((a4).toNatClampNeg) := upI_n (Or.inl (by decide))
                                    rw [g387]; clear g387
                                    refine q_iand (show mE (mtv 263) 89 = some (.iand, 1, 0, 0) from rfl) ?_
                                    refine q_if_eq (t := 97) (show mE (mtv 263) 90 = some (.ifCond .eq 7, 3, 0, 0) from rfl) rfl (fun c388 => ?_) (fun c388 => ?_)
                                    · refine q_aload_n (show mE (mtv 263) 97 = some (.aload_n 0, 1, 0, 0) from rfl) (hl345 0 _ rfl) ?_
                                      refine q_getIe t377 (show mE (mtv 263) 98 = some (.getfield 117, 3, 9, 35) from rfl) (by decide) rfl (upI_n (Or.inr (by decide))) ?_
                                      refine q_bipush (show mE (mtv 263) 101 = some (.bipush 16, 2, 0, 0) from rfl) kB_16 ?_
                                      refine q_ic_ne (t := 110) (show mE (mtv 263) 103 = some (.if_icmp .ne 7, 3, 0, 0) from rfl) rfl (fun c389 => ?_) (fun c389 => ?_)
                                      · refine q_iconst (show mE (mtv 263) 110 = some (.iconst 0, 1, 0, 0) from rfl) kI_0 ?_
                                        refine q_putI t377 (show mE (mtv 263) 111 = some (.putfield 138, 3, 9, 42) from rfl) (by decide) rfl (fun h390 t391 => ?_)
                                        refine q_aload_n (show mE (mtv 263) 114 = some (.aload_n 0, 1, 0, 0) from rfl) (hl345 0 _ rfl) ?_
                                        refine q_getIe t391 (show mE (mtv 263) 115 = some (.getfield 138, 3, 9, 42) from rfl) (by decide) rfl (upI_s) ?_
                                        refine q_ift (t := 123) (show mE (mtv 263) 118 = some (.ifCond .le 5, 3, 0, 0) from rfl) (by decide) rfl ?_
                                        refine q_aload_n (show mE (mtv 263) 123 = some (.aload_n 0, 1, 0, 0) from rfl) (hl345 0 _ rfl) ?_
                                        refine q_getR (m := 88) t391 (show mE (mtv 263) 124 = some (.getfield 16, 3, 9, 2) from rfl) (by decide) rfl rfl ?_
                                        refine q_iload_n (show mE (mtv 263) 127 = some (.iload_n 1, 1, 0, 0) from rfl) (hl345 1 _ rfl) ?_
                                        refine q_dup2 (show mE (mtv 263) 128 = some (.dup2, 1, 0, 0) from rfl) ?_
                                        refine q_iaload (n := 16) t391 (show mE (mtv 263) 129 = some (.iaload, 1, 0, 0) from rfl) (by decide) rfl (fun bb392 => ?_)
                                        have g393 : (upI (upI j368 85 42 (0 : Int32)) 85 42 (0 : Int32)) 88 (a1).toNatClampNeg = j368 88 ((a1).toNatClampNeg) := (upI_n (Or.inl (by decide))).trans (upI_n (Or.inl (by decide)))
                                        rw [g393]; clear g393
                                        refine q_iconst (show mE (mtv 263) 130 = some (.iconst 1, 1, 0, 0) from rfl) kI_1 ?_
                                        refine q_iload (show mE (mtv 263) 131 = some (.iload 4, 2, 0, 0) from rfl) (hl345 4 _ rfl) ?_
                                        refine q_ishl (show mE (mtv 263) 133 = some (.ishl, 1, 0, 0) from rfl) ?_
                                        refine q_ior (show mE (mtv 263) 134 = some (.ior, 1, 0, 0) from rfl) ?_
                                        refine q_iastore (n := 16) t391 (show mE (mtv 263) 135 = some (.iastore, 1, 0, 0) from rfl) (by decide) rfl (fun bb394 h395 t396 => ?_)
                                        refine q_aload_n (show mE (mtv 263) 136 = some (.aload_n 0, 1, 0, 0) from rfl) (hl345 0 _ rfl) ?_
                                        refine q_iconst (show mE (mtv 263) 137 = some (.iconst 1, 1, 0, 0) from rfl) kI_1 ?_
                                        refine q_iload (show mE (mtv 263) 138 = some (.iload 4, 2, 0, 0) from rfl) (hl345 4 _ rfl) ?_
                                        refine q_ishl (show mE (mtv 263) 140 = some (.ishl, 1, 0, 0) from rfl) ?_
                                        refine q_virtualE (show mE (mtv 263) 141 = some (.invokevirtual 172, 3, 218, 9) from rfl) (by decide) rfl rfl rfl (fun _ g => sp_218 t396 g) ?_
                                        rintro _ ⟨v401, j397, h398, rfl, t399, e400⟩
                                        refine qK_v ?_
                                        refine q_ireturn (show mE (mtv 263) 144 = some (.ireturn, 1, 0, 0) from rfl) ?_
                                        exact ⟨(5 : Int32), v401, _, _, _, rfl, rfl, t399, (p36 c3 c14 c16 c33 c35 v40 j36 e39 c45 c46 bb112 d113 d114 c115 c184 c253 c365 v372 j368 e371 c373 v378 e379 c380 c383 c388 c389 bb392 v401 j397 e400).1, (fun e => absurd e (by decide)), (p36 c3 c14 c16 c33 c35 v40 j36 e39 c45 c46 bb112 d113 d114 c115 c184 c253 c365 v372 j368 e371 c373 v378 e379 c380 c383 c388 c389 bb392 v401 j397 e400).2⟩
                                      · refine q_iconst (show mE (mtv 263) 106 = some (.iconst 5, 1, 0, 0) from rfl) kI_5 ?_
                                        refine q_goto (t := 111) (show mE (mtv 263) 107 = some (.goto 4, 3, 0, 0) from rfl) rfl ?_
                                        refine q_putI t377 (show mE (mtv 263) 111 = some (.putfield 138, 3, 9, 42) from rfl) (by decide) rfl (fun h402 t403 => ?_)
                                        refine q_aload_n (show mE (mtv 263) 114 = some (.aload_n 0, 1, 0, 0) from rfl) (hl345 0 _ rfl) ?_
                                        refine q_getIe t403 (show mE (mtv 263) 115 = some (.getfield 138, 3, 9, 42) from rfl) (by decide) rfl (upI_s) ?_
                                        refine q_iff (t := 123) (show mE (mtv 263) 118 = some (.ifCond .le 5, 3, 0, 0) from rfl) (by decide) rfl ?_
                                        refine q_iconst (show mE (mtv 263) 121 = some (.iconst 0, 1, 0, 0) from rfl) kI_0 ?_
                                        refine q_ireturn (show mE (mtv 263) 122 = some (.ireturn, 1, 0, 0) from rfl) ?_
                                        exact ⟨(5 : Int32), (0 : Int32), _, _, _, rfl, rfl, t403, upI_s, (fun e => absurd e (by decide)), p37 c3 c14 c16 c33 c35 v40 j36 e39 c45 c46 bb112 d113 d114 c115 c184 c253 c365 v372 j368 e371 c373 v378 e379 c380 c383 c388 c389⟩
                                    · refine q_iconst (show mE (mtv 263) 93 = some (.iconst 4, 1, 0, 0) from rfl) kI_4 ?_
                                      refine q_goto (t := 111) (show mE (mtv 263) 94 = some (.goto 17, 3, 0, 0) from rfl) rfl ?_
                                      refine q_putI t377 (show mE (mtv 263) 111 = some (.putfield 138, 3, 9, 42) from rfl) (by decide) rfl (fun h404 t405 => ?_)
                                      refine q_aload_n (show mE (mtv 263) 114 = some (.aload_n 0, 1, 0, 0) from rfl) (hl345 0 _ rfl) ?_
                                      refine q_getIe t405 (show mE (mtv 263) 115 = some (.getfield 138, 3, 9, 42) from rfl) (by decide) rfl (upI_s) ?_
                                      refine q_iff (t := 123) (show mE (mtv 263) 118 = some (.ifCond .le 5, 3, 0, 0) from rfl) (by decide) rfl ?_
                                      refine q_iconst (show mE (mtv 263) 121 = some (.iconst 0, 1, 0, 0) from rfl) kI_0 ?_
                                      refine q_ireturn (show mE (mtv 263) 122 = some (.ireturn, 1, 0, 0) from rfl) ?_
                                      exact (p38 c3 c14 c16 c33 c35 v40 j36 e39 c45 c46 bb112 d113 d114 c115 c184 c253 c365 v372 j368 e371 c373 v378 e379 c380 c383 c388).elim
                          · exact absurd c35 c363
                        · exfalso
                          have s357 := hK.bk
                          unfold inR at s357
                          have s358 := hK.bd
                          unfold inR at s358
                          have s359 := i32_sub1 (x := I 0 10) (by omega)
                          simp only [s359, Int32.lt_iff_toInt_lt, Int32.le_iff_toInt_le, ← Int32.toInt_inj, kt_0, kt_1, kt_16] at c3 c14 c16 c33 c45 c253 c356
                          first | omega | contradiction
            · refine q_throw (show mE (mtv 96) 6 = some (.new 360, 3, 1004, 0) from rfl) (by decide) ?_
              refine qK_x ?_
              refine qKh_x (hp := 25) (c := (27, sDr 6 (lv_args 0 [.ref (0), .int (a1), .int (a2), .int (a3), .int (a4), .ref (117)]), [], h37)) rfl (by decide) (fun _ _ => rfl) ?_
              refine q_iconst (show mE (mtv 127) 27 = some (.iconst 3, 1, 0, 0) from rfl) kI_3 ?_
              refine q_ireturn (show mE (mtv 127) 28 = some (.ireturn, 1, 0, 0) from rfl) ?_
              intro r406 g407
              have g407 : qGo 263 [.ref (85), .int (a1), .int (a2), .int (a3), .int (a4)] h37 r406 := g407
              refine qGo_w (Q := fun r2 => opE (.inl (some (.int ((3 : Int32))))) r2.1 r2.2 RK) g407 (fun _ => ?_)
              have hl408 : qLs (lv_args 0 [.ref (85), .int (a1), .int (a2), .int (a3), .int (a4)]) [some (.ref (85)), some (.int (a1)), some (.int (a2)), some (.int (a3)), some (.int (a4))] := qLs_ar 0
              refine q_aload_n (show mE (mtv 263) 0 = some (.aload_n 0, 1, 0, 0) from rfl) (hl408 0 _ rfl) ?_
              refine q_aload_n (show mE (mtv 263) 1 = some (.aload_n 0, 1, 0, 0) from rfl) (hl408 0 _ rfl) ?_
              refine q_iload_n (show mE (mtv 263) 2 = some (.iload_n 1, 1, 0, 0) from rfl) (hl408 1 _ rfl) ?_
              refine q_virtualI (show mE (mtv 263) 3 = some (.invokevirtual 175, 3, 220, 9) from rfl) (by decide) rfl rfl rfl (fun _ => ?_)
              have hl409 : qLs (lv_args 0 [.ref (85), .int (a1)]) [some (.ref (85)), some (.int (a1))] := qLs_ar 0
              refine q_iload_n (show mE (mtv 220) 0 = some (.iload_n 1, 1, 0, 0) from rfl) (hl409 1 _ rfl) ?_
              refine q_iconst (show mE (mtv 220) 1 = some (.iconst 0, 1, 0, 0) from rfl) kI_0 ?_
              refine q_aload_n (show mE (mtv 220) 2 = some (.aload_n 0, 1, 0, 0) from rfl) (hl409 0 _ rfl) ?_
              refine q_getI t38 (show mE (mtv 220) 3 = some (.getfield 117, 3, 9, 35) from rfl) (by decide) rfl ?_
              have r410 : j36 85 35 = I 85 35 := sc85 ag41 (by decide)
              rw [r410]; clear r410
              have r411 : I 85 35 = I 0 9 := hK.nk.symm
              rw [r411]; clear r411
              refine q_iconst (show mE (mtv 220) 6 = some (.iconst 1, 1, 0, 0) from rfl) kI_1 ?_
              refine q_isub (show mE (mtv 220) 7 = some (.isub, 1, 0, 0) from rfl) ?_
              refine q_staticP (show mE (mtv 220) 8 = some (.invokestatic 157, 3, 211, 0) from rfl) (by decide) rfl rfl rfl (fun _ g => sp_211 g) ?_
              refine q_ireturn (show mE (mtv 220) 11 = some (.ireturn, 1, 0, 0) from rfl) ?_
              refine qK_v ?_
              refine q_ifb_eq (t := 18) (show mE (mtv 263) 6 = some (.ifCond .eq 12, 3, 0, 0) from rfl) rfl (fun c412 => ?_) (fun c412 => ?_)
              · exfalso
                have s413 := hK.bk
                unfold inR at s413
                have s414 := i32_sub1 (x := I 0 9) (by omega)
                have s415 := hK.bd
                unfold inR at s415
                simp only [s414, Int32.lt_iff_toInt_lt, Int32.le_iff_toInt_le, ← Int32.toInt_inj, kt_0, kt_1] at c3 c14 c16 c33 c45 c412
                first | omega | contradiction
              · clear c412
                refine q_aload_n (show mE (mtv 263) 9 = some (.aload_n 0, 1, 0, 0) from rfl) (hl408 0 _ rfl) ?_
                refine q_iload (show mE (mtv 263) 10 = some (.iload 4, 2, 0, 0) from rfl) (hl408 4 _ rfl) ?_
                refine q_virtualI (show mE (mtv 263) 12 = some (.invokevirtual 183, 3, 223, 9) from rfl) (by decide) rfl rfl rfl (fun _ => ?_)
                have hl416 : qLs (lv_args 0 [.ref (85), .int (a4)]) [some (.ref (85)), some (.int (a4))] := qLs_ar 0
                refine q_iload_n (show mE (mtv 223) 0 = some (.iload_n 1, 1, 0, 0) from rfl) (hl416 1 _ rfl) ?_
                refine q_iconst (show mE (mtv 223) 1 = some (.iconst 0, 1, 0, 0) from rfl) kI_0 ?_
                refine q_aload_n (show mE (mtv 223) 2 = some (.aload_n 0, 1, 0, 0) from rfl) (hl416 0 _ rfl) ?_
                refine q_getI t38 (show mE (mtv 223) 3 = some (.getfield 120, 3, 9, 36) from rfl) (by decide) rfl ?_
                have r417 : j36 85 36 = I 85 36 := sc85 ag41 (by decide)
                rw [r417]; clear r417
                have r418 : I 85 36 = I 0 10 := hK.nd.symm
                rw [r418]; clear r418
                refine q_iconst (show mE (mtv 223) 6 = some (.iconst 1, 1, 0, 0) from rfl) kI_1 ?_
                refine q_isub (show mE (mtv 223) 7 = some (.isub, 1, 0, 0) from rfl) ?_
                refine q_staticP (show mE (mtv 223) 8 = some (.invokestatic 157, 3, 211, 0) from rfl) (by decide) rfl rfl rfl (fun _ g => sp_211 g) ?_
                refine q_ireturn (show mE (mtv 223) 11 = some (.ireturn, 1, 0, 0) from rfl) ?_
                refine qK_v ?_
                refine q_ifb_ne (t := 22) (show mE (mtv 263) 15 = some (.ifCond .ne 7, 3, 0, 0) from rfl) rfl (fun c419 => ?_) (fun c419 => ?_)
                · clear c419
                  refine q_aload_n (show mE (mtv 263) 22 = some (.aload_n 0, 1, 0, 0) from rfl) (hl408 0 _ rfl) ?_
                  refine q_iload_n (show mE (mtv 263) 23 = some (.iload_n 2, 1, 0, 0) from rfl) (hl408 2 _ rfl) ?_
                  refine q_virtualI (show mE (mtv 263) 24 = some (.invokevirtual 239, 3, 258, 9) from rfl) (by decide) rfl rfl rfl (fun _ => ?_)
                  have hl423 : qLs (lv_args 0 [.ref (85), .int (a2)]) [some (.ref (85)), some (.int (a2))] := qLs_ar 0
                  refine q_iload_n (show mE (mtv 258) 0 = some (.iload_n 1, 1, 0, 0) from rfl) (hl423 1 _ rfl) ?_
                  refine q_iconst (show mE (mtv 258) 1 = some (.iconst 0, 1, 0, 0) from rfl) kI_0 ?_
                  refine q_iconst (show mE (mtv 258) 2 = some (.iconst 1, 1, 0, 0) from rfl) kI_1 ?_
                  refine q_aload_n (show mE (mtv 258) 3 = some (.aload_n 0, 1, 0, 0) from rfl) (hl423 0 _ rfl) ?_
                  refine q_getI t38 (show mE (mtv 258) 4 = some (.getfield 104, 3, 9, 31) from rfl) (by decide) rfl ?_
                  have r424 : j36 85 31 = I 85 31 := sc85 ag41 (by decide)
                  rw [r424]; clear r424
                  have r425 : I 85 31 = I 1 1 := hK.ch.symm
                  rw [r425]; clear r425
                  refine q_ishl (show mE (mtv 258) 7 = some (.ishl, 1, 0, 0) from rfl) ?_
                  refine q_iconst (show mE (mtv 258) 8 = some (.iconst 1, 1, 0, 0) from rfl) kI_1 ?_
                  refine q_isub (show mE (mtv 258) 9 = some (.isub, 1, 0, 0) from rfl) ?_
                  refine q_staticP (show mE (mtv 258) 10 = some (.invokestatic 157, 3, 211, 0) from rfl) (by decide) rfl rfl rfl (fun _ g => sp_211 g) ?_
                  refine q_ireturn (show mE (mtv 258) 13 = some (.ireturn, 1, 0, 0) from rfl) ?_
                  refine qK_v ?_
                  refine q_ifb_ne (t := 34) (show mE (mtv 263) 27 = some (.ifCond .ne 7, 3, 0, 0) from rfl) rfl (fun c426 => ?_) (fun c426 => ?_)
                  · clear c426
                    refine q_aload_n (show mE (mtv 263) 34 = some (.aload_n 0, 1, 0, 0) from rfl) (hl408 0 _ rfl) ?_
                    refine q_iload_n (show mE (mtv 263) 35 = some (.iload_n 1, 1, 0, 0) from rfl) (hl408 1 _ rfl) ?_
                    refine q_iload_n (show mE (mtv 263) 36 = some (.iload_n 2, 1, 0, 0) from rfl) (hl408 2 _ rfl) ?_
                    refine q_iload_n (show mE (mtv 263) 37 = some (.iload_n 3, 1, 0, 0) from rfl) (hl408 3 _ rfl) ?_
                    refine q_virtualI (show mE (mtv 263) 38 = some (.invokevirtual 246, 3, 262, 9) from rfl) (by decide) rfl rfl rfl (fun _ => ?_)
                    have hl427 : qLs (lv_args 0 [.ref (85), .int (a1), .int (a2), .int (a3)]) [some (.ref (85)), some (.int (a1)), some (.int (a2)), some (.int (a3))] := qLs_ar 0
                    refine q_iload_n (show mE (mtv 262) 0 = some (.iload_n 3, 1, 0, 0) from rfl) (hl427 3 _ rfl) ?_
                    refine q_if_lt (t := 21) (show mE (mtv 262) 1 = some (.ifCond .lt 20, 3, 0, 0) from rfl) rfl (fun c428 => ?_) (fun c428 => ?_)
                    · refine q_iconst (show mE (mtv 262) 21 = some (.iconst 0, 1, 0, 0) from rfl) kI_0 ?_
                      refine q_ireturn (show mE (mtv 262) 22 = some (.ireturn, 1, 0, 0) from rfl) ?_
                      refine qK_v ?_
                      refine q_iff (t := 48) (show mE (mtv 263) 41 = some (.ifCond .ne 7, 3, 0, 0) from rfl) (by decide) rfl ?_
                      refine q_iconst (show mE (mtv 263) 44 = some (.iconst 3, 1, 0, 0) from rfl) kI_3 ?_
                      refine q_goto (t := 49) (show mE (mtv 263) 45 = some (.goto 4, 3, 0, 0) from rfl) rfl ?_
                      refine q_putI t38 (show mE (mtv 263) 49 = some (.putfield 138, 3, 9, 42) from rfl) (by decide) rfl (fun h429 t430 => ?_)
                      refine q_aload_n (show mE (mtv 263) 52 = some (.aload_n 0, 1, 0, 0) from rfl) (hl408 0 _ rfl) ?_
                      refine q_getIe t430 (show mE (mtv 263) 53 = some (.getfield 138, 3, 9, 42) from rfl) (by decide) rfl (upI_s) ?_
                      refine q_ift (t := 114) (show mE (mtv 263) 56 = some (.ifCond .ne 58, 3, 0, 0) from rfl) (by decide) rfl ?_
                      refine q_aload_n (show mE (mtv 263) 114 = some (.aload_n 0, 1, 0, 0) from rfl) (hl408 0 _ rfl) ?_
                      refine q_getIe t430 (show mE (mtv 263) 115 = some (.getfield 138, 3, 9, 42) from rfl) (by decide) rfl (upI_s) ?_
                      refine q_iff (t := 123) (show mE (mtv 263) 118 = some (.ifCond .le 5, 3, 0, 0) from rfl) (by decide) rfl ?_
                      refine q_iconst (show mE (mtv 263) 121 = some (.iconst 0, 1, 0, 0) from rfl) kI_0 ?_
                      refine q_ireturn (show mE (mtv 263) 122 = some (.ireturn, 1, 0, 0) from rfl) ?_
                      exact ⟨(3 : Int32), (0 : Int32), _, _, _, rfl, rfl, t430, upI_s, (fun e => absurd e (by decide)), p39 c3 c14 c16 c33 c35 v40 j36 e39 c45 c428⟩
                    · refine q_aload_n (show mE (mtv 262) 4 = some (.aload_n 0, 1, 0, 0) from rfl) (hl427 0 _ rfl) ?_
                      refine q_iload_n (show mE (mtv 262) 5 = some (.iload_n 1, 1, 0, 0) from rfl) (hl427 1 _ rfl) ?_
                      refine q_iload_n (show mE (mtv 262) 6 = some (.iload_n 2, 1, 0, 0) from rfl) (hl427 2 _ rfl) ?_
                      refine q_iload_n (show mE (mtv 262) 7 = some (.iload_n 3, 1, 0, 0) from rfl) (hl427 3 _ rfl) ?_
                      refine q_virtualE (show mE (mtv 262) 8 = some (.invokevirtual 242, 3, 259, 9) from rfl) (by decide) rfl rfl rfl (fun _ g => sp_259 t38 g) ?_
                      rintro _ ⟨v435, j431, h432, rfl, t433, e434⟩
                      refine qK_v ?_
                      refine q_iload_n (show mE (mtv 262) 11 = some (.iload_n 3, 1, 0, 0) from rfl) (hl427 3 _ rfl) ?_
                      refine q_iconst (show mE (mtv 262) 12 = some (.iconst 1, 1, 0, 0) from rfl) kI_1 ?_
                      refine q_iadd (show mE (mtv 262) 13 = some (.iadd, 1, 0, 0) from rfl) ?_
                      refine q_ic_ne (t := 21) (show mE (mtv 262) 14 = some (.if_icmp .ne 7, 3, 0, 0) from rfl) rfl (fun c436 => ?_) (fun c436 => ?_)
                      · refine q_iconst (show mE (mtv 262) 21 = some (.iconst 0, 1, 0, 0) from rfl) kI_0 ?_
                        refine q_ireturn (show mE (mtv 262) 22 = some (.ireturn, 1, 0, 0) from rfl) ?_
                        refine qK_v ?_
                        refine q_iff (t := 48) (show mE (mtv 263) 41 = some (.ifCond .ne 7, 3, 0, 0) from rfl) (by decide) rfl ?_
                        refine q_iconst (show mE (mtv 263) 44 = some (.iconst 3, 1, 0, 0) from rfl) kI_3 ?_
                        refine q_goto (t := 49) (show mE (mtv 263) 45 = some (.goto 4, 3, 0, 0) from rfl) rfl ?_
                        refine q_putI t433 (show mE (mtv 263) 49 = some (.putfield 138, 3, 9, 42) from rfl) (by decide) rfl (fun h437 t438 => ?_)
                        refine q_aload_n (show mE (mtv 263) 52 = some (.aload_n 0, 1, 0, 0) from rfl) (hl408 0 _ rfl) ?_
                        refine q_getIe t438 (show mE (mtv 263) 53 = some (.getfield 138, 3, 9, 42) from rfl) (by decide) rfl (upI_s) ?_
                        refine q_ift (t := 114) (show mE (mtv 263) 56 = some (.ifCond .ne 58, 3, 0, 0) from rfl) (by decide) rfl ?_
                        refine q_aload_n (show mE (mtv 263) 114 = some (.aload_n 0, 1, 0, 0) from rfl) (hl408 0 _ rfl) ?_
                        refine q_getIe t438 (show mE (mtv 263) 115 = some (.getfield 138, 3, 9, 42) from rfl) (by decide) rfl (upI_s) ?_
                        refine q_iff (t := 123) (show mE (mtv 263) 118 = some (.ifCond .le 5, 3, 0, 0) from rfl) (by decide) rfl ?_
                        refine q_iconst (show mE (mtv 263) 121 = some (.iconst 0, 1, 0, 0) from rfl) kI_0 ?_
                        refine q_ireturn (show mE (mtv 263) 122 = some (.ireturn, 1, 0, 0) from rfl) ?_
                        exact ⟨(3 : Int32), (0 : Int32), _, _, _, rfl, rfl, t438, upI_s, (fun e => absurd e (by decide)), p40 c3 c14 c16 c33 c35 v40 j36 e39 c45 c428 v435 j431 e434 c436⟩
                      · refine q_iconst (show mE (mtv 262) 17 = some (.iconst 1, 1, 0, 0) from rfl) kI_1 ?_
                        refine q_goto (t := 22) (show mE (mtv 262) 18 = some (.goto 4, 3, 0, 0) from rfl) rfl ?_
                        refine q_ireturn (show mE (mtv 262) 22 = some (.ireturn, 1, 0, 0) from rfl) ?_
                        refine qK_v ?_
                        refine q_ift (t := 48) (show mE (mtv 263) 41 = some (.ifCond .ne 7, 3, 0, 0) from rfl) (by decide) rfl ?_
                        refine q_iconst (show mE (mtv 263) 48 = some (.iconst 0, 1, 0, 0) from rfl) kI_0 ?_
                        refine q_putI t433 (show mE (mtv 263) 49 = some (.putfield 138, 3, 9, 42) from rfl) (by decide) rfl (fun h439 t440 => ?_)
                        refine q_aload_n (show mE (mtv 263) 52 = some (.aload_n 0, 1, 0, 0) from rfl) (hl408 0 _ rfl) ?_
                        refine q_getIe t440 (show mE (mtv 263) 53 = some (.getfield 138, 3, 9, 42) from rfl) (by decide) rfl (upI_s) ?_
                        refine q_iff (t := 114) (show mE (mtv 263) 56 = some (.ifCond .ne 58, 3, 0, 0) from rfl) (by decide) rfl ?_
                        refine q_aload_n (show mE (mtv 263) 59 = some (.aload_n 0, 1, 0, 0) from rfl) (hl408 0 _ rfl) ?_
                        refine q_aload_n (show mE (mtv 263) 60 = some (.aload_n 0, 1, 0, 0) from rfl) (hl408 0 _ rfl) ?_
                        refine q_virtualE (show mE (mtv 263) 61 = some (.invokevirtual 169, 3, 217, 9) from rfl) (by decide) rfl rfl rfl (fun _ g => sp_217 t440 g) ?_
                        rintro _ ⟨v441, rfl, e442⟩
                        refine qK_v ?_
                        refine q_iconst (show mE (mtv 263) 64 = some (.iconst (-1), 1, 0, 0) from rfl) kI_m1 ?_
                        refine q_ic_ne (t := 93) (show mE (mtv 263) 65 = some (.if_icmp .ne 28, 3, 0, 0) from rfl) rfl (fun c443 => ?_) (fun c443 => ?_)
                        · refine q_iconst (show mE (mtv 263) 93 = some (.iconst 4, 1, 0, 0) from rfl) kI_4 ?_
                          refine q_goto (t := 111) (show mE (mtv 263) 94 = some (.goto 17, 3, 0, 0) from rfl) rfl ?_
                          refine q_putI t440 (show mE (mtv 263) 111 = some (.putfield 138, 3, 9, 42) from rfl) (by decide) rfl (fun h444 t445 => ?_)
                          refine q_aload_n (show mE (mtv 263) 114 = some (.aload_n 0, 1, 0, 0) from rfl) (hl408 0 _ rfl) ?_
                          refine q_getIe t445 (show mE (mtv 263) 115 = some (.getfield 138, 3, 9, 42) from rfl) (by decide) rfl (upI_s) ?_
                          refine q_iff (t := 123) (show mE (mtv 263) 118 = some (.ifCond .le 5, 3, 0, 0) from rfl) (by decide) rfl ?_
                          refine q_iconst (show mE (mtv 263) 121 = some (.iconst 0, 1, 0, 0) from rfl) kI_0 ?_
                          refine q_ireturn (show mE (mtv 263) 122 = some (.ireturn, 1, 0, 0) from rfl) ?_
                          exact (p41 c3 c14 c16 c33 c35 v40 j36 e39 c45 c428 v435 j431 e434 c436 v441 e442 c443).elim
                        · refine q_aload_n (show mE (mtv 263) 68 = some (.aload_n 0, 1, 0, 0) from rfl) (hl408 0 _ rfl) ?_
                          refine q_iload (show mE (mtv 263) 69 = some (.iload 4, 2, 0, 0) from rfl) (hl408 4 _ rfl) ?_
                          refine q_iload_n (show mE (mtv 263) 71 = some (.iload_n 1, 1, 0, 0) from rfl) (hl408 1 _ rfl) ?_
                          refine q_virtualP (show mE (mtv 263) 72 = some (.invokevirtual 186, 3, 224, 9) from rfl) (by decide) rfl rfl rfl (fun _ g => sp_224 t440 g) ?_
                          refine q_ifb_eq (t := 93) (show mE (mtv 263) 75 = some (.ifCond .eq 18, 3, 0, 0) from rfl) rfl (fun c446 => ?_) (fun c446 => ?_)
                          · refine q_iconst (show mE (mtv 263) 93 = some (.iconst 4, 1, 0, 0) from rfl) kI_4 ?_
                            refine q_goto (t := 111) (show mE (mtv 263) 94 = some (.goto 17, 3, 0, 0) from rfl) rfl ?_
                            refine q_putI t440 (show mE (mtv 263) 111 = some (.putfield 138, 3, 9, 42) from rfl) (by decide) rfl (fun h447 t448 => ?_)
                            refine q_aload_n (show mE (mtv 263) 114 = some (.aload_n 0, 1, 0, 0) from rfl) (hl408 0 _ rfl) ?_
                            refine q_getIe t448 (show mE (mtv 263) 115 = some (.getfield 138, 3, 9, 42) from rfl) (by decide) rfl (upI_s) ?_
                            refine q_iff (t := 123) (show mE (mtv 263) 118 = some (.ifCond .le 5, 3, 0, 0) from rfl) (by decide) rfl ?_
                            refine q_iconst (show mE (mtv 263) 121 = some (.iconst 0, 1, 0, 0) from rfl) kI_0 ?_
                            refine q_ireturn (show mE (mtv 263) 122 = some (.ireturn, 1, 0, 0) from rfl) ?_
                            exact (p42 c3 c14 c16 c33 c35 v40 j36 e39 c45 c428 v435 j431 e434 c436 v441 e442 c443 c446).elim
                          · refine q_aload_n (show mE (mtv 263) 78 = some (.aload_n 0, 1, 0, 0) from rfl) (hl408 0 _ rfl) ?_
                            refine q_getIe t440 (show mE (mtv 263) 79 = some (.getfield 141, 3, 9, 43) from rfl) (by decide) rfl (upI_n (Or.inr (by decide))) ?_
                            refine q_aload_n (show mE (mtv 263) 82 = some (.aload_n 0, 1, 0, 0) from rfl) (hl408 0 _ rfl) ?_
                            refine q_getR (m := 97) t440 (show mE (mtv 263) 83 = some (.getfield 44, 3, 9, 11) from rfl) (by decide) rfl rfl ?_
                            refine q_iload (show mE (mtv 263) 86 = some (.iload 4, 2, 0, 0) from rfl) (hl408 4 _ rfl) ?_
                            refine q_iaload (n := 10) t440 (show mE (mtv 263) 88 = some (.iaload, 1, 0, 0) from rfl) (by decide) rfl (fun bb449 => ?_)
                            have g450 : (upI j431 85 42 (0 : Int32)) 97 (a4).toNatClampNeg = j431 97 ((a4).toNatClampNeg) := upI_n (Or.inl (by decide))
                            rw [g450]; clear g450
                            refine q_iand (show mE (mtv 263) 89 = some (.iand, 1, 0, 0) from rfl) ?_
                            refine q_if_eq (t := 97) (show mE (mtv 263) 90 = some (.ifCond .eq 7, 3, 0, 0) from rfl) rfl (fun c451 => ?_) (fun c451 => ?_)
                            · refine q_aload_n (show mE (mtv 263) 97 = some (.aload_n 0, 1, 0, 0) from rfl) (hl408 0 _ rfl) ?_
                              refine q_getIe t440 (show mE (mtv 263) 98 = some (.getfield 117, 3, 9, 35) from rfl) (by decide) rfl (upI_n (Or.inr (by decide))) ?_
                              refine q_bipush (show mE (mtv 263) 101 = some (.bipush 16, 2, 0, 0) from rfl) kB_16 ?_
                              refine q_ic_ne (t := 110) (show mE (mtv 263) 103 = some (.if_icmp .ne 7, 3, 0, 0) from rfl) rfl (fun c452 => ?_) (fun c452 => ?_)
                              · refine q_iconst (show mE (mtv 263) 110 = some (.iconst 0, 1, 0, 0) from rfl) kI_0 ?_
                                refine q_putI t440 (show mE (mtv 263) 111 = some (.putfield 138, 3, 9, 42) from rfl) (by decide) rfl (fun h453 t454 => ?_)
                                refine q_aload_n (show mE (mtv 263) 114 = some (.aload_n 0, 1, 0, 0) from rfl) (hl408 0 _ rfl) ?_
                                refine q_getIe t454 (show mE (mtv 263) 115 = some (.getfield 138, 3, 9, 42) from rfl) (by decide) rfl (upI_s) ?_
                                refine q_ift (t := 123) (show mE (mtv 263) 118 = some (.ifCond .le 5, 3, 0, 0) from rfl) (by decide) rfl ?_
                                refine q_aload_n (show mE (mtv 263) 123 = some (.aload_n 0, 1, 0, 0) from rfl) (hl408 0 _ rfl) ?_
                                refine q_getR (m := 88) t454 (show mE (mtv 263) 124 = some (.getfield 16, 3, 9, 2) from rfl) (by decide) rfl rfl ?_
                                refine q_iload_n (show mE (mtv 263) 127 = some (.iload_n 1, 1, 0, 0) from rfl) (hl408 1 _ rfl) ?_
                                refine q_dup2 (show mE (mtv 263) 128 = some (.dup2, 1, 0, 0) from rfl) ?_
                                refine q_iaload (n := 16) t454 (show mE (mtv 263) 129 = some (.iaload, 1, 0, 0) from rfl) (by decide) rfl (fun bb455 => ?_)
                                have g456 : (upI (upI j431 85 42 (0 : Int32)) 85 42 (0 : Int32)) 88 (a1).toNatClampNeg = j431 88 ((a1).toNatClampNeg) := (upI_n (Or.inl (by decide))).trans (upI_n (Or.inl (by decide)))
                                rw [g456]; clear g456
                                refine q_iconst (show mE (mtv 263) 130 = some (.iconst 1, 1, 0, 0) from rfl) kI_1 ?_
                                refine q_iload (show mE (mtv 263) 131 = some (.iload 4, 2, 0, 0) from rfl) (hl408 4 _ rfl) ?_
                                refine q_ishl (show mE (mtv 263) 133 = some (.ishl, 1, 0, 0) from rfl) ?_
                                refine q_ior (show mE (mtv 263) 134 = some (.ior, 1, 0, 0) from rfl) ?_
                                refine q_iastore (n := 16) t454 (show mE (mtv 263) 135 = some (.iastore, 1, 0, 0) from rfl) (by decide) rfl (fun bb457 h458 t459 => ?_)
                                refine q_aload_n (show mE (mtv 263) 136 = some (.aload_n 0, 1, 0, 0) from rfl) (hl408 0 _ rfl) ?_
                                refine q_iconst (show mE (mtv 263) 137 = some (.iconst 1, 1, 0, 0) from rfl) kI_1 ?_
                                refine q_iload (show mE (mtv 263) 138 = some (.iload 4, 2, 0, 0) from rfl) (hl408 4 _ rfl) ?_
                                refine q_ishl (show mE (mtv 263) 140 = some (.ishl, 1, 0, 0) from rfl) ?_
                                refine q_virtualE (show mE (mtv 263) 141 = some (.invokevirtual 172, 3, 218, 9) from rfl) (by decide) rfl rfl rfl (fun _ g => sp_218 t459 g) ?_
                                rintro _ ⟨v464, j460, h461, rfl, t462, e463⟩
                                refine qK_v ?_
                                refine q_ireturn (show mE (mtv 263) 144 = some (.ireturn, 1, 0, 0) from rfl) ?_
                                exact ⟨(3 : Int32), v464, _, _, _, rfl, rfl, t462, (p43 c3 c14 c16 c33 c35 v40 j36 e39 c45 c428 v435 j431 e434 c436 v441 e442 c443 c446 bb449 c451 c452 bb455 v464 j460 e463).1, (fun e => absurd e (by decide)), (p43 c3 c14 c16 c33 c35 v40 j36 e39 c45 c428 v435 j431 e434 c436 v441 e442 c443 c446 bb449 c451 c452 bb455 v464 j460 e463).2⟩
                              · refine q_iconst (show mE (mtv 263) 106 = some (.iconst 5, 1, 0, 0) from rfl) kI_5 ?_
                                refine q_goto (t := 111) (show mE (mtv 263) 107 = some (.goto 4, 3, 0, 0) from rfl) rfl ?_
                                refine q_putI t440 (show mE (mtv 263) 111 = some (.putfield 138, 3, 9, 42) from rfl) (by decide) rfl (fun h465 t466 => ?_)
                                refine q_aload_n (show mE (mtv 263) 114 = some (.aload_n 0, 1, 0, 0) from rfl) (hl408 0 _ rfl) ?_
                                refine q_getIe t466 (show mE (mtv 263) 115 = some (.getfield 138, 3, 9, 42) from rfl) (by decide) rfl (upI_s) ?_
                                refine q_iff (t := 123) (show mE (mtv 263) 118 = some (.ifCond .le 5, 3, 0, 0) from rfl) (by decide) rfl ?_
                                refine q_iconst (show mE (mtv 263) 121 = some (.iconst 0, 1, 0, 0) from rfl) kI_0 ?_
                                refine q_ireturn (show mE (mtv 263) 122 = some (.ireturn, 1, 0, 0) from rfl) ?_
                                exact (p44 c3 c14 c16 c33 c35 v40 j36 e39 c45 c428 v435 j431 e434 c436 v441 e442 c443 c446 bb449 c451 c452).elim
                            · refine q_iconst (show mE (mtv 263) 93 = some (.iconst 4, 1, 0, 0) from rfl) kI_4 ?_
                              refine q_goto (t := 111) (show mE (mtv 263) 94 = some (.goto 17, 3, 0, 0) from rfl) rfl ?_
                              refine q_putI t440 (show mE (mtv 263) 111 = some (.putfield 138, 3, 9, 42) from rfl) (by decide) rfl (fun h467 t468 => ?_)
                              refine q_aload_n (show mE (mtv 263) 114 = some (.aload_n 0, 1, 0, 0) from rfl) (hl408 0 _ rfl) ?_
                              refine q_getIe t468 (show mE (mtv 263) 115 = some (.getfield 138, 3, 9, 42) from rfl) (by decide) rfl (upI_s) ?_
                              refine q_iff (t := 123) (show mE (mtv 263) 118 = some (.ifCond .le 5, 3, 0, 0) from rfl) (by decide) rfl ?_
                              refine q_iconst (show mE (mtv 263) 121 = some (.iconst 0, 1, 0, 0) from rfl) kI_0 ?_
                              refine q_ireturn (show mE (mtv 263) 122 = some (.ireturn, 1, 0, 0) from rfl) ?_
                              exact (p45 c3 c14 c16 c33 c35 v40 j36 e39 c45 c428 v435 j431 e434 c436 v441 e442 c443 c446 bb449 c451).elim
                  · exact absurd c35 c426
                · exfalso
                  have s420 := hK.bk
                  unfold inR at s420
                  have s421 := hK.bd
                  unfold inR at s421
                  have s422 := i32_sub1 (x := I 0 10) (by omega)
                  simp only [s422, Int32.lt_iff_toInt_lt, Int32.le_iff_toInt_le, ← Int32.toInt_inj, kt_0, kt_1] at c3 c14 c16 c33 c45 c419
                  first | omega | contradiction
          · refine q_throw (show mE (mtv 119) 19 = some (.new 81, 3, 1000, 0) from rfl) (by decide) ?_
            refine qK_x ?_
            refine qKh_x (hp := 21) (c := (23, sDr 6 (lv_args 0 [.ref (0), .int (a1), .int (a2), .int (a3), .int (a4), .ref (117)]), [], h)) rfl (by decide) (fun _ _ => rfl) ?_
            refine q_iconst (show mE (mtv 127) 23 = some (.iconst 2, 1, 0, 0) from rfl) kI_2 ?_
            refine q_ireturn (show mE (mtv 127) 24 = some (.ireturn, 1, 0, 0) from rfl) ?_
            intro r469 g470
            have g470 : qGo 263 [.ref (85), .int (a1), .int (a2), .int (a3), .int (a4)] h r469 := g470
            refine qGo_w (Q := fun r2 => opE (.inl (some (.int ((2 : Int32))))) r2.1 r2.2 RK) g470 (fun _ => ?_)
            have hl471 : qLs (lv_args 0 [.ref (85), .int (a1), .int (a2), .int (a3), .int (a4)]) [some (.ref (85)), some (.int (a1)), some (.int (a2)), some (.int (a3)), some (.int (a4))] := qLs_ar 0
            refine q_aload_n (show mE (mtv 263) 0 = some (.aload_n 0, 1, 0, 0) from rfl) (hl471 0 _ rfl) ?_
            refine q_aload_n (show mE (mtv 263) 1 = some (.aload_n 0, 1, 0, 0) from rfl) (hl471 0 _ rfl) ?_
            refine q_iload_n (show mE (mtv 263) 2 = some (.iload_n 1, 1, 0, 0) from rfl) (hl471 1 _ rfl) ?_
            refine q_virtualI (show mE (mtv 263) 3 = some (.invokevirtual 175, 3, 220, 9) from rfl) (by decide) rfl rfl rfl (fun _ => ?_)
            have hl472 : qLs (lv_args 0 [.ref (85), .int (a1)]) [some (.ref (85)), some (.int (a1))] := qLs_ar 0
            refine q_iload_n (show mE (mtv 220) 0 = some (.iload_n 1, 1, 0, 0) from rfl) (hl472 1 _ rfl) ?_
            refine q_iconst (show mE (mtv 220) 1 = some (.iconst 0, 1, 0, 0) from rfl) kI_0 ?_
            refine q_aload_n (show mE (mtv 220) 2 = some (.aload_n 0, 1, 0, 0) from rfl) (hl472 0 _ rfl) ?_
            refine q_getI th (show mE (mtv 220) 3 = some (.getfield 117, 3, 9, 35) from rfl) (by decide) rfl ?_
            have r473 : I 85 35 = I 0 9 := hK.nk.symm
            rw [r473]; clear r473
            refine q_iconst (show mE (mtv 220) 6 = some (.iconst 1, 1, 0, 0) from rfl) kI_1 ?_
            refine q_isub (show mE (mtv 220) 7 = some (.isub, 1, 0, 0) from rfl) ?_
            refine q_staticP (show mE (mtv 220) 8 = some (.invokestatic 157, 3, 211, 0) from rfl) (by decide) rfl rfl rfl (fun _ g => sp_211 g) ?_
            refine q_ireturn (show mE (mtv 220) 11 = some (.ireturn, 1, 0, 0) from rfl) ?_
            refine qK_v ?_
            refine q_ifb_eq (t := 18) (show mE (mtv 263) 6 = some (.ifCond .eq 12, 3, 0, 0) from rfl) rfl (fun c474 => ?_) (fun c474 => ?_)
            · exfalso
              have s475 := hK.bk
              unfold inR at s475
              have s476 := i32_sub1 (x := I 0 9) (by omega)
              have s477 := hK.bd
              unfold inR at s477
              simp only [s476, Int32.lt_iff_toInt_lt, Int32.le_iff_toInt_le, ← Int32.toInt_inj, kt_0, kt_1] at c3 c14 c16 c33 c474
              first | omega | contradiction
            · clear c474
              refine q_aload_n (show mE (mtv 263) 9 = some (.aload_n 0, 1, 0, 0) from rfl) (hl471 0 _ rfl) ?_
              refine q_iload (show mE (mtv 263) 10 = some (.iload 4, 2, 0, 0) from rfl) (hl471 4 _ rfl) ?_
              refine q_virtualI (show mE (mtv 263) 12 = some (.invokevirtual 183, 3, 223, 9) from rfl) (by decide) rfl rfl rfl (fun _ => ?_)
              have hl478 : qLs (lv_args 0 [.ref (85), .int (a4)]) [some (.ref (85)), some (.int (a4))] := qLs_ar 0
              refine q_iload_n (show mE (mtv 223) 0 = some (.iload_n 1, 1, 0, 0) from rfl) (hl478 1 _ rfl) ?_
              refine q_iconst (show mE (mtv 223) 1 = some (.iconst 0, 1, 0, 0) from rfl) kI_0 ?_
              refine q_aload_n (show mE (mtv 223) 2 = some (.aload_n 0, 1, 0, 0) from rfl) (hl478 0 _ rfl) ?_
              refine q_getI th (show mE (mtv 223) 3 = some (.getfield 120, 3, 9, 36) from rfl) (by decide) rfl ?_
              have r479 : I 85 36 = I 0 10 := hK.nd.symm
              rw [r479]; clear r479
              refine q_iconst (show mE (mtv 223) 6 = some (.iconst 1, 1, 0, 0) from rfl) kI_1 ?_
              refine q_isub (show mE (mtv 223) 7 = some (.isub, 1, 0, 0) from rfl) ?_
              refine q_staticP (show mE (mtv 223) 8 = some (.invokestatic 157, 3, 211, 0) from rfl) (by decide) rfl rfl rfl (fun _ g => sp_211 g) ?_
              refine q_ireturn (show mE (mtv 223) 11 = some (.ireturn, 1, 0, 0) from rfl) ?_
              refine qK_v ?_
              refine q_ifb_ne (t := 22) (show mE (mtv 263) 15 = some (.ifCond .ne 7, 3, 0, 0) from rfl) rfl (fun c480 => ?_) (fun c480 => ?_)
              · clear c480
                refine q_aload_n (show mE (mtv 263) 22 = some (.aload_n 0, 1, 0, 0) from rfl) (hl471 0 _ rfl) ?_
                refine q_iload_n (show mE (mtv 263) 23 = some (.iload_n 2, 1, 0, 0) from rfl) (hl471 2 _ rfl) ?_
                refine q_virtualI (show mE (mtv 263) 24 = some (.invokevirtual 239, 3, 258, 9) from rfl) (by decide) rfl rfl rfl (fun _ => ?_)
                have hl484 : qLs (lv_args 0 [.ref (85), .int (a2)]) [some (.ref (85)), some (.int (a2))] := qLs_ar 0
                refine q_iload_n (show mE (mtv 258) 0 = some (.iload_n 1, 1, 0, 0) from rfl) (hl484 1 _ rfl) ?_
                refine q_iconst (show mE (mtv 258) 1 = some (.iconst 0, 1, 0, 0) from rfl) kI_0 ?_
                refine q_iconst (show mE (mtv 258) 2 = some (.iconst 1, 1, 0, 0) from rfl) kI_1 ?_
                refine q_aload_n (show mE (mtv 258) 3 = some (.aload_n 0, 1, 0, 0) from rfl) (hl484 0 _ rfl) ?_
                refine q_getI th (show mE (mtv 258) 4 = some (.getfield 104, 3, 9, 31) from rfl) (by decide) rfl ?_
                have r485 : I 85 31 = I 1 1 := hK.ch.symm
                rw [r485]; clear r485
                refine q_ishl (show mE (mtv 258) 7 = some (.ishl, 1, 0, 0) from rfl) ?_
                refine q_iconst (show mE (mtv 258) 8 = some (.iconst 1, 1, 0, 0) from rfl) kI_1 ?_
                refine q_isub (show mE (mtv 258) 9 = some (.isub, 1, 0, 0) from rfl) ?_
                refine q_staticP (show mE (mtv 258) 10 = some (.invokestatic 157, 3, 211, 0) from rfl) (by decide) rfl rfl rfl (fun _ g => sp_211 g) ?_
                refine q_ireturn (show mE (mtv 258) 13 = some (.ireturn, 1, 0, 0) from rfl) ?_
                refine qK_v ?_
                refine q_ifb_ne (t := 34) (show mE (mtv 263) 27 = some (.ifCond .ne 7, 3, 0, 0) from rfl) rfl (fun c486 => ?_) (fun c486 => ?_)
                · exact absurd c486 c35
                · clear c486
                  refine q_iconst (show mE (mtv 263) 30 = some (.iconst 2, 1, 0, 0) from rfl) kI_2 ?_
                  refine q_goto (t := 49) (show mE (mtv 263) 31 = some (.goto 18, 3, 0, 0) from rfl) rfl ?_
                  refine q_putI th (show mE (mtv 263) 49 = some (.putfield 138, 3, 9, 42) from rfl) (by decide) rfl (fun h487 t488 => ?_)
                  refine q_aload_n (show mE (mtv 263) 52 = some (.aload_n 0, 1, 0, 0) from rfl) (hl471 0 _ rfl) ?_
                  refine q_getIe t488 (show mE (mtv 263) 53 = some (.getfield 138, 3, 9, 42) from rfl) (by decide) rfl (upI_s) ?_
                  refine q_ift (t := 114) (show mE (mtv 263) 56 = some (.ifCond .ne 58, 3, 0, 0) from rfl) (by decide) rfl ?_
                  refine q_aload_n (show mE (mtv 263) 114 = some (.aload_n 0, 1, 0, 0) from rfl) (hl471 0 _ rfl) ?_
                  refine q_getIe t488 (show mE (mtv 263) 115 = some (.getfield 138, 3, 9, 42) from rfl) (by decide) rfl (upI_s) ?_
                  refine q_iff (t := 123) (show mE (mtv 263) 118 = some (.ifCond .le 5, 3, 0, 0) from rfl) (by decide) rfl ?_
                  refine q_iconst (show mE (mtv 263) 121 = some (.iconst 0, 1, 0, 0) from rfl) kI_0 ?_
                  refine q_ireturn (show mE (mtv 263) 122 = some (.ireturn, 1, 0, 0) from rfl) ?_
                  exact ⟨(2 : Int32), (0 : Int32), _, _, _, rfl, rfl, t488, upI_s, (fun e => absurd e (by decide)), (RK_t (2 : Int32) hK)⟩
              · exfalso
                have s481 := hK.bk
                unfold inR at s481
                have s482 := hK.bd
                unfold inR at s482
                have s483 := i32_sub1 (x := I 0 10) (by omega)
                simp only [s483, Int32.lt_iff_toInt_lt, Int32.le_iff_toInt_le, ← Int32.toInt_inj, kt_0, kt_1] at c3 c14 c16 c33 c480
                first | omega | contradiction
        · refine q_throw (show mE (mtv 67) 12 = some (.new 338, 3, 1002, 0) from rfl) (by decide) ?_
          refine qK_x ?_
          refine qKh_x (hp := 17) (c := (19, sDr 6 (lv_args 0 [.ref (0), .int (a1), .int (a2), .int (a3), .int (a4), .ref (117)]), [], h)) rfl (by decide) (fun _ _ => rfl) ?_
          refine q_iconst (show mE (mtv 127) 19 = some (.iconst 1, 1, 0, 0) from rfl) kI_1 ?_
          refine q_ireturn (show mE (mtv 127) 20 = some (.ireturn, 1, 0, 0) from rfl) ?_
          intro r489 g490
          have g490 : qGo 263 [.ref (85), .int (a1), .int (a2), .int (a3), .int (a4)] h r489 := g490
          refine qGo_w (Q := fun r2 => opE (.inl (some (.int ((1 : Int32))))) r2.1 r2.2 RK) g490 (fun _ => ?_)
          have hl491 : qLs (lv_args 0 [.ref (85), .int (a1), .int (a2), .int (a3), .int (a4)]) [some (.ref (85)), some (.int (a1)), some (.int (a2)), some (.int (a3)), some (.int (a4))] := qLs_ar 0
          refine q_aload_n (show mE (mtv 263) 0 = some (.aload_n 0, 1, 0, 0) from rfl) (hl491 0 _ rfl) ?_
          refine q_aload_n (show mE (mtv 263) 1 = some (.aload_n 0, 1, 0, 0) from rfl) (hl491 0 _ rfl) ?_
          refine q_iload_n (show mE (mtv 263) 2 = some (.iload_n 1, 1, 0, 0) from rfl) (hl491 1 _ rfl) ?_
          refine q_virtualI (show mE (mtv 263) 3 = some (.invokevirtual 175, 3, 220, 9) from rfl) (by decide) rfl rfl rfl (fun _ => ?_)
          have hl492 : qLs (lv_args 0 [.ref (85), .int (a1)]) [some (.ref (85)), some (.int (a1))] := qLs_ar 0
          refine q_iload_n (show mE (mtv 220) 0 = some (.iload_n 1, 1, 0, 0) from rfl) (hl492 1 _ rfl) ?_
          refine q_iconst (show mE (mtv 220) 1 = some (.iconst 0, 1, 0, 0) from rfl) kI_0 ?_
          refine q_aload_n (show mE (mtv 220) 2 = some (.aload_n 0, 1, 0, 0) from rfl) (hl492 0 _ rfl) ?_
          refine q_getI th (show mE (mtv 220) 3 = some (.getfield 117, 3, 9, 35) from rfl) (by decide) rfl ?_
          have r493 : I 85 35 = I 0 9 := hK.nk.symm
          rw [r493]; clear r493
          refine q_iconst (show mE (mtv 220) 6 = some (.iconst 1, 1, 0, 0) from rfl) kI_1 ?_
          refine q_isub (show mE (mtv 220) 7 = some (.isub, 1, 0, 0) from rfl) ?_
          refine q_staticP (show mE (mtv 220) 8 = some (.invokestatic 157, 3, 211, 0) from rfl) (by decide) rfl rfl rfl (fun _ g => sp_211 g) ?_
          refine q_ireturn (show mE (mtv 220) 11 = some (.ireturn, 1, 0, 0) from rfl) ?_
          refine qK_v ?_
          refine q_ifb_eq (t := 18) (show mE (mtv 263) 6 = some (.ifCond .eq 12, 3, 0, 0) from rfl) rfl (fun c494 => ?_) (fun c494 => ?_)
          · exfalso
            have s495 := hK.bk
            unfold inR at s495
            have s496 := i32_sub1 (x := I 0 9) (by omega)
            have s497 := hK.bd
            unfold inR at s497
            simp only [s496, Int32.lt_iff_toInt_lt, Int32.le_iff_toInt_le, ← Int32.toInt_inj, kt_0, kt_1] at c3 c14 c16 c33 c494
            first | omega | contradiction
          · clear c494
            refine q_aload_n (show mE (mtv 263) 9 = some (.aload_n 0, 1, 0, 0) from rfl) (hl491 0 _ rfl) ?_
            refine q_iload (show mE (mtv 263) 10 = some (.iload 4, 2, 0, 0) from rfl) (hl491 4 _ rfl) ?_
            refine q_virtualI (show mE (mtv 263) 12 = some (.invokevirtual 183, 3, 223, 9) from rfl) (by decide) rfl rfl rfl (fun _ => ?_)
            have hl498 : qLs (lv_args 0 [.ref (85), .int (a4)]) [some (.ref (85)), some (.int (a4))] := qLs_ar 0
            refine q_iload_n (show mE (mtv 223) 0 = some (.iload_n 1, 1, 0, 0) from rfl) (hl498 1 _ rfl) ?_
            refine q_iconst (show mE (mtv 223) 1 = some (.iconst 0, 1, 0, 0) from rfl) kI_0 ?_
            refine q_aload_n (show mE (mtv 223) 2 = some (.aload_n 0, 1, 0, 0) from rfl) (hl498 0 _ rfl) ?_
            refine q_getI th (show mE (mtv 223) 3 = some (.getfield 120, 3, 9, 36) from rfl) (by decide) rfl ?_
            have r499 : I 85 36 = I 0 10 := hK.nd.symm
            rw [r499]; clear r499
            refine q_iconst (show mE (mtv 223) 6 = some (.iconst 1, 1, 0, 0) from rfl) kI_1 ?_
            refine q_isub (show mE (mtv 223) 7 = some (.isub, 1, 0, 0) from rfl) ?_
            refine q_staticP (show mE (mtv 223) 8 = some (.invokestatic 157, 3, 211, 0) from rfl) (by decide) rfl rfl rfl (fun _ g => sp_211 g) ?_
            refine q_ireturn (show mE (mtv 223) 11 = some (.ireturn, 1, 0, 0) from rfl) ?_
            refine qK_v ?_
            refine q_ifb_ne (t := 22) (show mE (mtv 263) 15 = some (.ifCond .ne 7, 3, 0, 0) from rfl) rfl (fun c500 => ?_) (fun c500 => ?_)
            · exfalso
              have s501 := hK.bk
              unfold inR at s501
              have s502 := hK.bd
              unfold inR at s502
              have s503 := i32_sub1 (x := I 0 10) (by omega)
              simp only [s503, Int32.lt_iff_toInt_lt, Int32.le_iff_toInt_le, ← Int32.toInt_inj, kt_0, kt_1] at c3 c14 c16 c33 c500
              first | omega | contradiction
            · clear c500
              refine q_iconst (show mE (mtv 263) 18 = some (.iconst 1, 1, 0, 0) from rfl) kI_1 ?_
              refine q_goto (t := 49) (show mE (mtv 263) 19 = some (.goto 30, 3, 0, 0) from rfl) rfl ?_
              refine q_putI th (show mE (mtv 263) 49 = some (.putfield 138, 3, 9, 42) from rfl) (by decide) rfl (fun h504 t505 => ?_)
              refine q_aload_n (show mE (mtv 263) 52 = some (.aload_n 0, 1, 0, 0) from rfl) (hl491 0 _ rfl) ?_
              refine q_getIe t505 (show mE (mtv 263) 53 = some (.getfield 138, 3, 9, 42) from rfl) (by decide) rfl (upI_s) ?_
              refine q_ift (t := 114) (show mE (mtv 263) 56 = some (.ifCond .ne 58, 3, 0, 0) from rfl) (by decide) rfl ?_
              refine q_aload_n (show mE (mtv 263) 114 = some (.aload_n 0, 1, 0, 0) from rfl) (hl491 0 _ rfl) ?_
              refine q_getIe t505 (show mE (mtv 263) 115 = some (.getfield 138, 3, 9, 42) from rfl) (by decide) rfl (upI_s) ?_
              refine q_iff (t := 123) (show mE (mtv 263) 118 = some (.ifCond .le 5, 3, 0, 0) from rfl) (by decide) rfl ?_
              refine q_iconst (show mE (mtv 263) 121 = some (.iconst 0, 1, 0, 0) from rfl) kI_0 ?_
              refine q_ireturn (show mE (mtv 263) 122 = some (.ireturn, 1, 0, 0) from rfl) ?_
              exact ⟨(1 : Int32), (0 : Int32), _, _, _, rfl, rfl, t505, upI_s, (fun e => absurd e (by decide)), (RK_t (1 : Int32) hK)⟩
    · refine q_throw (show mE (mtv 61) 12 = some (.new 338, 3, 1002, 0) from rfl) (by decide) ?_
      refine qK_x ?_
      refine qKh_x (hp := 17) (c := (19, sDr 6 (lv_args 0 [.ref (0), .int (a1), .int (a2), .int (a3), .int (a4), .ref (117)]), [], h)) rfl (by decide) (fun _ _ => rfl) ?_
      refine q_iconst (show mE (mtv 127) 19 = some (.iconst 1, 1, 0, 0) from rfl) kI_1 ?_
      refine q_ireturn (show mE (mtv 127) 20 = some (.ireturn, 1, 0, 0) from rfl) ?_
      intro r506 g507
      have g507 : qGo 263 [.ref (85), .int (a1), .int (a2), .int (a3), .int (a4)] h r506 := g507
      refine qGo_w (Q := fun r2 => opE (.inl (some (.int ((1 : Int32))))) r2.1 r2.2 RK) g507 (fun _ => ?_)
      have hl508 : qLs (lv_args 0 [.ref (85), .int (a1), .int (a2), .int (a3), .int (a4)]) [some (.ref (85)), some (.int (a1)), some (.int (a2)), some (.int (a3)), some (.int (a4))] := qLs_ar 0
      refine q_aload_n (show mE (mtv 263) 0 = some (.aload_n 0, 1, 0, 0) from rfl) (hl508 0 _ rfl) ?_
      refine q_aload_n (show mE (mtv 263) 1 = some (.aload_n 0, 1, 0, 0) from rfl) (hl508 0 _ rfl) ?_
      refine q_iload_n (show mE (mtv 263) 2 = some (.iload_n 1, 1, 0, 0) from rfl) (hl508 1 _ rfl) ?_
      refine q_virtualI (show mE (mtv 263) 3 = some (.invokevirtual 175, 3, 220, 9) from rfl) (by decide) rfl rfl rfl (fun _ => ?_)
      have hl509 : qLs (lv_args 0 [.ref (85), .int (a1)]) [some (.ref (85)), some (.int (a1))] := qLs_ar 0
      refine q_iload_n (show mE (mtv 220) 0 = some (.iload_n 1, 1, 0, 0) from rfl) (hl509 1 _ rfl) ?_
      refine q_iconst (show mE (mtv 220) 1 = some (.iconst 0, 1, 0, 0) from rfl) kI_0 ?_
      refine q_aload_n (show mE (mtv 220) 2 = some (.aload_n 0, 1, 0, 0) from rfl) (hl509 0 _ rfl) ?_
      refine q_getI th (show mE (mtv 220) 3 = some (.getfield 117, 3, 9, 35) from rfl) (by decide) rfl ?_
      have r510 : I 85 35 = I 0 9 := hK.nk.symm
      rw [r510]; clear r510
      refine q_iconst (show mE (mtv 220) 6 = some (.iconst 1, 1, 0, 0) from rfl) kI_1 ?_
      refine q_isub (show mE (mtv 220) 7 = some (.isub, 1, 0, 0) from rfl) ?_
      refine q_staticP (show mE (mtv 220) 8 = some (.invokestatic 157, 3, 211, 0) from rfl) (by decide) rfl rfl rfl (fun _ g => sp_211 g) ?_
      refine q_ireturn (show mE (mtv 220) 11 = some (.ireturn, 1, 0, 0) from rfl) ?_
      refine qK_v ?_
      refine q_ifb_eq (t := 18) (show mE (mtv 263) 6 = some (.ifCond .eq 12, 3, 0, 0) from rfl) rfl (fun c511 => ?_) (fun c511 => ?_)
      · clear c511
        refine q_iconst (show mE (mtv 263) 18 = some (.iconst 1, 1, 0, 0) from rfl) kI_1 ?_
        refine q_goto (t := 49) (show mE (mtv 263) 19 = some (.goto 30, 3, 0, 0) from rfl) rfl ?_
        refine q_putI th (show mE (mtv 263) 49 = some (.putfield 138, 3, 9, 42) from rfl) (by decide) rfl (fun h514 t515 => ?_)
        refine q_aload_n (show mE (mtv 263) 52 = some (.aload_n 0, 1, 0, 0) from rfl) (hl508 0 _ rfl) ?_
        refine q_getIe t515 (show mE (mtv 263) 53 = some (.getfield 138, 3, 9, 42) from rfl) (by decide) rfl (upI_s) ?_
        refine q_ift (t := 114) (show mE (mtv 263) 56 = some (.ifCond .ne 58, 3, 0, 0) from rfl) (by decide) rfl ?_
        refine q_aload_n (show mE (mtv 263) 114 = some (.aload_n 0, 1, 0, 0) from rfl) (hl508 0 _ rfl) ?_
        refine q_getIe t515 (show mE (mtv 263) 115 = some (.getfield 138, 3, 9, 42) from rfl) (by decide) rfl (upI_s) ?_
        refine q_iff (t := 123) (show mE (mtv 263) 118 = some (.ifCond .le 5, 3, 0, 0) from rfl) (by decide) rfl ?_
        refine q_iconst (show mE (mtv 263) 121 = some (.iconst 0, 1, 0, 0) from rfl) kI_0 ?_
        refine q_ireturn (show mE (mtv 263) 122 = some (.ireturn, 1, 0, 0) from rfl) ?_
        exact ⟨(1 : Int32), (0 : Int32), _, _, _, rfl, rfl, t515, upI_s, (fun e => absurd e (by decide)), (RK_t (1 : Int32) hK)⟩
      · exfalso
        have s512 := hK.bk
        unfold inR at s512
        have s513 := i32_sub1 (x := I 0 9) (by omega)
        simp only [s513, Int32.lt_iff_toInt_lt, Int32.le_iff_toInt_le, ← Int32.toInt_inj, kt_0, kt_1] at c3 c14 c511
        first | omega | contradiction
theorem ok_25 {h : sH} {I : Nat → Nat → Int32} {L : Nat → Nat → Int64} {R : Nat → Nat} (th : qH h I L R) (hK : RK I L R) (hG : RG I) {a1 : Int32} {a2 : Int32} {a3 : Int32} {a4 : Int32} {r : sR} (gW : qGo 127 [.ref (0), .int (a1), .int (a2), .int (a3), .int (a4), .ref (117)] h r) : ∀ r2 : sR, qGo 263 [.ref (85), .int (a1), .int (a2), .int (a3), .int (a4)] r.2 r2 → opE r.1 r2.1 r2.2 RK := qp_25 th hK hG gW
  (fun c3 c14 c16 c33 c35 v40 j36 e39 c45 c46 c71 => by
    obtain ⟨k, hk, rfl⟩ := hK.gk c3 c14
    obtain ⟨d, hd, rfl⟩ := hK.gd c16 c33
    have hkb := hK.mi.kb
    have hdb := hK.mi.db
    obtain ⟨a0, h0⟩ := sc_cs hK hk e39
    exact cs_neg hK hk e39 c45 c71)
  (fun c3 c14 c16 c33 c35 v40 j36 e39 c45 c46 c71 v78 j74 e77 c79 => by
    obtain ⟨k, hk, rfl⟩ := hK.gk c3 c14
    obtain ⟨d, hd, rfl⟩ := hK.gd c16 c33
    have hkb := hK.mi.kb
    have hdb := hK.mi.db
    obtain ⟨a0, h0⟩ := sc_cs hK hk e39
    obtain ⟨g1, g2, g3, g4⟩ := cb_A hK hk e39 agU_0 c71 e77
    obtain ⟨x1, x2, x3, x4⟩ := cb_T hK hG hk hd a0 h0 g2
    exact c79 (g3.mp c45))
  (fun c3 c14 c16 c33 c35 v40 j36 e39 c45 c46 c71 v78 j74 e77 c79 v84 e85 c86 => by
    obtain ⟨k, hk, rfl⟩ := hK.gk c3 c14
    obtain ⟨d, hd, rfl⟩ := hK.gd c16 c33
    have hkb := hK.mi.kb
    have hdb := hK.mi.db
    obtain ⟨a0, h0⟩ := sc_cs hK hk e39
    exact RK_t 4 (RK_t 0 (RK_s h0 (agS9 (cb_A hK hk e39 agU_0 c71 e77).1) (fun _ _ => rfl) rfl (fun _ => rfl))))
  (fun c3 c14 c16 c33 c35 v40 j36 e39 c45 c46 c71 v78 j74 e77 c79 v84 e85 c86 c89 => by
    obtain ⟨k, hk, rfl⟩ := hK.gk c3 c14
    obtain ⟨d, hd, rfl⟩ := hK.gd c16 c33
    have hkb := hK.mi.kb
    have hdb := hK.mi.db
    obtain ⟨a0, h0⟩ := sc_cs hK hk e39
    exact RK_t 4 (RK_t 0 (RK_s h0 (agS9 (cb_A hK hk e39 agU_0 c71 e77).1) (fun _ _ => rfl) rfl (fun _ => rfl))))
  (fun c3 c14 c16 c33 c35 v40 j36 e39 c45 c46 c71 v78 j74 e77 c79 v84 e85 c86 c89 _ _ c95 _ _ _ _ => by
    obtain ⟨k, hk, rfl⟩ := hK.gk c3 c14
    obtain ⟨d, hd, rfl⟩ := hK.gd c16 c33
    have hkb := hK.mi.kb
    have hdb := hK.mi.db
    obtain ⟨a0, h0⟩ := sc_cs hK hk e39
    obtain ⟨g1, g2, g3, g4⟩ := cb_A hK hk e39 agU_0 c71 e77
    obtain ⟨x1, x2, x3, x4⟩ := cb_T hK hG hk hd a0 h0 g2
    have sm := cb_S hK hG hk e39 c45 g2 (g4 c45) e85
    exact absurd c86 (sm.mp c46))
  (fun c3 c14 c16 c33 c35 v40 j36 e39 c45 c46 c71 v78 j74 e77 c79 v84 e85 c86 c89 _ _ c95 => by
    obtain ⟨k, hk, rfl⟩ := hK.gk c3 c14
    obtain ⟨d, hd, rfl⟩ := hK.gd c16 c33
    have hkb := hK.mi.kb
    have hdb := hK.mi.db
    obtain ⟨a0, h0⟩ := sc_cs hK hk e39
    obtain ⟨g1, g2, g3, g4⟩ := cb_A hK hk e39 agU_0 c71 e77
    obtain ⟨x1, x2, x3, x4⟩ := cb_T hK hG hk hd a0 h0 g2
    have sm := cb_S hK hG hk e39 c45 g2 (g4 c45) e85
    exact absurd c86 (sm.mp c46))
  (fun c3 c14 c16 c33 c35 v40 j36 e39 c45 c46 c71 v78 j74 e77 c79 v84 e85 c86 c89 _ c94 => by
    obtain ⟨k, hk, rfl⟩ := hK.gk c3 c14
    obtain ⟨d, hd, rfl⟩ := hK.gd c16 c33
    have hkb := hK.mi.kb
    have hdb := hK.mi.db
    obtain ⟨a0, h0⟩ := sc_cs hK hk e39
    exact RK_t 4 (RK_t 0 (RK_s h0 (agS9 (cb_A hK hk e39 agU_0 c71 e77).1) (fun _ _ => rfl) rfl (fun _ => rfl))))
  (fun c3 c14 c16 c33 c35 v40 j36 e39 c45 c46 _ _ _ c115 c71 => by
    obtain ⟨k, hk, rfl⟩ := hK.gk c3 c14
    obtain ⟨d, hd, rfl⟩ := hK.gd c16 c33
    have hkb := hK.mi.kb
    have hdb := hK.mi.db
    obtain ⟨a0, h0⟩ := sc_cs hK hk e39
    exact cs_neg hK hk e39 c45 c71)
  (fun c3 c14 c16 c33 c35 v40 j36 e39 c45 c46 _ _ _ c115 c71 v78 j74 e77 c79 => by
    obtain ⟨k, hk, rfl⟩ := hK.gk c3 c14
    obtain ⟨d, hd, rfl⟩ := hK.gd c16 c33
    have hkb := hK.mi.kb
    have hdb := hK.mi.db
    obtain ⟨a0, h0⟩ := sc_cs hK hk e39
    obtain ⟨g1, g2, g3, g4⟩ := cb_A hK hk e39 agU_0 c71 e77
    obtain ⟨x1, x2, x3, x4⟩ := cb_T hK hG hk hd a0 h0 g2
    exact c79 (g3.mp c45))
  (fun c3 c14 c16 c33 c35 v40 j36 e39 c45 c46 _ _ _ c115 c71 v78 j74 e77 c79 v84 e85 c86 => by
    obtain ⟨k, hk, rfl⟩ := hK.gk c3 c14
    obtain ⟨d, hd, rfl⟩ := hK.gd c16 c33
    have hkb := hK.mi.kb
    have hdb := hK.mi.db
    obtain ⟨a0, h0⟩ := sc_cs hK hk e39
    exact RK_t 4 (RK_t 0 (RK_s h0 (agS9 (cb_A hK hk e39 agU_0 c71 e77).1) (fun _ _ => rfl) rfl (fun _ => rfl))))
  (fun c3 c14 c16 c33 c35 v40 j36 e39 c45 c46 _ _ _ c115 c71 v78 j74 e77 c79 v84 e85 c86 c89 => by
    obtain ⟨k, hk, rfl⟩ := hK.gk c3 c14
    obtain ⟨d, hd, rfl⟩ := hK.gd c16 c33
    have hkb := hK.mi.kb
    have hdb := hK.mi.db
    obtain ⟨a0, h0⟩ := sc_cs hK hk e39
    exact RK_t 4 (RK_t 0 (RK_s h0 (agS9 (cb_A hK hk e39 agU_0 c71 e77).1) (fun _ _ => rfl) rfl (fun _ => rfl))))
  (fun c3 c14 c16 c33 c35 v40 j36 e39 c45 c46 _ _ _ c115 c71 v78 j74 e77 c79 v84 e85 c86 c89 _ c95 _ _ _ _ => by
    obtain ⟨k, hk, rfl⟩ := hK.gk c3 c14
    obtain ⟨d, hd, rfl⟩ := hK.gd c16 c33
    have hkb := hK.mi.kb
    have hdb := hK.mi.db
    obtain ⟨a0, h0⟩ := sc_cs hK hk e39
    obtain ⟨g1, g2, g3, g4⟩ := cb_A hK hk e39 agU_0 c71 e77
    obtain ⟨x1, x2, x3, x4⟩ := cb_T hK hG hk hd a0 h0 g2
    exact absurd ((x1 0).trans c89) c115)
  (fun c3 c14 c16 c33 c35 v40 j36 e39 c45 c46 _ _ _ c115 c71 v78 j74 e77 c79 v84 e85 c86 c89 _ c95 => by
    obtain ⟨k, hk, rfl⟩ := hK.gk c3 c14
    obtain ⟨d, hd, rfl⟩ := hK.gd c16 c33
    have hkb := hK.mi.kb
    have hdb := hK.mi.db
    obtain ⟨a0, h0⟩ := sc_cs hK hk e39
    obtain ⟨g1, g2, g3, g4⟩ := cb_A hK hk e39 agU_0 c71 e77
    obtain ⟨x1, x2, x3, x4⟩ := cb_T hK hG hk hd a0 h0 g2
    exact absurd ((x1 0).trans c89) c115)
  (fun c3 c14 c16 c33 c35 v40 j36 e39 c45 c46 _ _ _ c115 c71 v78 j74 e77 c79 v84 e85 c86 c89 c94 => by
    obtain ⟨k, hk, rfl⟩ := hK.gk c3 c14
    obtain ⟨d, hd, rfl⟩ := hK.gd c16 c33
    have hkb := hK.mi.kb
    have hdb := hK.mi.db
    obtain ⟨a0, h0⟩ := sc_cs hK hk e39
    exact RK_t 4 (RK_t 0 (RK_s h0 (agS9 (cb_A hK hk e39 agU_0 c71 e77).1) (fun _ _ => rfl) rfl (fun _ => rfl))))
  (fun c3 c14 c16 c33 c35 v40 j36 e39 c45 c46 _ _ _ c115 c184 c71 => by
    obtain ⟨k, hk, rfl⟩ := hK.gk c3 c14
    obtain ⟨d, hd, rfl⟩ := hK.gd c16 c33
    have hkb := hK.mi.kb
    have hdb := hK.mi.db
    obtain ⟨a0, h0⟩ := sc_cs hK hk e39
    exact cs_neg hK hk e39 c45 c71)
  (fun c3 c14 c16 c33 c35 v40 j36 e39 c45 c46 _ _ _ c115 c184 c71 v78 j74 e77 c79 => by
    obtain ⟨k, hk, rfl⟩ := hK.gk c3 c14
    obtain ⟨d, hd, rfl⟩ := hK.gd c16 c33
    have hkb := hK.mi.kb
    have hdb := hK.mi.db
    obtain ⟨a0, h0⟩ := sc_cs hK hk e39
    obtain ⟨g1, g2, g3, g4⟩ := cb_A hK hk e39 agU_0 c71 e77
    obtain ⟨x1, x2, x3, x4⟩ := cb_T hK hG hk hd a0 h0 g2
    exact c79 (g3.mp c45))
  (fun c3 c14 c16 c33 c35 v40 j36 e39 c45 c46 _ _ _ c115 c184 c71 v78 j74 e77 c79 v84 e85 c86 => by
    obtain ⟨k, hk, rfl⟩ := hK.gk c3 c14
    obtain ⟨d, hd, rfl⟩ := hK.gd c16 c33
    have hkb := hK.mi.kb
    have hdb := hK.mi.db
    obtain ⟨a0, h0⟩ := sc_cs hK hk e39
    exact RK_t 4 (RK_t 0 (RK_s h0 (agS9 (cb_A hK hk e39 agU_0 c71 e77).1) (fun _ _ => rfl) rfl (fun _ => rfl))))
  (fun c3 c14 c16 c33 c35 v40 j36 e39 c45 c46 _ _ _ c115 c184 c71 v78 j74 e77 c79 v84 e85 c86 c89 => by
    obtain ⟨k, hk, rfl⟩ := hK.gk c3 c14
    obtain ⟨d, hd, rfl⟩ := hK.gd c16 c33
    have hkb := hK.mi.kb
    have hdb := hK.mi.db
    obtain ⟨a0, h0⟩ := sc_cs hK hk e39
    exact RK_t 4 (RK_t 0 (RK_s h0 (agS9 (cb_A hK hk e39 agU_0 c71 e77).1) (fun _ _ => rfl) rfl (fun _ => rfl))))
  (fun c3 c14 c16 c33 c35 v40 j36 e39 c45 c46 _ _ _ c115 c184 c71 v78 j74 e77 c79 v84 e85 c86 c89 c94 c95 _ _ _ _ => by
    obtain ⟨k, hk, rfl⟩ := hK.gk c3 c14
    obtain ⟨d, hd, rfl⟩ := hK.gd c16 c33
    have hkb := hK.mi.kb
    have hdb := hK.mi.db
    obtain ⟨a0, h0⟩ := sc_cs hK hk e39
    obtain ⟨g1, g2, g3, g4⟩ := cb_A hK hk e39 agU_0 c71 e77
    obtain ⟨x1, x2, x3, x4⟩ := cb_T hK hG hk hd a0 h0 g2
    exact absurd (x2.trans c94) c184)
  (fun c3 c14 c16 c33 c35 v40 j36 e39 c45 c46 _ _ _ c115 c184 c71 v78 j74 e77 c79 v84 e85 c86 c89 c94 c95 => by
    obtain ⟨k, hk, rfl⟩ := hK.gk c3 c14
    obtain ⟨d, hd, rfl⟩ := hK.gd c16 c33
    have hkb := hK.mi.kb
    have hdb := hK.mi.db
    obtain ⟨a0, h0⟩ := sc_cs hK hk e39
    obtain ⟨g1, g2, g3, g4⟩ := cb_A hK hk e39 agU_0 c71 e77
    obtain ⟨x1, x2, x3, x4⟩ := cb_T hK hG hk hd a0 h0 g2
    exact absurd (x2.trans c94) c184)
  (fun c3 c14 c16 c33 c35 v40 j36 e39 c45 c46 _ _ _ c115 c184 c71 v78 j74 e77 c79 v84 e85 c86 c89 c94 => by
    obtain ⟨k, hk, rfl⟩ := hK.gk c3 c14
    obtain ⟨d, hd, rfl⟩ := hK.gd c16 c33
    have hkb := hK.mi.kb
    have hdb := hK.mi.db
    obtain ⟨a0, h0⟩ := sc_cs hK hk e39
    exact RK_t 4 (RK_t 0 (RK_s h0 (agS9 (cb_A hK hk e39 agU_0 c71 e77).1) (fun _ _ => rfl) rfl (fun _ => rfl))))
  (fun c3 c14 c16 c33 c35 v40 j36 e39 c45 c46 _ _ _ c115 c184 c253 _ j279 e282 _ c290 => by
    obtain ⟨k, hk, rfl⟩ := hK.gk c3 c14
    obtain ⟨d, hd, rfl⟩ := hK.gd c16 c33
    have hkb := hK.mi.kb
    have hdb := hK.mi.db
    obtain ⟨a0, h0⟩ := sc_cs hK hk e39
    have j09 : j36 0 9 = Int32.ofNat (nkI I) := (a0 0 9 (by unfold scr; omega)).trans hK.k1
    have en : nkI j36 = nkI I := nkI_S a0
    have hn : nkI j36 < 16 := by
      rw [j09] at c253
      rw [en]
      exact (oN_lt (b := 16) (by omega) (by decide)).mp c253
    rw [j09, ofN_clamp (show nkI I < 2147483648 by omega), ofN_clamp (show d < 2147483648 by omega), ← en] at e282
    obtain ⟨_, _, _, u⟩ := cb_pre h0 (k := k) (by rw [ndI_S a0]; exact hd) hn e282
    refine c290 ?_
    rw [u 85 (by decide), a0 85 35 (by unfold scr; omega), hK.mi.k]
    exact in_rng hk (by omega))
  (fun c3 c14 c16 c33 c35 v40 j36 e39 c45 c46 _ _ _ c115 c184 c253 _ j279 e282 _ c290 c294 c296 c71 => by
    obtain ⟨k, hk, rfl⟩ := hK.gk c3 c14
    obtain ⟨d, hd, rfl⟩ := hK.gd c16 c33
    have hkb := hK.mi.kb
    have hdb := hK.mi.db
    obtain ⟨a0, h0⟩ := sc_cs hK hk e39
    exact cs_neg hK hk e39 c45 c71)
  (fun c3 c14 c16 c33 c35 v40 j36 e39 c45 c46 _ _ _ c115 c184 c253 _ j279 e282 _ c290 c294 c296 c71 v78 j74 e77 c79 => by
    obtain ⟨k, hk, rfl⟩ := hK.gk c3 c14
    obtain ⟨d, hd, rfl⟩ := hK.gd c16 c33
    have hkb := hK.mi.kb
    have hdb := hK.mi.db
    obtain ⟨a0, h0⟩ := sc_cs hK hk e39
    have j09 : j36 0 9 = Int32.ofNat (nkI I) := (a0 0 9 (by unfold scr; omega)).trans hK.k1
    have en : nkI j36 = nkI I := nkI_S a0
    have hn : nkI j36 < 16 := by
      rw [j09] at c253
      rw [en]
      exact (oN_lt (b := 16) (by omega) (by decide)).mp c253
    rw [j09, ofN_clamp (show nkI I < 2147483648 by omega), ofN_clamp (show d < 2147483648 by omega), ← en] at e282
    obtain ⟨_, _, _, u⟩ := cb_pre h0 (k := k) (by rw [ndI_S a0]; exact hd) hn e282
    obtain ⟨g1, g2, g3, g4⟩ := cb_A hK hk e39 u c71 e77
    obtain ⟨x1, x2, x3, x4⟩ := cb_T hK hG hk hd a0 h0 g2
    exact c79 (g3.mp c45))
  (fun c3 c14 c16 c33 c35 v40 j36 e39 c45 c46 _ _ _ c115 c184 c253 _ j279 e282 _ c290 c294 c296 c71 v78 j74 e77 c79 v84 e85 c86 => by
    obtain ⟨k, hk, rfl⟩ := hK.gk c3 c14
    obtain ⟨d, hd, rfl⟩ := hK.gd c16 c33
    have hkb := hK.mi.kb
    have hdb := hK.mi.db
    obtain ⟨a0, h0⟩ := sc_cs hK hk e39
    have j09 : j36 0 9 = Int32.ofNat (nkI I) := (a0 0 9 (by unfold scr; omega)).trans hK.k1
    have en : nkI j36 = nkI I := nkI_S a0
    have hn : nkI j36 < 16 := by
      rw [j09] at c253
      rw [en]
      exact (oN_lt (b := 16) (by omega) (by decide)).mp c253
    rw [j09, ofN_clamp (show nkI I < 2147483648 by omega), ofN_clamp (show d < 2147483648 by omega), ← en] at e282
    obtain ⟨_, _, _, u⟩ := cb_pre h0 (k := k) (by rw [ndI_S a0]; exact hd) hn e282
    obtain ⟨g1, g2, g3, g4⟩ := cb_A hK hk e39 u c71 e77
    obtain ⟨x1, x2, x3, x4⟩ := cb_T hK hG hk hd a0 h0 g2
    have sm := cb_S hK hG hk e39 c45 g2 (g4 c45) e85
    exact c46 (sm.mpr c86))
  (fun c3 c14 c16 c33 c35 v40 j36 e39 c45 c46 _ _ _ c115 c184 c253 _ j279 e282 _ c290 c294 c296 c71 v78 j74 e77 c79 v84 e85 c86 c89 => by
    obtain ⟨k, hk, rfl⟩ := hK.gk c3 c14
    obtain ⟨d, hd, rfl⟩ := hK.gd c16 c33
    have hkb := hK.mi.kb
    have hdb := hK.mi.db
    obtain ⟨a0, h0⟩ := sc_cs hK hk e39
    have j09 : j36 0 9 = Int32.ofNat (nkI I) := (a0 0 9 (by unfold scr; omega)).trans hK.k1
    have en : nkI j36 = nkI I := nkI_S a0
    have hn : nkI j36 < 16 := by
      rw [j09] at c253
      rw [en]
      exact (oN_lt (b := 16) (by omega) (by decide)).mp c253
    rw [j09, ofN_clamp (show nkI I < 2147483648 by omega), ofN_clamp (show d < 2147483648 by omega), ← en] at e282
    obtain ⟨_, _, _, u⟩ := cb_pre h0 (k := k) (by rw [ndI_S a0]; exact hd) hn e282
    obtain ⟨g1, g2, g3, g4⟩ := cb_A hK hk e39 u c71 e77
    obtain ⟨x1, x2, x3, x4⟩ := cb_T hK hG hk hd a0 h0 g2
    exact c89 ((x1 0).symm.trans c115))
  (fun c3 c14 c16 c33 c35 v40 j36 e39 c45 c46 _ _ _ c115 c184 c253 _ j279 e282 _ c290 c294 c296 c71 v78 j74 e77 c79 v84 e85 c86 c89 c94 c95 _ v107 j103 e106 => by
    obtain ⟨k, hk, rfl⟩ := hK.gk c3 c14
    obtain ⟨d, hd, rfl⟩ := hK.gd c16 c33
    have hkb := hK.mi.kb
    have hdb := hK.mi.db
    obtain ⟨a0, h0⟩ := sc_cs hK hk e39
    have j09 : j36 0 9 = Int32.ofNat (nkI I) := (a0 0 9 (by unfold scr; omega)).trans hK.k1
    have en : nkI j36 = nkI I := nkI_S a0
    have hn : nkI j36 < 16 := by
      rw [j09] at c253
      rw [en]
      exact (oN_lt (b := 16) (by omega) (by decide)).mp c253
    rw [j09, ofN_clamp (show nkI I < 2147483648 by omega), ofN_clamp (show d < 2147483648 by omega), ← en] at e282
    obtain ⟨_, _, _, u⟩ := cb_pre h0 (k := k) (by rw [ndI_S a0]; exact hd) hn e282
    obtain ⟨g1, g2, g3, g4⟩ := cb_A hK hk e39 u c71 e77
    obtain ⟨x1, x2, x3, x4⟩ := cb_T hK hG hk hd a0 h0 g2
    obtain ⟨N, n1, n2⟩ := cs_N hK hk e39 c45
    rw [ofN_clamp (show d < 2147483648 by omega)] at c115 c184
    rw [ofN_clamp (show k < 2147483648 by omega)] at e106
    obtain ⟨w, t, r⟩ := cb_new h0 (by rw [a0 85 43 (by unfold scr; omega), a0 1 4 (by unfold scr; omega)]; exact hG.1.2.2.2.2.2.2.2) (by rw [en]; exact hk) (by rw [ndI_S a0]; exact hd) hn n1 n2 c115 c184 e282 g1 (cb_91 hK a0 (g4 c45) n2) e106
    rw [j09, ofN_clamp (show nkI I < 2147483648 by omega)]
    rw [en] at w r
    exact ⟨t, upL_s.trans (congrArg Int32.toInt64 w.symm), RK_L r⟩)
  (fun c3 c14 c16 c33 c35 v40 j36 e39 c45 c46 _ _ _ c115 c184 c253 _ j279 e282 _ c290 c294 c296 c71 v78 j74 e77 c79 v84 e85 c86 c89 c94 c95 => by
    obtain ⟨k, hk, rfl⟩ := hK.gk c3 c14
    obtain ⟨d, hd, rfl⟩ := hK.gd c16 c33
    have hkb := hK.mi.kb
    have hdb := hK.mi.db
    obtain ⟨a0, h0⟩ := sc_cs hK hk e39
    have j09 : j36 0 9 = Int32.ofNat (nkI I) := (a0 0 9 (by unfold scr; omega)).trans hK.k1
    have en : nkI j36 = nkI I := nkI_S a0
    have hn : nkI j36 < 16 := by
      rw [j09] at c253
      rw [en]
      exact (oN_lt (b := 16) (by omega) (by decide)).mp c253
    rw [j09, ofN_clamp (show nkI I < 2147483648 by omega), ofN_clamp (show d < 2147483648 by omega), ← en] at e282
    obtain ⟨_, _, _, u⟩ := cb_pre h0 (k := k) (by rw [ndI_S a0]; exact hd) hn e282
    obtain ⟨g1, g2, g3, g4⟩ := cb_A hK hk e39 u c71 e77
    obtain ⟨x1, x2, x3, x4⟩ := cb_T hK hG hk hd a0 h0 g2
    rw [x3] at c95
    have := (oN_inj (b := 16) (by omega) (by omega)).mp c95
    omega)
  (fun c3 c14 c16 c33 c35 v40 j36 e39 c45 c46 _ _ _ c115 c184 c253 _ j279 e282 _ c290 c294 c296 c71 v78 j74 e77 c79 v84 e85 c86 c89 c94 => by
    obtain ⟨k, hk, rfl⟩ := hK.gk c3 c14
    obtain ⟨d, hd, rfl⟩ := hK.gd c16 c33
    have hkb := hK.mi.kb
    have hdb := hK.mi.db
    obtain ⟨a0, h0⟩ := sc_cs hK hk e39
    have j09 : j36 0 9 = Int32.ofNat (nkI I) := (a0 0 9 (by unfold scr; omega)).trans hK.k1
    have en : nkI j36 = nkI I := nkI_S a0
    have hn : nkI j36 < 16 := by
      rw [j09] at c253
      rw [en]
      exact (oN_lt (b := 16) (by omega) (by decide)).mp c253
    rw [j09, ofN_clamp (show nkI I < 2147483648 by omega), ofN_clamp (show d < 2147483648 by omega), ← en] at e282
    obtain ⟨_, _, _, u⟩ := cb_pre h0 (k := k) (by rw [ndI_S a0]; exact hd) hn e282
    obtain ⟨g1, g2, g3, g4⟩ := cb_A hK hk e39 u c71 e77
    obtain ⟨x1, x2, x3, x4⟩ := cb_T hK hG hk hd a0 h0 g2
    exact c94 (x2.symm.trans c184))
  (fun c3 c14 c16 c33 c35 v40 j36 e39 c45 c46 _ _ _ c115 c184 c253 _ j279 e282 _ c290 c294 c296 => by
    obtain ⟨k, hk, rfl⟩ := hK.gk c3 c14
    obtain ⟨d, hd, rfl⟩ := hK.gd c16 c33
    have hkb := hK.mi.kb
    have hdb := hK.mi.db
    obtain ⟨a0, h0⟩ := sc_cs hK hk e39
    have j09 : j36 0 9 = Int32.ofNat (nkI I) := (a0 0 9 (by unfold scr; omega)).trans hK.k1
    have en : nkI j36 = nkI I := nkI_S a0
    have hn : nkI j36 < 16 := by
      rw [j09] at c253
      rw [en]
      exact (oN_lt (b := 16) (by omega) (by decide)).mp c253
    rw [j09, ofN_clamp (show nkI I < 2147483648 by omega), ofN_clamp (show d < 2147483648 by omega), ← en] at e282
    obtain ⟨_, _, _, u⟩ := cb_pre h0 (k := k) (by rw [ndI_S a0]; exact hd) hn e282
    refine c296 ?_
    rw [u 85 (by decide), a0 85 31 (by unfold scr; omega), ← hK.ch]
    exact c35)
  (fun c3 c14 c16 c33 c35 v40 j36 e39 c45 c46 _ _ _ c115 c184 c253 _ j279 e282 _ c290 c294 => by
    obtain ⟨k, hk, rfl⟩ := hK.gk c3 c14
    obtain ⟨d, hd, rfl⟩ := hK.gd c16 c33
    have hkb := hK.mi.kb
    have hdb := hK.mi.db
    obtain ⟨a0, h0⟩ := sc_cs hK hk e39
    have j09 : j36 0 9 = Int32.ofNat (nkI I) := (a0 0 9 (by unfold scr; omega)).trans hK.k1
    have en : nkI j36 = nkI I := nkI_S a0
    have hn : nkI j36 < 16 := by
      rw [j09] at c253
      rw [en]
      exact (oN_lt (b := 16) (by omega) (by decide)).mp c253
    rw [j09, ofN_clamp (show nkI I < 2147483648 by omega), ofN_clamp (show d < 2147483648 by omega), ← en] at e282
    obtain ⟨_, _, _, u⟩ := cb_pre h0 (k := k) (by rw [ndI_S a0]; exact hd) hn e282
    refine c294 ?_
    rw [u 85 (by decide), a0 85 36 (by unfold scr; omega), hK.mi.d]
    exact in_rng hd (by omega))
  (fun c3 c14 c16 c33 c35 v40 j36 e39 c45 c46 _ _ _ c115 c184 c253 c71 => by
    obtain ⟨k, hk, rfl⟩ := hK.gk c3 c14
    obtain ⟨d, hd, rfl⟩ := hK.gd c16 c33
    have hkb := hK.mi.kb
    have hdb := hK.mi.db
    obtain ⟨a0, h0⟩ := sc_cs hK hk e39
    exact cs_neg hK hk e39 c45 c71)
  (fun c3 c14 c16 c33 c35 v40 j36 e39 c45 c46 _ _ _ c115 c184 c253 c71 v78 j74 e77 c79 => by
    obtain ⟨k, hk, rfl⟩ := hK.gk c3 c14
    obtain ⟨d, hd, rfl⟩ := hK.gd c16 c33
    have hkb := hK.mi.kb
    have hdb := hK.mi.db
    obtain ⟨a0, h0⟩ := sc_cs hK hk e39
    obtain ⟨g1, g2, g3, g4⟩ := cb_A hK hk e39 agU_0 c71 e77
    obtain ⟨x1, x2, x3, x4⟩ := cb_T hK hG hk hd a0 h0 g2
    exact c79 (g3.mp c45))
  (fun c3 c14 c16 c33 c35 v40 j36 e39 c45 c46 _ _ _ c115 c184 c253 c71 v78 j74 e77 c79 v84 e85 c86 => by
    obtain ⟨k, hk, rfl⟩ := hK.gk c3 c14
    obtain ⟨d, hd, rfl⟩ := hK.gd c16 c33
    have hkb := hK.mi.kb
    have hdb := hK.mi.db
    obtain ⟨a0, h0⟩ := sc_cs hK hk e39
    obtain ⟨g1, g2, g3, g4⟩ := cb_A hK hk e39 agU_0 c71 e77
    obtain ⟨x1, x2, x3, x4⟩ := cb_T hK hG hk hd a0 h0 g2
    have sm := cb_S hK hG hk e39 c45 g2 (g4 c45) e85
    exact c46 (sm.mpr c86))
  (fun c3 c14 c16 c33 c35 v40 j36 e39 c45 c46 _ _ _ c115 c184 c253 c71 v78 j74 e77 c79 v84 e85 c86 c89 => by
    obtain ⟨k, hk, rfl⟩ := hK.gk c3 c14
    obtain ⟨d, hd, rfl⟩ := hK.gd c16 c33
    have hkb := hK.mi.kb
    have hdb := hK.mi.db
    obtain ⟨a0, h0⟩ := sc_cs hK hk e39
    obtain ⟨g1, g2, g3, g4⟩ := cb_A hK hk e39 agU_0 c71 e77
    obtain ⟨x1, x2, x3, x4⟩ := cb_T hK hG hk hd a0 h0 g2
    exact c89 ((x1 0).symm.trans c115))
  (fun c3 c14 c16 c33 c35 v40 j36 e39 c45 c46 _ _ _ c115 c184 c253 c71 v78 j74 e77 c79 v84 e85 c86 c89 c94 c95 _ v107 j103 e106 => by
    obtain ⟨k, hk, rfl⟩ := hK.gk c3 c14
    obtain ⟨d, hd, rfl⟩ := hK.gd c16 c33
    have hkb := hK.mi.kb
    have hdb := hK.mi.db
    obtain ⟨a0, h0⟩ := sc_cs hK hk e39
    obtain ⟨g1, g2, g3, g4⟩ := cb_A hK hk e39 agU_0 c71 e77
    obtain ⟨x1, x2, x3, x4⟩ := cb_T hK hG hk hd a0 h0 g2
    rw [x4] at c253
    have := mt (oN_lt (b := 16) (by omega) (by decide)).mpr c253
    refine absurd ?_ c95
    rw [x3, show nkI I = 16 by omega]; rfl)
  (fun c3 c14 c16 c33 c35 v40 j36 e39 c45 c46 _ _ _ c115 c184 c253 c71 v78 j74 e77 c79 v84 e85 c86 c89 c94 c95 => by
    obtain ⟨k, hk, rfl⟩ := hK.gk c3 c14
    obtain ⟨d, hd, rfl⟩ := hK.gd c16 c33
    have hkb := hK.mi.kb
    have hdb := hK.mi.db
    obtain ⟨a0, h0⟩ := sc_cs hK hk e39
    exact RK_t 5 (RK_t 0 (RK_s h0 (agS9 (cb_A hK hk e39 agU_0 c71 e77).1) (fun _ _ => rfl) rfl (fun _ => rfl))))
  (fun c3 c14 c16 c33 c35 v40 j36 e39 c45 c46 _ _ _ c115 c184 c253 c71 v78 j74 e77 c79 v84 e85 c86 c89 c94 => by
    obtain ⟨k, hk, rfl⟩ := hK.gk c3 c14
    obtain ⟨d, hd, rfl⟩ := hK.gd c16 c33
    have hkb := hK.mi.kb
    have hdb := hK.mi.db
    obtain ⟨a0, h0⟩ := sc_cs hK hk e39
    obtain ⟨g1, g2, g3, g4⟩ := cb_A hK hk e39 agU_0 c71 e77
    obtain ⟨x1, x2, x3, x4⟩ := cb_T hK hG hk hd a0 h0 g2
    exact c94 (x2.symm.trans c184))
  (fun c3 c14 c16 c33 c35 v40 j36 e39 c45 c71 => by
    obtain ⟨k, hk, rfl⟩ := hK.gk c3 c14
    obtain ⟨d, hd, rfl⟩ := hK.gd c16 c33
    have hkb := hK.mi.kb
    have hdb := hK.mi.db
    obtain ⟨a0, h0⟩ := sc_cs hK hk e39
    exact RK_t 3 h0)
  (fun c3 c14 c16 c33 c35 v40 j36 e39 c45 c71 v78 j74 e77 c79 => by
    obtain ⟨k, hk, rfl⟩ := hK.gk c3 c14
    obtain ⟨d, hd, rfl⟩ := hK.gd c16 c33
    have hkb := hK.mi.kb
    have hdb := hK.mi.db
    obtain ⟨a0, h0⟩ := sc_cs hK hk e39
    exact RK_t 3 (RK_s h0 (agS9 (cb_A hK hk e39 agU_0 c71 e77).1) (fun _ _ => rfl) rfl (fun _ => rfl)))
  (fun c3 c14 c16 c33 c35 v40 j36 e39 c45 c71 v78 j74 e77 c79 v84 e85 c86 => by
    obtain ⟨k, hk, rfl⟩ := hK.gk c3 c14
    obtain ⟨d, hd, rfl⟩ := hK.gd c16 c33
    have hkb := hK.mi.kb
    have hdb := hK.mi.db
    obtain ⟨a0, h0⟩ := sc_cs hK hk e39
    obtain ⟨g1, g2, g3, g4⟩ := cb_A hK hk e39 agU_0 c71 e77
    obtain ⟨x1, x2, x3, x4⟩ := cb_T hK hG hk hd a0 h0 g2
    exact absurd c45 (g3.mpr c79))
  (fun c3 c14 c16 c33 c35 v40 j36 e39 c45 c71 v78 j74 e77 c79 v84 e85 c86 c89 => by
    obtain ⟨k, hk, rfl⟩ := hK.gk c3 c14
    obtain ⟨d, hd, rfl⟩ := hK.gd c16 c33
    have hkb := hK.mi.kb
    have hdb := hK.mi.db
    obtain ⟨a0, h0⟩ := sc_cs hK hk e39
    obtain ⟨g1, g2, g3, g4⟩ := cb_A hK hk e39 agU_0 c71 e77
    obtain ⟨x1, x2, x3, x4⟩ := cb_T hK hG hk hd a0 h0 g2
    exact absurd c45 (g3.mpr c79))
  (fun c3 c14 c16 c33 c35 v40 j36 e39 c45 c71 v78 j74 e77 c79 v84 e85 c86 c89 _ c94 c95 _ _ _ _ => by
    obtain ⟨k, hk, rfl⟩ := hK.gk c3 c14
    obtain ⟨d, hd, rfl⟩ := hK.gd c16 c33
    have hkb := hK.mi.kb
    have hdb := hK.mi.db
    obtain ⟨a0, h0⟩ := sc_cs hK hk e39
    obtain ⟨g1, g2, g3, g4⟩ := cb_A hK hk e39 agU_0 c71 e77
    obtain ⟨x1, x2, x3, x4⟩ := cb_T hK hG hk hd a0 h0 g2
    exact absurd c45 (g3.mpr c79))
  (fun c3 c14 c16 c33 c35 v40 j36 e39 c45 c71 v78 j74 e77 c79 v84 e85 c86 c89 _ c94 c95 => by
    obtain ⟨k, hk, rfl⟩ := hK.gk c3 c14
    obtain ⟨d, hd, rfl⟩ := hK.gd c16 c33
    have hkb := hK.mi.kb
    have hdb := hK.mi.db
    obtain ⟨a0, h0⟩ := sc_cs hK hk e39
    obtain ⟨g1, g2, g3, g4⟩ := cb_A hK hk e39 agU_0 c71 e77
    obtain ⟨x1, x2, x3, x4⟩ := cb_T hK hG hk hd a0 h0 g2
    exact absurd c45 (g3.mpr c79))
  (fun c3 c14 c16 c33 c35 v40 j36 e39 c45 c71 v78 j74 e77 c79 v84 e85 c86 c89 _ c94 => by
    obtain ⟨k, hk, rfl⟩ := hK.gk c3 c14
    obtain ⟨d, hd, rfl⟩ := hK.gd c16 c33
    have hkb := hK.mi.kb
    have hdb := hK.mi.db
    obtain ⟨a0, h0⟩ := sc_cs hK hk e39
    obtain ⟨g1, g2, g3, g4⟩ := cb_A hK hk e39 agU_0 c71 e77
    obtain ⟨x1, x2, x3, x4⟩ := cb_T hK hG hk hd a0 h0 g2
    exact absurd c45 (g3.mpr c79))
end
section
/-! part 88: applyRules -/
theorem rule_z {h : sH} {I : Nat → Nat → Int32} {L : Nat → Nat → Int64} {R : Nat → Nat} (th : qH h I L R) {p : Nat} (hp : p < 12) : I (45 + p) 2 = 0 ∨ I (45 + p) 2 = 1 := by
  obtain ⟨⟨t1, t2, _⟩, rfl, rfl, rfl⟩ := th
  have hl : 45 + p < h.length := by omega
  have hc : h[45 + p]? = some (h[45 + p]'hl) := List.getElem?_eq_getElem hl
  obtain ⟨s1, s2⟩ := t2 _ _ (by omega) hc
  generalize h[45 + p]'hl = c at hc s1 s2
  have sh : tShF (45 + p) = (0, 6, 3) := by
    unfold tShF
    rw [if_neg (by omega), if_neg (by omega), if_neg (by omega), if_pos (by omega)]
  rw [sh] at s1
  cases c with
  | inl q => exact absurd (congrArg Prod.fst s1) (by show ¬ (0 : Nat) = 1; decide)
  | inr q =>
    have e1 : q.1 = 6 := (congrArg (fun z : Nat × Nat × Nat => z.2.1) s1).symm
    have e2 : q.2.length = 3 := (congrArg (fun z : Nat × Nat × Nat => z.2.2) s1).symm
    have hv : q.2[2]? = some (q.2[2]'(by omega)) := List.getElem?_eq_getElem (by omega)
    have s3 := s2 2 _ hv
    have ty : tTy (.inr q) 2 = .boolean := by
      show sFt q.1 2 = _
      rw [e1]; rfl
    rw [ty] at s3
    rw [vI_at (c := .inr q) hc hv]
    rcases (show q.2[2]'(by omega) = .int 0 ∨ q.2[2]'(by omega) = .int 1 from s3) with z | z
    · rw [z]; exact .inl rfl
    · rw [z]; exact .inr rfl
/-! the last rule for a door and a key -/
noncomputable def ruC (I : Nat → Nat → Int32) (d k : Int32) : Nat → Int32
  | 0 => -1
  | m + 1 => if hs (I (45 + m) 1) d = true ∧ hs (I (45 + m) 0) k = true then Int32.ofNat m else ruC I d k m
noncomputable def lrP (I : Nat → Nat → Int32) (d k v : Int32) : Prop := ∀ m, I 0 11 = Int32.ofNat m → m ≤ 12 → v = ruC I d k m
theorem sub_m1 (x : Int32) : x + (-1 : Int32) = x - 1 := by rw [Int32.sub_eq_add_neg]
theorem lk_27 {h : sH} {I : Nat → Nat → Int32} {L : Nat → Nat → Int64} {R : Nat → Nat} (th : qH h I L R) {x1 x2 : Int32} : ∀ N m lv, m ≤ 12 → qLs lv [some (.ref (0)), some (.int (x1)), some (.int (x2)), some (.int (Int32.ofNat m - 1))] → qW 27 N 7 lv [] h (fun r => r = (.inl (some (.int (ruC I x1 x2 m))), h))
  | 0, _, _, _, _ => qW_0
  | N + 1, 0, lv, _, hl => qg_27_7 th hl (fun _ => rfl) (fun c => absurd (by decide) c) (fun c => absurd (by decide) c) (fun c => absurd (by decide) c)
  | N + 1, m + 1, lv, hm, hl => by
    rw [← oN_s, i32_p1m1] at hl
    refine qg_27_7 th hl (fun c => ?_) (fun _ _ c3 lv' hl' => ?_) (fun _ _ c3 c7 lv' hl' => ?_) (fun _ _ c3 c7 => ?_)
    · exfalso
      have z : (0 : Int32).toInt = 0 := rfl
      rw [Int32.lt_iff_toInt_lt, z, ofN_toInt (by omega)] at c
      omega
    · rw [ofN_clamp (by omega)] at c3
      have e : ruC I x1 x2 (m + 1) = ruC I x1 x2 m := if_neg (fun z => c3 z.1)
      rw [sub_m1] at hl'
      rw [e]
      exact lk_27 th N m lv' (by omega) hl'
    · rw [ofN_clamp (by omega)] at c7
      have e : ruC I x1 x2 (m + 1) = ruC I x1 x2 m := if_neg (fun z => c7 z.2)
      rw [sub_m1] at hl'
      rw [e]
      exact lk_27 th N m lv' (by omega) hl'
    · rw [ofN_clamp (by omega)] at c3 c7
      have e : ruC I x1 x2 (m + 1) = Int32.ofNat m := if_pos ⟨c3, c7⟩
      rw [e]
theorem lk_27x {h : sH} {I : Nat → Nat → Int32} {L : Nat → Nat → Int64} {R : Nat → Nat} (th : qH h I L R) {x1 x2 : Int32} : ∀ N x3 lv, qLs lv [some (.ref (0)), some (.int (x1)), some (.int (x2)), some (.int (x3))] → qW 27 N 7 lv [] h (fun r => ∃ v, r = (.inl (some (.int v)), h))
  | 0, _, _, _ => qW_0
  | N + 1, x3, lv, hl => qg_27_7 th hl (fun _ => ⟨_, rfl⟩) (fun _ _ _ lv' hl' => lk_27x th N _ lv' hl') (fun _ _ _ _ lv' hl' => lk_27x th N _ lv' hl') (fun _ _ _ _ => ⟨_, rfl⟩)
theorem sp_27 {h : sH} {r : sR} {a0 a1 : Int32} {I : Nat → Nat → Int32} {L : Nat → Nat → Int64} {R : Nat → Nat} (th : qH h I L R) (g : qGo 27 [.ref (0), .int a0, .int a1] h r) : ∃ v, r = (.inl (some (.int v)), h) ∧ lrP I a0 a1 v := by
  refine qg_27 (Q := fun r => ∃ v, r = (.inl (some (.int v)), h) ∧ lrP I a0 a1 v) th g (fun N lv hl => ?_)
  by_cases c : ∃ m, I 0 11 = Int32.ofNat m ∧ m ≤ 12
  · obtain ⟨m, e, hm⟩ := c
    rw [e] at hl
    refine qW_mono ?_ (lk_27 th N m lv hm hl)
    rintro r rfl
    refine ⟨_, rfl, fun m' e' hm' => ?_⟩
    rw [(oN_inj (a := m) (b := m') (by omega) (by omega)).mp (e.symm.trans e')]
  · refine qW_mono ?_ (lk_27x th N _ lv hl)
    rintro r ⟨v, rfl⟩
    exact ⟨v, rfl, fun m e hm => absurd ⟨m, e, hm⟩ c⟩
noncomputable def ruM (I : Nat → Nat → Int32) (d k : Nat) : Nat → Int32
  | 0 => -1
  | m + 1 => if hs (I 101 m) (Int32.ofNat k) = true ∧ hs (I 102 m) (Int32.ofNat d) = true then I 103 m else ruM I d k m
theorem ru_E {I J : Nat → Nat → Int32} (hR : RGr I) (hJ : ∀ p b, p < 12 → J (45 + p) b = I (45 + p) b) {d k : Nat} : ∀ m, m ≤ 12 → (ruC J (Int32.ofNat d) (Int32.ofNat k) m = -1 ∧ ruM I d k m = -1) ∨ ∃ i, i < 12 ∧ ruC J (Int32.ofNat d) (Int32.ofNat k) m = Int32.ofNat i ∧ ruM I d k m = I (45 + i) 2
  | 0, _ => .inl ⟨rfl, rfl⟩
  | m + 1, hm => by
    obtain ⟨r1, r2, r3⟩ := hR m (by omega)
    unfold ruC ruM
    rw [hJ m 0 (by omega), hJ m 1 (by omega), r1, r2]
    by_cases c : hs (I (45 + m) 0) (Int32.ofNat k) = true ∧ hs (I (45 + m) 1) (Int32.ofNat d) = true
    · rw [if_pos c, if_pos ⟨c.2, c.1⟩, r3]
      exact .inr ⟨m, by omega, rfl, rfl⟩
    · rw [if_neg c, if_neg (fun z => c ⟨z.2, z.1⟩)]
      exact ru_E hR hJ m (by omega)
/-- whether the rules change a wish -/
noncomputable def chg (I : Nat → Nat → Int32) (nr d k : Nat) : Bool := !decide (ruM I d k nr = -1) && !decide (ruM I d k nr = b2 (hs (I 88 k) (Int32.ofNat d) = true)) && (!decide (ruM I d k nr = 1) || T_224 I (Int32.ofNat d) (Int32.ofNat k))
theorem chg_no1 {I : Nat → Nat → Int32} {nr d k : Nat} (h : ruM I d k nr = -1) : chg I nr d k = false := by
  unfold chg; rw [decide_eq_true h]; rfl
theorem chg_no2 {I : Nat → Nat → Int32} {nr d k : Nat} (h : ruM I d k nr = b2 (hs (I 88 k) (Int32.ofNat d) = true)) : chg I nr d k = false := by
  unfold chg; rw [decide_eq_true h]
  generalize decide (ruM I d k nr = -1) = z
  cases z <;> rfl
theorem chg_no3 {I : Nat → Nat → Int32} {nr d k : Nat} (h : ruM I d k nr = 1) (h2 : ¬ T_224 I (Int32.ofNat d) (Int32.ofNat k) = true) : chg I nr d k = false := by
  unfold chg; rw [decide_eq_true h, Bool.eq_false_iff.mpr h2]
  exact Bool.and_false _
theorem chg_y {I : Nat → Nat → Int32} {nr d k : Nat} (h1 : ¬ ruM I d k nr = -1) (h2 : ¬ ruM I d k nr = b2 (hs (I 88 k) (Int32.ofNat d) = true)) (h3 : ruM I d k nr = 1 → T_224 I (Int32.ofNat d) (Int32.ofNat k) = true) : chg I nr d k = true := by
  unfold chg
  rw [decide_eq_false h1, decide_eq_false h2]
  by_cases c : ruM I d k nr = 1
  · rw [h3 c, decide_eq_true c]; rfl
  · rw [decide_eq_false c]; rfl
theorem ruM_cg {I J : Nat → Nat → Int32} (h : ∀ a b, 88 ≤ a → J a b = I a b) {d k : Nat} : ∀ m, ruM J d k m = ruM I d k m
  | 0 => rfl
  | m + 1 => by
    unfold ruM
    rw [h 101 m (by decide), h 102 m (by decide), h 103 m (by decide), ruM_cg h m]
theorem chg_cg {I J : Nat → Nat → Int32} (h : ∀ a b, 88 ≤ a → J a b = I a b) {nr d k : Nat} : chg J nr d k = chg I nr d k := by
  unfold chg T_224 T_225
  simp only [ruM_cg h, h 88 _ (by decide), h 92 _ (by decide), h 95 _ (by decide), h 97 _ (by decide)]
noncomputable def rvs (n j m d k : Nat) : Bool := decide ((d < j ∧ k < n) ∨ (d = j ∧ k < m))
theorem rvs_s {n j m d k : Nat} : rvs n j (m + 1) d k = (rvs n j m d k || decide (d = j ∧ k = m)) := by
  unfold rvs
  rw [← Bool.decide_or]
  exact decide_eq_decide.mpr (by omega)
theorem rvs_r {n j d k : Nat} : rvs n j n d k = rvs n (j + 1) 0 d k := by
  unfold rvs
  exact decide_eq_decide.mpr (by omega)
theorem rvs_h {n j m : Nat} : rvs n j m j m = false := by
  unfold rvs
  exact decide_eq_false (by omega)
theorem xor_s {w v c e : Bool} (h : e = true → v = false) : (w ^^ ((v || e) && c)) = ((w ^^ (v && c)) ^^ (e && c)) := by
  cases w <;> cases v <;> cases c <;> cases e <;> first | rfl | exact absurd (h rfl) (by decide)
/-! the class -/
noncomputable def apS (I : Nat → Nat → Int32) (nr : Nat) (d : Nat) : Int32 := jS (fun k => bj (chg I nr d k)) (nkI I)
noncomputable def apC (I : Nat → Nat → Int32) (R : Nat → Nat) (nr j m : Nat) (J : Nat → Nat → Int32) : Prop := (∀ a b, ¬ (35 ≤ a ∧ a ≤ 44 ∧ b = 1) → J a b = I a b) ∧ ∀ d k, d < 10 → tb (J (R d) 1) k = (tb (I (R d) 1) k ^^ (rvs (nkI I) j m d k && chg I nr d k))
theorem apC_n {I J : Nat → Nat → Int32} {R : Nat → Nat} {nr j m : Nat} (h : apC I R nr j m J) (c : chg I nr j m = false) : apC I R nr j (m + 1) J := by
  refine ⟨h.1, fun d k hd => ?_⟩
  rw [h.2 d k hd, rvs_s]
  by_cases e : d = j ∧ k = m
  · rw [e.1, e.2, c, Bool.and_false, Bool.and_false]
  · rw [decide_eq_false e, Bool.or_false]
theorem apC_f {I J : Nat → Nat → Int32} {L : Nat → Nat → Int64} {R : Nat → Nat} (hK : RK I L R) {nr j m : Nat} (hj : j < 10) (hm : m < 32) (h : apC I R nr j m J) (c : chg I nr j m = true) {x : Int32} (hx : decide (¬ x = 0) = !tb (I (R j) 1) m) : apC I R nr j (m + 1) (upI J (R j) 1 (xW (J (R j) 1) (Int32.ofNat m) x)) := by
  have hr := hK.rr j hj
  refine ⟨fun a b hn => by rw [upI_ne (by omega)]; exact h.1 a b hn, fun d k hd => ?_⟩
  rw [rvs_s]
  by_cases e : d = j
  · subst e
    rw [upI_s, tb_xW, shD_nat hm]
    by_cases e2 : k = m
    · subst e2
      rw [if_pos rfl, hx, decide_eq_true ⟨rfl, rfl⟩, Bool.or_true, Bool.true_and, c, Bool.xor_true]
    · rw [if_neg e2, h.2 d k hd, decide_eq_false (fun z => e2 z.2), Bool.or_false]
  · rw [upI_ne (fun z => e (hK.ri d j hd hj z.1)), h.2 d k hd, decide_eq_false (fun z => e z.1), Bool.or_false]
noncomputable def apQ (I : Nat → Nat → Int32) (L : Nat → Nat → Int64) (R : Nat → Nat) (nr : Nat) (r : sR) : Prop := ∃ J h1, r = (.inl (some (.int (jS (apS I nr) (ndI I)))), h1) ∧ qH h1 J L R ∧ apC I R nr (ndI I) 0 J
theorem qg_25 {h : sH} {r : sR} {Q : sR → Prop} (g : qGo 25 [.ref (0)] h r)
    (p1 : ∀ N lv, qLs lv [some (.ref (0)), some (.int ((0 : Int32))), some (.int ((0 : Int32))), none] → qW 25 N 4 lv [] h Q) : Q r := by
  refine qGo_w g (fun N => ?_)
  have hl0 : qLs (lv_args 0 [.ref (0)]) [some (.ref (0)), none, none, none] := qLs_ar 3
  refine q_iconst (show mE (mtv 25) 0 = some (.iconst 0, 1, 0, 0) from rfl) kI_0 ?_
  refine q_istore_n (show mE (mtv 25) 1 = some (.istore_n 1, 1, 0, 0) from rfl) (Nat.le_of_ble_eq_true rfl) hl0 (fun lv1 (hl2 : qLs lv1 [some (.ref (0)), some (.int ((0 : Int32))), none, none]) => ?_)
  refine q_iconst (show mE (mtv 25) 2 = some (.iconst 0, 1, 0, 0) from rfl) kI_0 ?_
  refine q_istore_n (show mE (mtv 25) 3 = some (.istore_n 2, 1, 0, 0) from rfl) (Nat.le_of_ble_eq_true rfl) hl2 (fun lv3 (hl4 : qLs lv3 [some (.ref (0)), some (.int ((0 : Int32))), some (.int ((0 : Int32))), none]) => ?_)
  exact p1 _ lv3 (qLs_wk hl4 (⟨rfl, rfl, rfl, trivial⟩))
theorem qg_25_4 {N : Nat} {lv : sL} {h : sH} {Q : sR → Prop} {x1 : Int32} {x2 : Int32} {I : Nat → Nat → Int32} {L : Nat → Nat → Int64} {R : Nat → Nat} (th : qH h I L R) (hl : qLs lv [some (.ref (0)), some (.int (x1)), some (.int (x2)), none])
    (p1 : ∀ (c1 : (I 0 10) ≤ x2), Q (.inl (some (.int (x1))), h))
    (p2 : ∀ (c1 : ¬ (I 0 10) ≤ x2), ∀ lv, qLs lv [some (.ref (0)), some (.int (x1)), some (.int (x2)), some (.int ((0 : Int32)))] → qW 25 N 14 lv [] h Q) : qW 25 (N + 1) 4 lv [] h Q := by
  refine q1_iload_n (show mE (mtv 25) 4 = some (.iload_n 2, 1, 0, 0) from rfl) (hl 2 _ rfl) ?_
  refine q_aload_n (show mE (mtv 25) 5 = some (.aload_n 0, 1, 0, 0) from rfl) (hl 0 _ rfl) ?_
  refine q_getI th (show mE (mtv 25) 6 = some (.getfield 171, 3, 8, 10) from rfl) (by decide) rfl ?_
  refine q_ic_ge (t := 46) (show mE (mtv 25) 9 = some (.if_icmp .ge 37, 3, 0, 0) from rfl) rfl (fun c1 => ?_) (fun c1 => ?_)
  · refine q_iload_n (show mE (mtv 25) 46 = some (.iload_n 1, 1, 0, 0) from rfl) (hl 1 _ rfl) ?_
    refine q_ireturn (show mE (mtv 25) 47 = some (.ireturn, 1, 0, 0) from rfl) ?_
    exact p1 c1
  · refine q_iconst (show mE (mtv 25) 12 = some (.iconst 0, 1, 0, 0) from rfl) kI_0 ?_
    refine q_istore_n (show mE (mtv 25) 13 = some (.istore_n 3, 1, 0, 0) from rfl) (Nat.le_of_ble_eq_true rfl) hl (fun lv2 (hl3 : qLs lv2 [some (.ref (0)), some (.int (x1)), some (.int (x2)), some (.int ((0 : Int32)))]) => ?_)
    exact p2 c1 lv2 (qLs_wk hl3 (⟨rfl, rfl, rfl, rfl, trivial⟩))
theorem qg_25_14 {N : Nat} {lv : sL} {h : sH} {Q : sR → Prop} {x1 : Int32} {x2 : Int32} {x3 : Int32} {I : Nat → Nat → Int32} {L : Nat → Nat → Int64} {R : Nat → Nat} (th : qH h I L R) (hl : qLs lv [some (.ref (0)), some (.int (x1)), some (.int (x2)), some (.int (x3))])
    (p1 : ∀ (c1 : (I 0 9) ≤ x3), ∀ lv, qLs lv [some (.ref (0)), some (.int (x1)), some (.int (x2 + (1 : Int32))), none] → qW 25 N 4 lv [] h Q)
    (p2 : ∀ (c1 : ¬ (I 0 9) ≤ x3), ∀ (v5 : Int32), ∀ (e6 : lrP I x2 x3 v5), ∀ (c9 : ¬ v5 = (-1 : Int32)), ∀ (bb10 : sIn v5 12 = true), ∀ (z11 : I (45 + (v5).toNatClampNeg) 2 = 0 ∨ I (45 + (v5).toNatClampNeg) 2 = 1), ∀ (bb14 : sIn x2 10 = true), ∀ (d15 : 35 ≤ R (x2).toNatClampNeg), ∀ (d16 : R (x2).toNatClampNeg ≤ 44), ∀ (c17 : (I (45 + (v5).toNatClampNeg) 2) = (b2 (hs (I (R (x2).toNatClampNeg) 1) x3 = true))), ∀ lv, qLs lv [some (.ref (0)), some (.int (x1)), some (.int (x2)), some (.int (x3 + (1 : Int32)))] → qW 25 N 14 lv [] h Q)
    (p3 : ∀ (c1 : ¬ (I 0 9) ≤ x3), ∀ (v5 : Int32), ∀ (e6 : lrP I x2 x3 v5), ∀ (c9 : ¬ v5 = (-1 : Int32)), ∀ (bb10 : sIn v5 12 = true), ∀ (z11 : I (45 + (v5).toNatClampNeg) 2 = 0 ∨ I (45 + (v5).toNatClampNeg) 2 = 1), ∀ (bb14 : sIn x2 10 = true), ∀ (d15 : 35 ≤ R (x2).toNatClampNeg), ∀ (d16 : R (x2).toNatClampNeg ≤ 44), ∀ (c17 : ¬ (I (45 + (v5).toNatClampNeg) 2) = (b2 (hs (I (R (x2).toNatClampNeg) 1) x3 = true))), ∀ (c20 : (I (45 + (v5).toNatClampNeg) 2) = 0), ∀ (h27 : sH), ∀ (t28 : qH h27 (upI I (R (x2).toNatClampNeg) 1 (xW (I (R (x2).toNatClampNeg) 1) x3 (I (45 + (v5).toNatClampNeg) 2))) L R), ∀ lv, qLs lv [some (.ref (0)), some (.int (x1 + (1 : Int32))), some (.int (x2)), some (.int (x3 + (1 : Int32)))] → qW 25 N 14 lv [] h27 Q)
    (p4 : ∀ (c1 : ¬ (I 0 9) ≤ x3), ∀ (v5 : Int32), ∀ (e6 : lrP I x2 x3 v5), ∀ (c9 : ¬ v5 = (-1 : Int32)), ∀ (bb10 : sIn v5 12 = true), ∀ (z11 : I (45 + (v5).toNatClampNeg) 2 = 0 ∨ I (45 + (v5).toNatClampNeg) 2 = 1), ∀ (bb14 : sIn x2 10 = true), ∀ (d15 : 35 ≤ R (x2).toNatClampNeg), ∀ (d16 : R (x2).toNatClampNeg ≤ 44), ∀ (c17 : ¬ (I (45 + (v5).toNatClampNeg) 2) = (b2 (hs (I (R (x2).toNatClampNeg) 1) x3 = true))), ∀ (c20 : ¬ (I (45 + (v5).toNatClampNeg) 2) = 0), ∀ (c36 : T_28 I (R (x2).toNatClampNeg) x3 = true), ∀ (h43 : sH), ∀ (t44 : qH h43 (upI I (R (x2).toNatClampNeg) 1 (xW (I (R (x2).toNatClampNeg) 1) x3 (I (45 + (v5).toNatClampNeg) 2))) L R), ∀ lv, qLs lv [some (.ref (0)), some (.int (x1 + (1 : Int32))), some (.int (x2)), some (.int (x3 + (1 : Int32)))] → qW 25 N 14 lv [] h43 Q)
    (p5 : ∀ (c1 : ¬ (I 0 9) ≤ x3), ∀ (v5 : Int32), ∀ (e6 : lrP I x2 x3 v5), ∀ (c9 : ¬ v5 = (-1 : Int32)), ∀ (bb10 : sIn v5 12 = true), ∀ (z11 : I (45 + (v5).toNatClampNeg) 2 = 0 ∨ I (45 + (v5).toNatClampNeg) 2 = 1), ∀ (bb14 : sIn x2 10 = true), ∀ (d15 : 35 ≤ R (x2).toNatClampNeg), ∀ (d16 : R (x2).toNatClampNeg ≤ 44), ∀ (c17 : ¬ (I (45 + (v5).toNatClampNeg) 2) = (b2 (hs (I (R (x2).toNatClampNeg) 1) x3 = true))), ∀ (c20 : ¬ (I (45 + (v5).toNatClampNeg) 2) = 0), ∀ (c36 : ¬ (T_28 I (R (x2).toNatClampNeg) x3 = true)), ∀ lv, qLs lv [some (.ref (0)), some (.int (x1)), some (.int (x2)), some (.int (x3 + (1 : Int32)))] → qW 25 N 14 lv [] h Q)
    (p6 : ∀ (c1 : ¬ (I 0 9) ≤ x3), ∀ (v5 : Int32), ∀ (e6 : lrP I x2 x3 v5), ∀ (c9 : v5 = (-1 : Int32)), ∀ lv, qLs lv [some (.ref (0)), some (.int (x1)), some (.int (x2)), some (.int (x3 + (1 : Int32)))] → qW 25 N 14 lv [] h Q) : qW 25 (N + 1) 14 lv [] h Q := by
  refine q1_iload_n (show mE (mtv 25) 14 = some (.iload_n 3, 1, 0, 0) from rfl) (hl 3 _ rfl) ?_
  refine q_aload_n (show mE (mtv 25) 15 = some (.aload_n 0, 1, 0, 0) from rfl) (hl 0 _ rfl) ?_
  refine q_getI th (show mE (mtv 25) 16 = some (.getfield 88, 3, 8, 9) from rfl) (by decide) rfl ?_
  refine q_ic_ge (t := 40) (show mE (mtv 25) 19 = some (.if_icmp .ge 21, 3, 0, 0) from rfl) rfl (fun c1 => ?_) (fun c1 => ?_)
  · refine q_iinc (show mE (mtv 25) 40 = some (.iinc 2 1, 3, 0, 0) from rfl) (Nat.le_of_ble_eq_true rfl) hl (hl 2 _ rfl) kI_1 (fun lv2 (hl3 : qLs lv2 [some (.ref (0)), some (.int (x1)), some (.int (x2 + (1 : Int32))), some (.int (x3))]) => ?_)
    refine q_goto (t := 4) (show mE (mtv 25) 43 = some (.goto (-39), 3, 0, 0) from rfl) rfl ?_
    exact p1 c1 lv2 (qLs_wk hl3 (⟨rfl, rfl, rfl, trivial⟩))
  · refine q_aload_n (show mE (mtv 25) 22 = some (.aload_n 0, 1, 0, 0) from rfl) (hl 0 _ rfl) ?_
    refine q_iload_n (show mE (mtv 25) 23 = some (.iload_n 2, 1, 0, 0) from rfl) (hl 2 _ rfl) ?_
    refine q_iload_n (show mE (mtv 25) 24 = some (.iload_n 3, 1, 0, 0) from rfl) (hl 3 _ rfl) ?_
    refine q_virtualI (show mE (mtv 25) 25 = some (.invokevirtual 326, 3, 26, 8) from rfl) (by decide) rfl rfl rfl (fun _ => ?_)
    have hl4 : qLs (lv_args 0 [.ref (0), .int (x2), .int (x3)]) [some (.ref (0)), some (.int (x2)), some (.int (x3)), none, none] := qLs_ar 2
    refine q_aload_n (show mE (mtv 26) 0 = some (.aload_n 0, 1, 0, 0) from rfl) (hl4 0 _ rfl) ?_
    refine q_iload_n (show mE (mtv 26) 1 = some (.iload_n 1, 1, 0, 0) from rfl) (hl4 1 _ rfl) ?_
    refine q_iload_n (show mE (mtv 26) 2 = some (.iload_n 2, 1, 0, 0) from rfl) (hl4 2 _ rfl) ?_
    refine q_virtualE (show mE (mtv 26) 3 = some (.invokevirtual 588, 3, 27, 8) from rfl) (by decide) rfl rfl rfl (fun _ g => sp_27 th g) ?_
    rintro _ ⟨v5, rfl, e6⟩
    refine qK_v ?_
    refine q_istore_n (show mE (mtv 26) 6 = some (.istore_n 3, 1, 0, 0) from rfl) (Nat.le_of_ble_eq_true rfl) hl4 (fun lv7 (hl8 : qLs lv7 [some (.ref (0)), some (.int (x2)), some (.int (x3)), some (.int (v5)), none]) => ?_)
    refine q_iload_n (show mE (mtv 26) 7 = some (.iload_n 3, 1, 0, 0) from rfl) (hl8 3 _ rfl) ?_
    refine q_iconst (show mE (mtv 26) 8 = some (.iconst (-1), 1, 0, 0) from rfl) kI_m1 ?_
    refine q_ic_ne (t := 14) (show mE (mtv 26) 9 = some (.if_icmp .ne 5, 3, 0, 0) from rfl) rfl (fun c9 => ?_) (fun c9 => ?_)
    · refine q_aload_n (show mE (mtv 26) 14 = some (.aload_n 0, 1, 0, 0) from rfl) (hl8 0 _ rfl) ?_
      refine q_getR (m := 14) th (show mE (mtv 26) 15 = some (.getfield 37, 3, 8, 4) from rfl) (by decide) rfl rfl ?_
      refine q_iload_n (show mE (mtv 26) 18 = some (.iload_n 3, 1, 0, 0) from rfl) (hl8 3 _ rfl) ?_
      refine q_aaload (n := 12) (t := 7) (m := 45) th (show mE (mtv 26) 19 = some (.aaload, 1, 0, 0) from rfl) (by decide) rfl (fun _ _ => rfl) (fun bb10 => ?_)
      refine q_getB th (show mE (mtv 26) 20 = some (.getfield 323, 3, 6, 2) from rfl) (qB bb10 (by decide)) rfl (fun z11 => ?_)
      refine q_istore (show mE (mtv 26) 23 = some (.istore 4, 2, 0, 0) from rfl) (Nat.le_of_ble_eq_true rfl) hl8 (fun lv12 (hl13 : qLs lv12 [some (.ref (0)), some (.int (x2)), some (.int (x3)), some (.int (v5)), some (.int (I (45 + (v5).toNatClampNeg) 2))]) => ?_)
      refine q_iload (show mE (mtv 26) 25 = some (.iload 4, 2, 0, 0) from rfl) (hl13 4 _ rfl) ?_
      refine q_aload_n (show mE (mtv 26) 27 = some (.aload_n 0, 1, 0, 0) from rfl) (hl13 0 _ rfl) ?_
      refine q_getR (m := 13) th (show mE (mtv 26) 28 = some (.getfield 31, 3, 8, 3) from rfl) (by decide) rfl rfl ?_
      refine q_iload_n (show mE (mtv 26) 31 = some (.iload_n 1, 1, 0, 0) from rfl) (hl13 1 _ rfl) ?_
      refine q_aaloadD th (show mE (mtv 26) 32 = some (.aaload, 1, 0, 0) from rfl) (fun bb14 d15 d16 => ?_)
      refine q_getI th (show mE (mtv 26) 33 = some (.getfield 185, 3, 1, 1) from rfl) (Nat.lt_of_le_of_lt d16 (by decide)) rfl ?_
      refine q_iload_n (show mE (mtv 26) 36 = some (.iload_n 2, 1, 0, 0) from rfl) (hl13 2 _ rfl) ?_
      refine q_staticP (show mE (mtv 26) 37 = some (.invokestatic 197, 3, 15, 0) from rfl) (by decide) rfl rfl rfl (fun _ g => sp_15 g) ?_
      refine q_ic_eq (t := 62) (show mE (mtv 26) 40 = some (.if_icmp .eq 22, 3, 0, 0) from rfl) rfl (fun c17 => ?_) (fun c17 => ?_)
      · refine q_iconst (show mE (mtv 26) 62 = some (.iconst 0, 1, 0, 0) from rfl) kI_0 ?_
        refine q_ireturn (show mE (mtv 26) 63 = some (.ireturn, 1, 0, 0) from rfl) ?_
        refine qK_v ?_
        refine q_ift (t := 34) (show mE (mtv 25) 28 = some (.ifCond .eq 6, 3, 0, 0) from rfl) (by decide) rfl ?_
        refine q_iinc (show mE (mtv 25) 34 = some (.iinc 3 1, 3, 0, 0) from rfl) (Nat.le_of_ble_eq_true rfl) hl (hl 3 _ rfl) kI_1 (fun lv18 (hl19 : qLs lv18 [some (.ref (0)), some (.int (x1)), some (.int (x2)), some (.int (x3 + (1 : Int32)))]) => ?_)
        refine q_goto (t := 14) (show mE (mtv 25) 37 = some (.goto (-23), 3, 0, 0) from rfl) rfl ?_
        exact p2 c1 v5 e6 c9 bb10 z11 bb14 d15 d16 c17 lv18 (qLs_wk hl19 (⟨rfl, rfl, rfl, rfl, trivial⟩))
      · refine q_iload (show mE (mtv 26) 43 = some (.iload 4, 2, 0, 0) from rfl) (hl13 4 _ rfl) ?_
        refine q_if_eq (t := 64) (show mE (mtv 26) 45 = some (.ifCond .eq 19, 3, 0, 0) from rfl) rfl (fun c20 => ?_) (fun c20 => ?_)
        · refine q_aload_n (show mE (mtv 26) 64 = some (.aload_n 0, 1, 0, 0) from rfl) (hl13 0 _ rfl) ?_
          refine q_getR (m := 13) th (show mE (mtv 26) 65 = some (.getfield 31, 3, 8, 3) from rfl) (by decide) rfl rfl ?_
          refine q_iload_n (show mE (mtv 26) 68 = some (.iload_n 1, 1, 0, 0) from rfl) (hl13 1 _ rfl) ?_
          refine q_aaloadD th (show mE (mtv 26) 69 = some (.aaload, 1, 0, 0) from rfl) (fun bb21 d22 d23 => ?_)
          refine q_aload_n (show mE (mtv 26) 70 = some (.aload_n 0, 1, 0, 0) from rfl) (hl13 0 _ rfl) ?_
          refine q_getR (m := 13) th (show mE (mtv 26) 71 = some (.getfield 31, 3, 8, 3) from rfl) (by decide) rfl rfl ?_
          refine q_iload_n (show mE (mtv 26) 74 = some (.iload_n 1, 1, 0, 0) from rfl) (hl13 1 _ rfl) ?_
          refine q_aaloadD th (show mE (mtv 26) 75 = some (.aaload, 1, 0, 0) from rfl) (fun bb24 d25 d26 => ?_)
          refine q_getI th (show mE (mtv 26) 76 = some (.getfield 185, 3, 1, 1) from rfl) (Nat.lt_of_le_of_lt d26 (by decide)) rfl ?_
          refine q_iload_n (show mE (mtv 26) 79 = some (.iload_n 2, 1, 0, 0) from rfl) (hl13 2 _ rfl) ?_
          refine q_iload (show mE (mtv 26) 80 = some (.iload 4, 2, 0, 0) from rfl) (hl13 4 _ rfl) ?_
          refine q_staticP (show mE (mtv 26) 82 = some (.invokestatic 188, 3, 29, 0) from rfl) (by decide) rfl rfl rfl (fun _ g => sp_29 g) ?_
          refine q_putI th (show mE (mtv 26) 85 = some (.putfield 185, 3, 1, 1) from rfl) (Nat.lt_of_le_of_lt d23 (by decide)) rfl (fun h27 t28 => ?_)
          refine q_iconst (show mE (mtv 26) 88 = some (.iconst 1, 1, 0, 0) from rfl) kI_1 ?_
          refine q_ireturn (show mE (mtv 26) 89 = some (.ireturn, 1, 0, 0) from rfl) ?_
          refine qK_v ?_
          refine q_iff (t := 34) (show mE (mtv 25) 28 = some (.ifCond .eq 6, 3, 0, 0) from rfl) (by decide) rfl ?_
          refine q_iinc (show mE (mtv 25) 31 = some (.iinc 1 1, 3, 0, 0) from rfl) (Nat.le_of_ble_eq_true rfl) hl (hl 1 _ rfl) kI_1 (fun lv29 (hl30 : qLs lv29 [some (.ref (0)), some (.int (x1 + (1 : Int32))), some (.int (x2)), some (.int (x3))]) => ?_)
          refine q_iinc (show mE (mtv 25) 34 = some (.iinc 3 1, 3, 0, 0) from rfl) (Nat.le_of_ble_eq_true rfl) hl30 (hl30 3 _ rfl) kI_1 (fun lv31 (hl32 : qLs lv31 [some (.ref (0)), some (.int (x1 + (1 : Int32))), some (.int (x2)), some (.int (x3 + (1 : Int32)))]) => ?_)
          refine q_goto (t := 14) (show mE (mtv 25) 37 = some (.goto (-23), 3, 0, 0) from rfl) rfl ?_
          exact p3 c1 v5 e6 c9 bb10 z11 bb14 d15 d16 c17 c20 h27 t28 lv31 (qLs_wk hl32 (⟨rfl, rfl, rfl, rfl, trivial⟩))
        · refine q_aload_n (show mE (mtv 26) 48 = some (.aload_n 0, 1, 0, 0) from rfl) (hl13 0 _ rfl) ?_
          refine q_aload_n (show mE (mtv 26) 49 = some (.aload_n 0, 1, 0, 0) from rfl) (hl13 0 _ rfl) ?_
          refine q_getR (m := 13) th (show mE (mtv 26) 50 = some (.getfield 31, 3, 8, 3) from rfl) (by decide) rfl rfl ?_
          refine q_iload_n (show mE (mtv 26) 53 = some (.iload_n 1, 1, 0, 0) from rfl) (hl13 1 _ rfl) ?_
          refine q_aaloadD th (show mE (mtv 26) 54 = some (.aaload, 1, 0, 0) from rfl) (fun bb33 d34 d35 => ?_)
          refine q_iload_n (show mE (mtv 26) 55 = some (.iload_n 2, 1, 0, 0) from rfl) (hl13 2 _ rfl) ?_
          refine q_virtualP (show mE (mtv 26) 56 = some (.invokevirtual 179, 3, 28, 8) from rfl) (by decide) rfl rfl rfl (fun _ g => sp_28 th (Nat.lt_of_le_of_lt d35 (by decide)) g) ?_
          refine q_ifb_ne (t := 64) (show mE (mtv 26) 59 = some (.ifCond .ne 5, 3, 0, 0) from rfl) rfl (fun c36 => ?_) (fun c36 => ?_)
          · refine q_aload_n (show mE (mtv 26) 64 = some (.aload_n 0, 1, 0, 0) from rfl) (hl13 0 _ rfl) ?_
            refine q_getR (m := 13) th (show mE (mtv 26) 65 = some (.getfield 31, 3, 8, 3) from rfl) (by decide) rfl rfl ?_
            refine q_iload_n (show mE (mtv 26) 68 = some (.iload_n 1, 1, 0, 0) from rfl) (hl13 1 _ rfl) ?_
            refine q_aaloadD th (show mE (mtv 26) 69 = some (.aaload, 1, 0, 0) from rfl) (fun bb37 d38 d39 => ?_)
            refine q_aload_n (show mE (mtv 26) 70 = some (.aload_n 0, 1, 0, 0) from rfl) (hl13 0 _ rfl) ?_
            refine q_getR (m := 13) th (show mE (mtv 26) 71 = some (.getfield 31, 3, 8, 3) from rfl) (by decide) rfl rfl ?_
            refine q_iload_n (show mE (mtv 26) 74 = some (.iload_n 1, 1, 0, 0) from rfl) (hl13 1 _ rfl) ?_
            refine q_aaloadD th (show mE (mtv 26) 75 = some (.aaload, 1, 0, 0) from rfl) (fun bb40 d41 d42 => ?_)
            refine q_getI th (show mE (mtv 26) 76 = some (.getfield 185, 3, 1, 1) from rfl) (Nat.lt_of_le_of_lt d42 (by decide)) rfl ?_
            refine q_iload_n (show mE (mtv 26) 79 = some (.iload_n 2, 1, 0, 0) from rfl) (hl13 2 _ rfl) ?_
            refine q_iload (show mE (mtv 26) 80 = some (.iload 4, 2, 0, 0) from rfl) (hl13 4 _ rfl) ?_
            refine q_staticP (show mE (mtv 26) 82 = some (.invokestatic 188, 3, 29, 0) from rfl) (by decide) rfl rfl rfl (fun _ g => sp_29 g) ?_
            refine q_putI th (show mE (mtv 26) 85 = some (.putfield 185, 3, 1, 1) from rfl) (Nat.lt_of_le_of_lt d39 (by decide)) rfl (fun h43 t44 => ?_)
            refine q_iconst (show mE (mtv 26) 88 = some (.iconst 1, 1, 0, 0) from rfl) kI_1 ?_
            refine q_ireturn (show mE (mtv 26) 89 = some (.ireturn, 1, 0, 0) from rfl) ?_
            refine qK_v ?_
            refine q_iff (t := 34) (show mE (mtv 25) 28 = some (.ifCond .eq 6, 3, 0, 0) from rfl) (by decide) rfl ?_
            refine q_iinc (show mE (mtv 25) 31 = some (.iinc 1 1, 3, 0, 0) from rfl) (Nat.le_of_ble_eq_true rfl) hl (hl 1 _ rfl) kI_1 (fun lv45 (hl46 : qLs lv45 [some (.ref (0)), some (.int (x1 + (1 : Int32))), some (.int (x2)), some (.int (x3))]) => ?_)
            refine q_iinc (show mE (mtv 25) 34 = some (.iinc 3 1, 3, 0, 0) from rfl) (Nat.le_of_ble_eq_true rfl) hl46 (hl46 3 _ rfl) kI_1 (fun lv47 (hl48 : qLs lv47 [some (.ref (0)), some (.int (x1 + (1 : Int32))), some (.int (x2)), some (.int (x3 + (1 : Int32)))]) => ?_)
            refine q_goto (t := 14) (show mE (mtv 25) 37 = some (.goto (-23), 3, 0, 0) from rfl) rfl ?_
            exact p4 c1 v5 e6 c9 bb10 z11 bb14 d15 d16 c17 c20 c36 h43 t44 lv47 (qLs_wk hl48 (⟨rfl, rfl, rfl, rfl, trivial⟩))
          · refine q_iconst (show mE (mtv 26) 62 = some (.iconst 0, 1, 0, 0) from rfl) kI_0 ?_
            refine q_ireturn (show mE (mtv 26) 63 = some (.ireturn, 1, 0, 0) from rfl) ?_
            refine qK_v ?_
            refine q_ift (t := 34) (show mE (mtv 25) 28 = some (.ifCond .eq 6, 3, 0, 0) from rfl) (by decide) rfl ?_
            refine q_iinc (show mE (mtv 25) 34 = some (.iinc 3 1, 3, 0, 0) from rfl) (Nat.le_of_ble_eq_true rfl) hl (hl 3 _ rfl) kI_1 (fun lv49 (hl50 : qLs lv49 [some (.ref (0)), some (.int (x1)), some (.int (x2)), some (.int (x3 + (1 : Int32)))]) => ?_)
            refine q_goto (t := 14) (show mE (mtv 25) 37 = some (.goto (-23), 3, 0, 0) from rfl) rfl ?_
            exact p5 c1 v5 e6 c9 bb10 z11 bb14 d15 d16 c17 c20 c36 lv49 (qLs_wk hl50 (⟨rfl, rfl, rfl, rfl, trivial⟩))
    · refine q_iconst (show mE (mtv 26) 12 = some (.iconst 0, 1, 0, 0) from rfl) kI_0 ?_
      refine q_ireturn (show mE (mtv 26) 13 = some (.ireturn, 1, 0, 0) from rfl) ?_
      refine qK_v ?_
      refine q_ift (t := 34) (show mE (mtv 25) 28 = some (.ifCond .eq 6, 3, 0, 0) from rfl) (by decide) rfl ?_
      refine q_iinc (show mE (mtv 25) 34 = some (.iinc 3 1, 3, 0, 0) from rfl) (Nat.le_of_ble_eq_true rfl) hl (hl 3 _ rfl) kI_1 (fun lv51 (hl52 : qLs lv51 [some (.ref (0)), some (.int (x1)), some (.int (x2)), some (.int (x3 + (1 : Int32)))]) => ?_)
      refine q_goto (t := 14) (show mE (mtv 25) 37 = some (.goto (-23), 3, 0, 0) from rfl) rfl ?_
      exact p6 c1 v5 e6 c9 lv51 (qLs_wk hl52 (⟨rfl, rfl, rfl, rfl, trivial⟩))
theorem lk_25 {I : Nat → Nat → Int32} {L : Nat → Nat → Int64} {R : Nat → Nat} (hK : RK I L R) (hR : RGr I) {nr : Nat} (hn : nr ≤ 12) (e11 : I 0 11 = Int32.ofNat nr) : ∀ N, (∀ J j lv hh, qH hh J L R → apC I R nr j 0 J → j ≤ ndI I → qLs lv [some (.ref (0)), some (.int (jS (apS I nr) j)), some (.int (Int32.ofNat j)), none] → qW 25 N 4 lv [] hh (apQ I L R nr)) ∧ (∀ J j m lv hh, qH hh J L R → apC I R nr j m J → j < ndI I → m ≤ nkI I → qLs lv [some (.ref (0)), some (.int (jS (apS I nr) j + jS (fun k => bj (chg I nr j k)) m)), some (.int (Int32.ofNat j)), some (.int (Int32.ofNat m))] → qW 25 N 14 lv [] hh (apQ I L R nr)) := by
  have hkb := hK.mi.kb
  have hdb := hK.mi.db
  intro N
  induction N with
  | zero => exact ⟨fun _ _ _ _ _ _ _ _ => qW_0, fun _ _ _ _ _ _ _ _ _ _ => qW_0⟩
  | succ N ih =>
    obtain ⟨ih4, ih14⟩ := ih
    refine ⟨fun J j lv hh t a hj hl => ?_, fun J j m lv hh t a hj hm hl => ?_⟩
    · have f10 : J 0 10 = Int32.ofNat (ndI I) := (a.1 0 10 (by omega)).trans hK.d1
      refine qg_25_4 t hl (fun c1 => ?_) (fun c1 lv' hl' => ?_)
      · rw [f10] at c1
        have := (oN_le (by omega) (by omega)).mp c1
        have ej : j = ndI I := by omega
        subst ej
        exact ⟨J, hh, rfl, t, a⟩
      · rw [f10] at c1
        have := mt (oN_le (by omega) (by omega)).mpr c1
        exact ih14 J j 0 lv' hh t a (by omega) (Nat.zero_le _) (by rw [show jS (fun k => bj (chg I nr j k)) 0 = 0 from rfl, Int32.add_zero]; exact hl')
    · have hr := hK.rr j (by omega)
      have f9 : J 0 9 = Int32.ofNat (nkI I) := (a.1 0 9 (by omega)).trans hK.k1
      have nxt : ∀ m', m' < nkI I → (¬ (J 0 9) ≤ Int32.ofNat m) → m < nkI I := fun m' _ c => by
        rw [f9] at c
        have := mt (oN_le (by omega) (by omega)).mpr c
        omega
      have lt : (¬ (J 0 9) ≤ Int32.ofNat m) → m < nkI I := fun c => by
        rw [f9] at c
        have := mt (oN_le (by omega) (by omega)).mpr c
        omega
      have w0 : m < nkI I → hs (J (R (Int32.ofNat j).toNatClampNeg) 1) (Int32.ofNat m) = hs (I 88 m) (Int32.ofNat j) := fun l => by
        rw [ofN_clamp (by omega), hs_oN (by omega), hs_oN (by omega), a.2 j m (by omega), rvs_h, Bool.false_and, Bool.xor_false]
        exact hK.wi j m (by omega) (by omega)
      have T0 : m < nkI I → T_28 J (R (Int32.ofNat j).toNatClampNeg) (Int32.ofNat m) = T_224 I (Int32.ofNat j) (Int32.ofNat m) := fun l => by
        have w := w0 l
        rw [← canw hK hj l]
        rw [ofN_clamp (show j < 2147483648 by omega)] at w ⊢
        unfold T_28
        rw [w, hK.hw hj l, hs_oN (by omega), ofN_clamp (show m < 2147483648 by omega), a.1 (19 + m) 2 (by omega), a.1 (19 + m) 1 (by omega), a.1 (R j) 0 (by omega)]
      have ru : ∀ v, lrP J (Int32.ofNat j) (Int32.ofNat m) v → (v = -1 ∧ ruM I j m nr = -1) ∨ ∃ i, i < 12 ∧ v = Int32.ofNat i ∧ ruM I j m nr = I (45 + i) 2 := fun v e => by
        rw [e nr ((a.1 0 11 (by omega)).trans e11) hn]
        exact ru_E hR (fun p b hp => a.1 _ b (by omega)) nr hn
      have one : ∀ v, lrP J (Int32.ofNat j) (Int32.ofNat m) v → ¬ v = -1 → ruM I j m nr = J (45 + v.toNatClampNeg) 2 := fun v e h => by
        rcases ru v e with ⟨z, _⟩ | ⟨i, i1, i2, i3⟩
        · exact absurd z h
        · rw [i2, ofN_clamp (by omega), i3, a.1 (45 + i) 2 (by omega)]
      have stay : ∀ lv', m < nkI I → chg I nr j m = false → qLs lv' [some (.ref (0)), some (.int (jS (apS I nr) j + jS (fun k => bj (chg I nr j k)) m)), some (.int (Int32.ofNat j)), some (.int (Int32.ofNat m + (1 : Int32)))] → qW 25 N 14 lv' [] hh (apQ I L R nr) := fun lv' l c hl' => by
        refine ih14 J j (m + 1) lv' hh t (apC_n a c) hj (by omega) ?_
        rw [show jS (fun k => bj (chg I nr j k)) (m + 1) = jS (fun k => bj (chg I nr j k)) m + bj (chg I nr j m) from rfl, c, show bj false = 0 from rfl, Int32.add_zero, ← oN_s]
        exact hl'
      have flip : ∀ lv' h' x, m < nkI I → chg I nr j m = true → decide (¬ x = 0) = !tb (I (R j) 1) m → qH h' (upI J (R (Int32.ofNat j).toNatClampNeg) 1 (xW (J (R (Int32.ofNat j).toNatClampNeg) 1) (Int32.ofNat m) x)) L R → qLs lv' [some (.ref (0)), some (.int (jS (apS I nr) j + jS (fun k => bj (chg I nr j k)) m + (1 : Int32))), some (.int (Int32.ofNat j)), some (.int (Int32.ofNat m + (1 : Int32)))] → qW 25 N 14 lv' [] h' (apQ I L R nr) := fun lv' h' x l c hx t' hl' => by
        rw [ofN_clamp (show j < 2147483648 by omega)] at t'
        refine ih14 _ j (m + 1) lv' h' t' (apC_f hK (by omega) (by omega) a c hx) hj (by omega) ?_
        rw [show jS (fun k => bj (chg I nr j k)) (m + 1) = jS (fun k => bj (chg I nr j k)) m + bj (chg I nr j m) from rfl, c, show bj true = 1 from rfl, ← Int32.add_assoc, ← oN_s]
        exact hl'
      have tbw : m < nkI I → tb (I (R j) 1) m = hs (I 88 m) (Int32.ofNat j) := fun l => by
        rw [hs_oN (by omega)]
        exact hK.wi j m (by omega) (by omega)
      refine qg_25_14 t hl (fun c1 lv' hl' => ?_) (fun c1 v5 e6 c9 _ _ _ _ _ c17 lv' hl' => ?_) (fun c1 v5 e6 c9 _ _ _ _ _ c17 c20 h27 t28 lv' hl' => ?_) (fun c1 v5 e6 c9 _ z11 _ _ _ c17 c20 c36 h43 t44 lv' hl' => ?_) (fun c1 v5 e6 c9 _ z11 _ _ _ c17 c20 c36 lv' hl' => ?_) (fun c1 v5 e6 c9 lv' hl' => ?_)
      · rw [f9] at c1
        have := (oN_le (by omega) (by omega)).mp c1
        have em : m = nkI I := by omega
        subst em
        rw [oN_s] at hl'
        exact ih4 J (j + 1) lv' hh t ⟨a.1, fun d k hd => by rw [a.2 d k hd, rvs_r]⟩ (by omega) hl'
      · have l := lt c1
        rw [w0 l, ← one v5 e6 c9] at c17
        exact stay lv' l (chg_no2 c17) hl'
      · have l := lt c1
        have o := one v5 e6 c9
        rw [w0 l, ← o] at c17
        refine flip lv' h27 _ l (chg_y (by rw [o, c20]; decide) c17 (fun z => by rw [o, c20] at z; exact absurd z (by decide))) ?_ t28 hl'
        rw [tbw l, c20]
        rw [o, c20] at c17
        cases g : hs (I 88 m) (Int32.ofNat j) with
        | true => rfl
        | false => rw [g] at c17; exact absurd rfl c17
      · have l := lt c1
        have o := one v5 e6 c9
        have x1 := z11.resolve_left c20
        rw [w0 l, ← o] at c17
        refine flip lv' h43 _ l (chg_y (by rw [o, x1]; decide) c17 (fun _ => by rw [← T0 l]; exact c36)) ?_ t44 hl'
        rw [tbw l, x1]
        rw [o, x1] at c17
        cases g : hs (I 88 m) (Int32.ofNat j) with
        | false => rfl
        | true => rw [g] at c17; exact absurd rfl c17
      · have l := lt c1
        have o := one v5 e6 c9
        have x1 := z11.resolve_left c20
        exact stay lv' l (chg_no3 (by rw [o, x1]) (by rw [← T0 l]; exact c36)) hl'
      · have l := lt c1
        rcases ru v5 e6 with ⟨_, z⟩ | ⟨i, i1, i2, _⟩
        · exact stay lv' l (chg_no1 z) hl'
        · exfalso
          rw [c9] at i2
          have := congrArg Int32.toInt i2
          rw [ofN_toInt (by omega), show (-1 : Int32).toInt = -1 by decide] at this
          omega
/-! the model -/
noncomputable def apT (I : Nat → Nat → Int32) (nr : Nat) (k : Nat) : Int32 := jS (fun d => bj (chg I nr d k)) (ndI I)
noncomputable def apM (I : Nat → Nat → Int32) (nr j m : Nat) (J : Nat → Nat → Int32) : Prop := (∀ a b, a ≠ 88 → J a b = I a b) ∧ ∀ k d, k < 16 → tb (J 88 k) d = (tb (I 88 k) d ^^ (rvs (ndI I) j m k d && chg I nr d k))
theorem apM_n {I J : Nat → Nat → Int32} {nr j m : Nat} (h : apM I nr j m J) (c : chg I nr m j = false) : apM I nr j (m + 1) J := by
  refine ⟨h.1, fun k d hk => ?_⟩
  rw [h.2 k d hk, rvs_s]
  by_cases e : k = j ∧ d = m
  · rw [e.1, e.2, c, Bool.and_false, Bool.and_false]
  · rw [decide_eq_false e, Bool.or_false]
theorem apM_f {I J : Nat → Nat → Int32} {nr j m : Nat} (hm : m < 32) (h : apM I nr j m J) (c : chg I nr m j = true) : apM I nr j (m + 1) (upI J 88 j ((J 88 j) ^^^ ((1 : Int32) <<< (Int32.ofNat m &&& 31)))) := by
  refine ⟨fun a b hn => by rw [upI_ne (fun z => hn z.1)]; exact h.1 a b hn, fun k d hk => ?_⟩
  rw [rvs_s]
  by_cases e : k = j
  · subst e
    rw [upI_s, tb_xor, tb_1shl hm, h.2 k d hk]
    by_cases e2 : d = m
    · subst e2
      rw [decide_eq_true rfl, decide_eq_true ⟨rfl, rfl⟩, rvs_h, c]
      cases tb (I 88 k) d <;> rfl
    · rw [decide_eq_false e2, Bool.xor_false, decide_eq_false (fun z => e2 z.2), Bool.or_false]
  · rw [upI_ne (fun z => e z.2), h.2 k d hk, decide_eq_false (fun z => e z.1), Bool.or_false]
theorem sem_265 {I : Nat → Nat → Int32} (hm : MI I) {nr : Nat} (hn : nr ≤ 12) (e45 : I 85 45 = Int32.ofNat nr) : ∀ n, (∀ J j x3 x4 x5 r, apM I nr j 0 J → j ≤ nkI I → F_265 n 9 J (jS (apT I nr) j) (Int32.ofNat j) x3 x4 x5 = some r → r.1 = jS (apT I nr) (nkI I) ∧ apM I nr (nkI I) 0 r.2) ∧ (∀ J j m x4 x5 r, apM I nr j m J → j < nkI I → m ≤ ndI I → F_265 n 19 J (jS (apT I nr) j + jS (fun d => bj (chg I nr d j)) m) (Int32.ofNat j) (Int32.ofNat m) x4 x5 = some r → r.1 = jS (apT I nr) (nkI I) ∧ apM I nr (nkI I) 0 r.2) ∧ (∀ J j m q r, apM I nr j m J → j < nkI I → m < ndI I → q ≤ nr → F_265 n 33 J (jS (apT I nr) j + jS (fun d => bj (chg I nr d j)) m) (Int32.ofNat j) (Int32.ofNat m) (ruM I m j q) (Int32.ofNat q) = some r → r.1 = jS (apT I nr) (nkI I) ∧ apM I nr (nkI I) 0 r.2) := by
  have hkb := hm.kb
  have hdb := hm.db
  intro n
  induction n with
  | zero => exact ⟨fun _ _ _ _ _ _ _ _ h => (by cases h), fun _ _ _ _ _ _ _ _ _ h => (by cases h), fun _ _ _ _ _ _ _ _ _ h => (by cases h)⟩
  | succ n ih =>
    obtain ⟨ih9, ih19, ih33⟩ := ih
    refine ⟨fun J j x3 x4 x5 r a hj h => ?_, fun J j m x4 x5 r a hj hm' h => ?_, fun J j m q r a hj hm' hq h => ?_⟩
    · simp only [F_265, Nat.reduceEqDiff, reduceIte] at h
      rw [a.1 85 35 (by decide), hm.k] at h
      by_cases g : Int32.ofNat (nkI I) ≤ Int32.ofNat j
      · have := (oN_le (by omega) (by omega)).mp g
        rw [if_pos g] at h
        have ej : j = nkI I := by omega
        subst ej
        cases h
        exact ⟨rfl, a⟩
      · have := mt (oN_le (by omega) (by omega)).mpr g
        rw [if_neg g] at h
        refine ih19 J j 0 x4 x5 r a (by omega) (Nat.zero_le _) ?_
        rw [show jS (fun d => bj (chg I nr d j)) 0 = 0 from rfl, Int32.add_zero]
        exact h
    · simp only [F_265, Nat.reduceEqDiff, reduceIte] at h
      rw [a.1 85 36 (by decide), hm.d] at h
      by_cases g : Int32.ofNat (ndI I) ≤ Int32.ofNat m
      · have := (oN_le (by omega) (by omega)).mp g
        rw [if_pos g] at h
        have em : m = ndI I := by omega
        subst em
        rw [oN_s] at h
        exact ih9 J (j + 1) _ x4 x5 r ⟨a.1, fun k d hk => by rw [a.2 k d hk, rvs_r]⟩ (by omega) h
      · have := mt (oN_le (by omega) (by omega)).mpr g
        rw [if_neg g] at h
        exact ih33 J j m 0 r a hj (by omega) (Nat.zero_le _) h
    · simp only [F_265, Nat.reduceEqDiff, reduceIte] at h
      rw [a.1 85 45 (by decide), e45] at h
      have w0 : hs (J 88 (Int32.ofNat j).toNatClampNeg) (Int32.ofNat m) = hs (I 88 j) (Int32.ofNat m) := by
        rw [ofN_clamp (by omega), hs_oN (by omega), hs_oN (by omega), a.2 j m (by omega), rvs_h, Bool.false_and, Bool.xor_false]
      have T0 : T_224 J (Int32.ofNat m) (Int32.ofNat j) = T_224 I (Int32.ofNat m) (Int32.ofNat j) := by
        unfold T_224 T_225
        rw [w0, a.1 92 _ (by decide), a.1 95 _ (by decide), a.1 97 _ (by decide), ofN_clamp (show j < 2147483648 by omega)]
      by_cases g : Int32.ofNat nr ≤ Int32.ofNat q
      · have := (oN_le (by omega) (by omega)).mp g
        rw [if_pos g] at h
        have eq : q = nr := by omega
        subst eq
        have stay : ∀ x, chg I q m j = false → F_265 n 19 J (jS (apT I q) j + jS (fun d => bj (chg I q d j)) m) (Int32.ofNat j) (Int32.ofNat m + (1 : Int32)) x (Int32.ofNat q) = some r → r.1 = jS (apT I q) (nkI I) ∧ apM I q (nkI I) 0 r.2 := fun x c h' => by
          refine ih19 J j (m + 1) x (Int32.ofNat q) r (apM_n a c) hj (by omega) ?_
          rw [show jS (fun d => bj (chg I q d j)) (m + 1) = jS (fun d => bj (chg I q d j)) m + bj (chg I q m j) from rfl, c, show bj false = 0 from rfl, Int32.add_zero, ← oN_s]
          exact h'
        have flip : ∀ x, chg I q m j = true → F_265 n 19 (upI J 88 ((Int32.ofNat j).toNatClampNeg) ((J 88 ((Int32.ofNat j).toNatClampNeg)) ^^^ ((1 : Int32) <<< (Int32.ofNat m &&& 31)))) (jS (apT I q) j + jS (fun d => bj (chg I q d j)) m + (1 : Int32)) (Int32.ofNat j) (Int32.ofNat m + (1 : Int32)) x (Int32.ofNat q) = some r → r.1 = jS (apT I q) (nkI I) ∧ apM I q (nkI I) 0 r.2 := fun x c h' => by
          rw [ofN_clamp (show j < 2147483648 by omega)] at h'
          refine ih19 _ j (m + 1) x (Int32.ofNat q) r (apM_f (by omega) a c) hj (by omega) ?_
          rw [show jS (fun d => bj (chg I q d j)) (m + 1) = jS (fun d => bj (chg I q d j)) m + bj (chg I q m j) from rfl, c, show bj true = 1 from rfl, ← Int32.add_assoc, ← oN_s]
          exact h'
        by_cases g1 : ruM I m j q = -1
        · rw [if_pos g1] at h
          exact stay _ (chg_no1 g1) h
        · rw [if_neg g1] at h
          by_cases g2 : ruM I m j q = b2 (hs (J 88 (Int32.ofNat j).toNatClampNeg) (Int32.ofNat m) = true)
          · rw [if_pos g2] at h
            exact stay _ (chg_no2 (by rw [← w0]; exact g2)) h
          · rw [if_neg g2] at h
            have g2' : ¬ ruM I m j q = b2 (hs (I 88 j) (Int32.ofNat m) = true) := by rw [← w0]; exact g2
            by_cases g3 : ruM I m j q = 1
            · rw [if_pos g3] at h
              by_cases g4 : T_224 J (Int32.ofNat m) (Int32.ofNat j) = true
              · rw [if_pos g4] at h
                exact flip _ (chg_y g1 g2' (fun _ => by rw [← T0]; exact g4)) h
              · rw [if_neg g4] at h
                exact stay _ (chg_no3 g3 (by rw [← T0]; exact g4)) h
            · rw [if_neg g3] at h
              exact flip _ (chg_y g1 g2' (fun z => absurd z g3)) h
      · have := mt (oN_le (by omega) (by omega)).mpr g
        rw [if_neg g, ofN_clamp (show q < 2147483648 by omega), a.1 101 _ (by decide), a.1 102 _ (by decide), a.1 103 _ (by decide), oN_s] at h
        refine ih33 J j m (q + 1) r a hj hm' (by omega) ?_
        unfold ruM
        by_cases g1 : hs (I 101 q) (Int32.ofNat j) = true
        · rw [if_pos g1] at h
          by_cases g2 : hs (I 102 q) (Int32.ofNat m) = true
          · rw [if_pos g2] at h
            rw [if_pos ⟨g1, g2⟩]; exact h
          · rw [if_neg g2] at h
            rw [if_neg (fun z => g2 z.2)]; exact h
        · rw [if_neg g1] at h
          rw [if_neg (fun z => g1 z.1)]; exact h
/-- the rules are applied: both sides -/
theorem ok_27 {h : sH} {I : Nat → Nat → Int32} {L : Nat → Nat → Int64} {R : Nat → Nat} (th : qH h I L R) (hK : RK I L R) (hG : RG I) (hB : BG I) {r : sR} (gW : qGo 25 [.ref (0)] h r) : ∀ r2 : sR, qGo 265 [.ref (85)] r.2 r2 → opD r.1 r2.1 r2.2 RK := by
  have hm := hK.mi
  have hkb := hm.kb
  have hdb := hm.db
  have hR : RGr I := hG.2.2.2.2.2
  have b11 := hB.2.2.2.1
  have e11 : I 0 11 = Int32.ofNat (I 0 11).toNatClampNeg := i32_clamp b11.1
  have hn : (I 0 11).toNatClampNeg ≤ 12 := clampB b11
  generalize (I 0 11).toNatClampNeg = nr at e11 hn
  have W : apQ I L R nr r := qg_25 (Q := apQ I L R nr) gW (fun N lv hl => (lk_25 hK hR hn e11 N).1 I 0 lv h th ⟨fun _ _ _ => rfl, fun d k hd => by
    unfold rvs
    rw [decide_eq_false (by omega), Bool.false_and, Bool.xor_false]⟩ (Nat.zero_le _) hl)
  obtain ⟨Jc, h1, rfl, tc, ac⟩ := W
  intro r2 g
  refine qg_265 (Q := fun r2 => opD _ r2.1 r2.2 RK) tc g (fun h2 t2 N lv hl => ?_)
  have eM : ∀ a b, 45 ≤ a → ¬ (a = 85 ∧ b = 42) → upI Jc 85 42 (0 : Int32) a b = I a b := fun a b q1 q2 => by rw [upI_ne q2, ac.1 a b (by omega)]
  have hmM : MI (upI Jc 85 42 (0 : Int32)) := MI_V (I := I) (fun a b q1 q2 => eM a b (by omega) (fun z => q2 (by unfold scr; omega))) hm
  have q_nk : nkI (upI Jc 85 42 (0 : Int32)) = nkI I := by unfold nkI; rw [eM 85 35 (by omega) (by omega)]
  have q_nd : ndI (upI Jc 85 42 (0 : Int32)) = ndI I := by unfold ndI; rw [eM 85 36 (by omega) (by omega)]
  have cg : ∀ d k, chg (upI Jc 85 42 (0 : Int32)) nr d k = chg I nr d k := fun d k => chg_cg (fun a b q => eM a b (by omega) (by omega))
  refine qW_mono ?_ ((fl_265 N).1 _ 0 0 0 0 0 lv h2 t2 hl)
  rintro r3 ⟨n, x, e, h3, rfl, q⟩
  obtain ⟨s1, s2, s3⟩ := (sem_265 hmM hn ((eM 85 45 (by omega) (by omega)).trans (hG.1.2.2.2.2.2.1.trans e11)) n).1 _ 0 0 0 0 x ⟨fun _ _ _ => rfl, fun k d hk => by
    unfold rvs
    rw [decide_eq_false (by omega), Bool.false_and, Bool.xor_false]⟩ (Nat.zero_le _) e
  rw [q_nk] at s1 s3
  rw [q_nd] at s3
  have cnt : jS (apS I nr) (ndI I) = x.1 := by
    rw [s1]
    have e1 : apT (upI Jc 85 42 (0 : Int32)) nr = fun k => jS (fun d => bj (chg I nr d k)) (ndI I) := by
      funext k
      unfold apT
      rw [q_nd]
      exact jS_ext (fun d _ => by rw [cg])
    rw [e1]
    exact jS_swap (f := fun d k => bj (chg I nr d k))
  have hd88 : ∀ k d, k < 16 → tb (x.2 88 k) d = (tb (I 88 k) d ^^ (decide (k < nkI I ∧ d < ndI I) && chg I nr d k)) := fun k d hk => by
    rw [s3 k d hk, eM 88 k (by omega) (by omega), cg]
    unfold rvs
    rw [show decide ((k < nkI I ∧ d < ndI I) ∨ (k = nkI I ∧ d < 0)) = decide (k < nkI I ∧ d < ndI I) from decide_eq_decide.mpr (by omega)]
  have hfr : ∀ a b, ¬ scr a b → ¬ (a = 88 ∨ (35 ≤ a ∧ a ≤ 44 ∧ b = 1)) → x.2 a b = I a b := fun a b q1 q2 => by
    rw [s2 a b (by omega), upI_ne (fun z => q1 (by unfold scr; omega)), ac.1 a b (by omega)]
  have hf : ∀ k d, k < nkI I → d < ndI I → tb (I 88 k) d = false → chg I nr d k = true → (I 95 k &&& I 97 d) = 0 := fun k d hk hd hw hc => by
    have o := ru_E hR (J := I) (fun _ _ _ => rfl) (d := d) (k := k) nr hn
    refine can_fit hm hd hk ?_
    refine Decidable.of_not_not (fun nT => ?_)
    rcases o with ⟨_, z⟩ | ⟨i, i1, _, i3⟩
    · rw [chg_no1 z] at hc; cases hc
    · rcases rule_z th i1 with z | z
      · rw [chg_no2 (by rw [i3, z, hs_oN (by omega), hw]; rfl)] at hc; cases hc
      · rw [chg_no3 (by rw [i3, z]) nT] at hc; cases hc
  have q_nk' : nkI x.2 = nkI I := by unfold nkI; rw [hfr 85 35 (by unfold scr; omega) (by omega)]
  have q_nd' : ndI x.2 = ndI I := by unfold ndI; rw [hfr 85 36 (by unfold scr; omega) (by omega)]
  refine ⟨_, x.2, L, R, rfl, congrArg (fun z => Sum.inl (some (Value.int z))) cnt.symm, q, RK_up_wish hK hfr (fun _ _ => rfl) rfl (fun _ => rfl) (MI_up_wish hm hfr (fun d k hk hb => ?_) (fun d k hk hb => ?_)) (fun d k hd hk => ?_) (fun d k hd hk => ?_)⟩
  · rw [hd88 k d hk] at hb
    rw [q_nk', q_nd']
    by_cases g : k < nkI I ∧ d < ndI I
    · exact g
    · rw [decide_eq_false g, Bool.false_and, Bool.xor_false] at hb
      exact hm.wu d k hk hb
  · rw [hd88 k d hk] at hb
    rw [hfr 95 k (by unfold scr; omega) (by omega), hfr 97 d (by unfold scr; omega) (by omega)]
    cases g : tb (I 88 k) d with
    | true => exact hm.wf d k hk g
    | false =>
      rw [g, Bool.false_xor, Bool.and_eq_true, decide_eq_true_eq] at hb
      exact hf k d hb.1.1 hb.1.2 g hb.2
  · have hr := hK.rr d hd
    rw [hd88 k d hk, s2 (R d) 1 (by omega), upI_ne (by omega), ac.2 d k hd, hK.wi d k hd hk]
    unfold rvs
    rw [show decide ((d < ndI I ∧ k < nkI I) ∨ (d = ndI I ∧ k < 0)) = decide (k < nkI I ∧ d < ndI I) from decide_eq_decide.mpr (by omega)]
  · have hr := hK.rr d hd
    rw [s2 (R d) 1 (by omega), upI_ne (by omega), ac.2 d k hd, hK.w0 d k hd hk]
    unfold rvs
    rw [decide_eq_false (by omega)]; rfl
end
