/-! part 80: doors exchanged, the plan -/
theorem kB_9 : (Int8.ofInt (9)).toInt32 = (9 : Int32) := by decide
noncomputable def sw (a b d : Nat) : Nat := if d = a then b else if d = b then a else d
theorem sw_sw {a b d : Nat} : sw a b (sw a b d) = d := by
  unfold sw
  by_cases h1 : d = a
  · rw [if_pos h1]
    by_cases h2 : b = a
    · rw [if_pos h2]; omega
    · rw [if_neg h2, if_pos rfl, h1]
  · rw [if_neg h1]
    by_cases h2 : d = b
    · rw [if_pos h2, if_pos rfl, h2]
    · rw [if_neg h2, if_neg h1, if_neg h2]
theorem sw_lt {a b d n : Nat} (ha : a < n) (hb : b < n) (hd : d < n) : sw a b d < n := by
  unfold sw
  by_cases h1 : d = a
  · rw [if_pos h1]; exact hb
  · rw [if_neg h1]
    by_cases h2 : d = b
    · rw [if_pos h2]; exact ha
    · rw [if_neg h2]; exact hd
theorem upR_sw {R : Nat → Nat} {a b d : Nat} : upR (upR R a (R b)) b (R a) d = R (sw a b d) := by
  unfold sw
  by_cases h2 : d = b
  · subst h2
    rw [upR_s]
    by_cases h1 : d = a
    · rw [if_pos h1, h1]
    · rw [if_neg h1, if_pos rfl]
  · rw [upR_ne h2]
    by_cases h1 : d = a
    · subst h1
      rw [upR_s, if_pos rfl]
    · rw [upR_ne h1, if_neg h1, if_neg h2]
theorem b2_inj {a b : Bool} : b2 (a = true) = b2 (b = true) ↔ a = b := by
  cases a <;> cases b <;> decide
theorem tb_sw {x : Int32} {a b : Nat} (ha : a < 32) (hb : b < 32) (d : Nat) : tb (if tb x a = tb x b then x else x ^^^ (((1 : Int32) <<< (Int32.ofNat a &&& 31)) ||| ((1 : Int32) <<< (Int32.ofNat b &&& 31)))) d = tb x (sw a b d) := by
  unfold sw
  by_cases g : tb x a = tb x b
  · rw [if_pos g]
    by_cases h1 : d = a
    · rw [if_pos h1, h1, g]
    · rw [if_neg h1]
      by_cases h2 : d = b
      · rw [if_pos h2, h2, g]
      · rw [if_neg h2]
  · rw [if_neg g, tb_xor, tb_or, tb_1shl ha, tb_1shl hb]
    by_cases h1 : d = a
    · rw [if_pos h1, h1, decide_eq_true rfl, Bool.true_or]
      cases q1 : tb x a <;> cases q2 : tb x b
      · exact absurd (q1.trans q2.symm) g
      · rfl
      · rfl
      · exact absurd (q1.trans q2.symm) g
    · rw [if_neg h1, decide_eq_false h1, Bool.false_or]
      by_cases h2 : d = b
      · rw [if_pos h2, h2, decide_eq_true rfl]
        cases q1 : tb x a <;> cases q2 : tb x b
        · exact absurd (q1.trans q2.symm) g
        · rfl
        · rfl
        · exact absurd (q1.trans q2.symm) g
      · rw [if_neg h2, decide_eq_false h2]
        cases tb x d <;> rfl
noncomputable def exR (I : Nat → Nat → Int32) (a b nk : Nat) (x : Int32 × (Nat → Nat → Int32)) : Prop := x.1 = G_226 x.2 (Int32.ofNat a) 0 ((0 : Int32)) (x.2 85 35).toNatClampNeg ∧ (∀ k d, k < nk → tb (x.2 88 k) d = tb (I 88 k) (sw a b d)) ∧ (∀ k, nk ≤ k → x.2 88 k = I 88 k) ∧ (∀ d, x.2 97 d = I 97 (sw a b d)) ∧ (∀ d, x.2 98 d = I 98 (sw a b d)) ∧ ∀ c d, ¬ (c = 88 ∨ c = 97 ∨ c = 98) → x.2 c d = I c d
theorem sem_271 {I : Nat → Nat → Int32} {a b nk : Nat} (ha : a < 32) (hb : b < 32) (ek : I 85 35 = Int32.ofNat nk) (hk : nk ≤ 16) : ∀ n J j r, j ≤ nk → (∀ k d, k < nk → tb (J 88 k) d = if k < j then tb (I 88 k) (sw a b d) else tb (I 88 k) d) → (∀ k, nk ≤ k → J 88 k = I 88 k) → (∀ c d, c ≠ 88 → J c d = I c d) → F_271 n 87 J (Int32.ofNat a) (Int32.ofNat b) (Int32.ofNat j) = some r → exR I a b nk r
  | 0, _, _, _, _, _, _, _, h => by cases h
  | n + 1, J, j, r, hj, hd, hu, he, h => by
    simp only [F_271, reduceIte] at h
    rw [he 85 35 (by decide), ek, ofN_clamp (show a < 2147483648 by omega), ofN_clamp (show b < 2147483648 by omega)] at h
    by_cases g : Int32.ofNat nk ≤ Int32.ofNat j
    · have := (oN_le (by omega) (by omega)).mp g
      rw [if_pos g] at h
      cases h
      have ne : ∀ c d, ¬ (c = 97 ∨ c = 98) → upI (upI (upI (upI J 97 a (J 97 b)) 97 b (J 97 a)) 98 a (J 98 b)) 98 b (J 98 a) c d = J c d := fun c d q => by
        rw [upI_ne (by omega), upI_ne (by omega), upI_ne (by omega), upI_ne (by omega)]
      refine ⟨rfl, fun k d hk' => ?_, fun k hk' => ?_, fun d => ?_, fun d => ?_, fun c d q => ?_⟩
      · show tb (upI (upI (upI (upI J 97 a (J 97 b)) 97 b (J 97 a)) 98 a (J 98 b)) 98 b (J 98 a) 88 k) d = _
        rw [ne 88 k (by omega), hd k d hk', if_pos (by omega)]
      · show upI (upI (upI (upI J 97 a (J 97 b)) 97 b (J 97 a)) 98 a (J 98 b)) 98 b (J 98 a) 88 k = _
        rw [ne 88 k (by omega)]; exact hu k hk'
      · show upI (upI (upI (upI J 97 a (J 97 b)) 97 b (J 97 a)) 98 a (J 98 b)) 98 b (J 98 a) 97 d = _
        rw [upI_ne (by omega), upI_ne (by omega), he 97 a (by decide), he 97 b (by decide)]
        unfold sw
        by_cases h2 : d = b
        · subst h2
          rw [upI_s]
          by_cases h1 : d = a
          · rw [if_pos h1, h1]
          · rw [if_neg h1, if_pos rfl]
        · rw [upI_ne (fun z => h2 z.2)]
          by_cases h1 : d = a
          · subst h1
            rw [upI_s, if_pos rfl]
          · rw [upI_ne (fun z => h1 z.2), if_neg h1, if_neg h2]; exact he 97 d (by decide)
      · show upI (upI (upI (upI J 97 a (J 97 b)) 97 b (J 97 a)) 98 a (J 98 b)) 98 b (J 98 a) 98 d = _
        rw [he 98 a (by decide), he 98 b (by decide)]
        unfold sw
        by_cases h2 : d = b
        · subst h2
          rw [upI_s]
          by_cases h1 : d = a
          · rw [if_pos h1, h1]
          · rw [if_neg h1, if_pos rfl]
        · rw [upI_ne (fun z => h2 z.2)]
          by_cases h1 : d = a
          · subst h1
            rw [upI_s, if_pos rfl]
          · rw [upI_ne (fun z => h1 z.2), if_neg h1, if_neg h2, upI_ne (by omega), upI_ne (by omega)]; exact he 98 d (by decide)
      · show upI (upI (upI (upI J 97 a (J 97 b)) 97 b (J 97 a)) 98 a (J 98 b)) 98 b (J 98 a) c d = _
        rw [ne c d (by omega)]; exact he c d (by omega)
    · have gj := mt (oN_le (by omega) (by omega)).mpr g
      rw [if_neg g, ofN_clamp (show j < 2147483648 by omega), oN_s, hs_oN ha, hs_oN hb] at h
      have st := tb_sw (x := J 88 j) ha hb
      have jb : ∀ d, tb (J 88 j) d = tb (I 88 j) d := fun d => by rw [hd j d (by omega), if_neg (Nat.lt_irrefl j)]
      by_cases c : tb (J 88 j) a = tb (J 88 j) b
      · rw [if_pos (b2_inj.mpr c)] at h
        refine sem_271 ha hb ek hk n J (j + 1) r (by omega) (fun k d hk' => ?_) hu he h
        by_cases e : k = j
        · subst e
          have := st d
          rw [if_pos c] at this
          rw [this, if_pos (by omega), jb]
        · rw [hd k d hk']
          by_cases c2 : k < j
          · rw [if_pos c2, if_pos (by omega)]
          · rw [if_neg c2, if_neg (by omega)]
      · rw [if_neg (fun z => c (b2_inj.mp z))] at h
        refine sem_271 ha hb ek hk n _ (j + 1) r (by omega) (fun k d hk' => ?_) (fun k hk' => ?_) (fun c' d q => ?_) h
        · by_cases e : k = j
          · subst e
            have := st d
            rw [if_neg c] at this
            rw [upI_s, this, if_pos (by omega), jb]
          · rw [upI_ne (fun z => e z.2), hd k d hk']
            by_cases c2 : k < j
            · rw [if_pos c2, if_pos (by omega)]
            · rw [if_neg c2, if_neg (by omega)]
        · rw [upI_ne (by omega)]; exact hu k hk'
        · rw [upI_ne (fun z => q z.1)]; exact he c' d q
theorem RK_exOp {I J : Nat → Nat → Int32} {L : Nat → Nat → Int64} {R : Nat → Nat} (h : RK I L R) {a b : Nat} {v : Int32} (ha : a < ndI I) (hb : b < ndI I) (x : exR I a b (nkI I) (v, J)) : RK J L (upR (upR R a (R b)) b (R a)) := by
  obtain ⟨_, x1, x2, x3, x4, x5⟩ := x
  dsimp only at x1 x2 x3 x4 x5
  have hm := h.mi
  have hdb := hm.db
  have hkb := hm.kb
  have e : ∀ c d, ¬ scr c d → ¬ (c = 88 ∨ c = 97 ∨ c = 98) → J c d = I c d := fun c d _ q => x5 c d q
  have q_nk : nkI J = nkI I := congrArg Int32.toNatClampNeg (x5 85 35 (by omega))
  have q_nd : ndI J = ndI I := congrArg Int32.toNatClampNeg (x5 85 36 (by omega))
  have w : ∀ d k, k < 16 → tb (J 88 k) d = tb (I 88 k) (sw a b d) := fun d k hk => by
    by_cases g : k < nkI I
    · exact x1 k d g
    · rw [x2 k (by omega)]
      have z : ∀ d, tb (I 88 k) d = false := fun d => Bool.eq_false_iff.mpr (fun z => g (hm.wu d k hk z).1)
      rw [z, z]
  refine RK_up_exch h e (fun _ _ => rfl) rfl (fun _ => rfl) (MI_up_exch hm e ?_ ?_) ?_ ?_ ?_ ?_ ?_ ?_
  · intro d k hk z
    rw [w d k hk] at z
    obtain ⟨z1, z2⟩ := hm.wu _ k hk z
    rw [q_nk, q_nd]
    have := sw_lt ha hb z2
    rw [sw_sw] at this
    exact ⟨z1, this⟩
  · intro d k hk z
    rw [w d k hk] at z
    rw [x5 95 k (by omega), x3 d]
    exact hm.wf _ k hk z
  · intro d k hd hk
    have hr := h.rr (sw a b d) (sw_lt (n := 10) (by omega) (by omega) hd)
    rw [upR_sw, w d k hk, x5 _ 1 (by omega)]
    exact h.wi _ k (sw_lt (by omega) (by omega) hd) hk
  · intro d k hd hk
    have hr := h.rr (sw a b d) (sw_lt (n := 10) (by omega) (by omega) hd)
    rw [upR_sw, x5 _ 1 (by omega)]
    exact h.w0 _ k (sw_lt (by omega) (by omega) hd) hk
  · intro d hd
    have hr := h.rr (sw a b d) (sw_lt (n := 10) (by omega) (by omega) hd)
    rw [upR_sw, x3 d, x5 _ 0 (by omega)]
    exact h.wa _ (sw_lt (by omega) (by omega) hd)
  · intro d hd
    have hr := h.rr (sw a b d) (sw_lt (n := 10) (by omega) (by omega) hd)
    rw [upR_sw, x4 d, x5 _ 2 (by omega)]
    exact h.bu _ (sw_lt (by omega) (by omega) hd)
  · intro d hd
    rw [upR_sw]
    exact h.rr _ (sw_lt (by omega) (by omega) hd)
  · intro d d' hd hd' z
    rw [upR_sw, upR_sw] at z
    have := h.ri _ _ (sw_lt (by omega) (by omega) hd) (sw_lt (by omega) (by omega) hd') z
    rw [← sw_sw (a := a) (b := b) (d := d), this, sw_sw]
/-! the plan -/
theorem nS_lt {f g : Nat → Nat} {i0 : Nat} : ∀ n, (∀ i, i < n → f i ≤ g i) → (nS f n ≤ nS g n) ∧ (i0 < n → f i0 < g i0 → nS f n < nS g n)
  | 0, _ => ⟨Nat.le_refl _, fun z => absurd z (Nat.not_lt_zero _)⟩
  | n + 1, h => by
    obtain ⟨h1, h2⟩ := nS_lt (i0 := i0) n (fun i hi => h i (by omega))
    have h3 := h n (by omega)
    show (nS f n + f n ≤ nS g n + g n) ∧ (i0 < n + 1 → f i0 < g i0 → nS f n + f n < nS g n + g n)
    refine ⟨by omega, fun z1 z2 => ?_⟩
    by_cases e : i0 = n
    · subst e; omega
    · have := h2 (by omega) z2; omega
theorem jS_bn (b : Nat → Bool) : ∀ k, jS (fun i => bj (b i)) k = Int32.ofNat (nS (fun i => bn (b i)) k) ∧ nS (fun i => bn (b i)) k ≤ k
  | 0 => ⟨rfl, Nat.le_refl _⟩
  | k + 1 => by
    obtain ⟨h1, h2⟩ := jS_bn b k
    show jS (fun i => bj (b i)) k + bj (b k) = Int32.ofNat (nS (fun i => bn (b i)) k + bn (b k)) ∧ nS (fun i => bn (b i)) k + bn (b k) ≤ k + 1
    rw [h1]
    cases b k
    · exact ⟨Int32.add_zero _, by show _ + 0 ≤ _; omega⟩
    · exact ⟨oN_s _, by show _ + 1 ≤ _; omega⟩
noncomputable def loN (I : Nat → Nat → Int32) (d : Nat) : Nat := nS (fun i => bn (!decide (I 92 i = 0) && opnM I d i)) (nkI I)
theorem lost_N {I : Nat → Nat → Int32} (hm : MI I) (d : Nat) : lostM I d = Int32.ofNat (loN I d) ∧ loN I d ≤ 16 := by
  obtain ⟨h1, h2⟩ := jS_bn (fun i => !decide (I 92 i = 0) && opnM I d i) (nkI I)
  exact ⟨h1, Nat.le_trans h2 hm.kb⟩
noncomputable def befP (l : Nat → Nat) (e d : Nat) : Prop := l d < l e ∨ (l e = l d ∧ e < d)
noncomputable def rkN (l : Nat → Nat) (n d : Nat) : Nat := nS (fun e => bn (pB (befP l e d))) n
noncomputable def vis (l : Nat → Nat) (n t j : Nat) : Nat := nS (fun e => bn (pB (t < l e ∨ (l e = t ∧ e < j)))) n
noncomputable def unsN (l : Nat → Nat) (n : Nat) : Nat := nS (fun e => bn (pB (0 < l e))) n
theorem bn_imp {p q : Prop} (h : p → q) : bn (pB p) ≤ bn (pB q) := by
  by_cases c : p
  · rw [pB_t c, pB_t (h c)]; exact Nat.le_refl _
  · rw [pB_f c]; exact Nat.zero_le _
theorem bn_lt {p q : Prop} (h1 : ¬ p) (h2 : q) : bn (pB p) < bn (pB q) := by
  rw [pB_f h1, pB_t h2]; decide
theorem rk_lt {l : Nat → Nat} {n d d' : Nat} (hd : d < n) (h : befP l d d') : rkN l n d < rkN l n d' := by
  unfold befP at h
  refine (nS_lt (i0 := d) n (fun e _ => bn_imp (fun z => ?_))).2 hd (bn_lt (fun z => ?_) h)
  · unfold befP at z ⊢; omega
  · unfold befP at z; omega
theorem rk_inj {l : Nat → Nat} {n d d' : Nat} (hd : d < n) (hd' : d' < n) (h : rkN l n d = rkN l n d') : d = d' := by
  rcases Nat.lt_trichotomy d d' with q | q | q
  · exfalso
    by_cases c : l d < l d'
    · have := rk_lt hd' (show befP l d' d from .inl c); omega
    · have := rk_lt hd (show befP l d d' by unfold befP; omega); omega
  · exact q
  · exfalso
    by_cases c : l d' < l d
    · have := rk_lt hd (show befP l d d' from .inl c); omega
    · have := rk_lt hd' (show befP l d' d by unfold befP; omega); omega
theorem rk_uns {l : Nat → Nat} {n d : Nat} (hd : d < n) (hl : 0 < l d) : rkN l n d < unsN l n := by
  refine (nS_lt (i0 := d) n (fun e _ => bn_imp (fun z => ?_))).2 hd (bn_lt (fun z => ?_) hl)
  · unfold befP at z; omega
  · unfold befP at z; omega
theorem vis_rk {l : Nat → Nat} {n j : Nat} : vis l n (l j) j = rkN l n j := rfl
theorem nS_ext' {f g : Nat → Nat} {n : Nat} (h : ∀ i, i < n → f i = g i) : nS f n = nS g n := nS_ext h
theorem vis_s {l : Nat → Nat} {t j : Nat} : ∀ m, nS (fun e => bn (pB (t < l e ∨ (l e = t ∧ e < j + 1)))) m = nS (fun e => bn (pB (t < l e ∨ (l e = t ∧ e < j)))) m + (if j < m ∧ l j = t then 1 else 0)
  | 0 => by rw [if_neg (fun z => absurd z.1 (Nat.not_lt_zero j))]; rfl
  | m + 1 => by
    show nS (fun e => bn (pB (t < l e ∨ (l e = t ∧ e < j + 1)))) m + bn (pB (t < l m ∨ (l m = t ∧ m < j + 1))) = nS (fun e => bn (pB (t < l e ∨ (l e = t ∧ e < j)))) m + bn (pB (t < l m ∨ (l m = t ∧ m < j))) + (if j < m + 1 ∧ l j = t then 1 else 0)
    rw [vis_s m]
    by_cases e : m = j
    · subst e
      rw [if_neg (fun z => absurd z.1 (Nat.lt_irrefl m))]
      by_cases c : l m = t
      · rw [if_pos ⟨by omega, c⟩, pB_t (show t < l m ∨ (l m = t ∧ m < m + 1) by omega), pB_f (show ¬ (t < l m ∨ (l m = t ∧ m < m)) by omega)]; rfl
      · rw [if_neg (fun z => c z.2), pB_cg (show (t < l m ∨ (l m = t ∧ m < m + 1)) ↔ (t < l m ∨ (l m = t ∧ m < m)) by omega)]; rfl
    · rw [pB_cg (show (t < l m ∨ (l m = t ∧ m < j + 1)) ↔ (t < l m ∨ (l m = t ∧ m < j)) by omega)]
      by_cases c : j < m ∧ l j = t
      · rw [if_pos c, if_pos ⟨by omega, c.2⟩]; omega
      · rw [if_neg c, if_neg (fun z => c ⟨by omega, z.2⟩)]; omega
theorem vis_n {l : Nat → Nat} {n t : Nat} : vis l n (t + 1) n = vis l n t 0 := nS_ext (fun e he => congrArg bn (pB_cg (by omega)))
theorem vis_0 {l : Nat → Nat} {n : Nat} : vis l n 0 0 = unsN l n := nS_ext (fun e he => congrArg bn (pB_cg (by omega)))
theorem vis_top {l : Nat → Nat} {n t : Nat} (h : ∀ d, l d ≤ t) : vis l n t 0 = 0 := by
  have : ∀ m, nS (fun e => bn (pB (t < l e ∨ (l e = t ∧ e < 0)))) m = 0 := fun m => by
    induction m with
    | zero => rfl
    | succ m ih =>
      show nS _ m + bn (pB _) = 0
      rw [ih, pB_f (by have := h m; omega)]; rfl
  exact this n
theorem uns_N {I : Nat → Nat → Int32} (hm : MI I) : unsafeM I = Int32.ofNat (unsN (loN I) (ndI I)) ∧ unsN (loN I) (ndI I) ≤ 10 := by
  have hdb := hm.db
  have e : ∀ d, unsM I d = bj (pB (0 < loN I d)) := fun d => by
    obtain ⟨h1, h2⟩ := lost_N hm d
    unfold unsM
    rw [h1]
    have k : (Int32.ofNat (loN I d) ≤ 0) ↔ loN I d = 0 := by
      have := oN_le (a := loN I d) (b := 0) (by omega) (by omega)
      exact ⟨fun z => by have := this.mp z; omega, fun z => this.mpr (by omega)⟩
    by_cases c : loN I d = 0
    · rw [decide_eq_true (k.mpr c), pB_f (by omega)]; rfl
    · rw [decide_eq_false (fun z => c (k.mp z)), pB_t (by omega)]; rfl
  obtain ⟨h1, h2⟩ := jS_bn (fun d => pB (0 < loN I d)) (ndI I)
  refine ⟨?_, Nat.le_trans h2 hdb⟩
  unfold unsafeM
  rw [jS_ext (fun d _ => e d)]
  exact h1
/-- a door's rank, of the class -/
theorem los_C' {I : Nat → Nat → Int32} {L : Nat → Nat → Int64} {R : Nat → Nat} (h : RK I L R) {d : Nat} (hd : d < 10) : G_13 I L (R (Int32.ofNat d).toNatClampNeg) (G_14 L (I (R (Int32.ofNat d).toNatClampNeg) 1) 0 ((0 : Int64)) (I 0 9).toNatClampNeg) 0 ((0 : Int32)) (I 0 9).toNatClampNeg = Int32.ofNat (loN I d) := by
  have := los_C h hd
  unfold pinC at this
  rw [ofN_clamp (by omega), h.n9, this]
  exact (lost_N h.mi d).1
theorem cnt_151 {I : Nat → Nat → Int32} {L : Nat → Nat → Int64} {R : Nat → Nat} (h : RK I L R) {d : Nat} (hd : d < 10) : ∀ m j, j + m ≤ 10 → G_151 I L R (Int32.ofNat d) (Int32.ofNat (loN I d)) j (Int32.ofNat (rkN (loN I) j d)) m = Int32.ofNat (rkN (loN I) (j + m) d)
  | 0, _, _ => rfl
  | m + 1, j, hj => by
    have ih := cnt_151 h hd m (j + 1) (by omega)
    have ld := (lost_N h.mi d).2
    have lj := (lost_N h.mi j).2
    rw [show j + (m + 1) = (j + 1) + m by omega, ← ih]
    show (if _ then _ else (if _ then (if _ then _ else _) else _)) = G_151 I L R (Int32.ofNat d) (Int32.ofNat (loN I d)) (j + 1) (Int32.ofNat (rkN (loN I) j d + bn (pB (befP (loN I) j d)))) m
    rw [los_C' h (show j < 10 by omega)]
    by_cases c1 : loN I d < loN I j
    · rw [if_pos ((oN_lt (by omega) (by omega)).mpr c1), pB_t (show befP (loN I) j d from .inl c1), oN_s]; rfl
    · rw [if_neg (fun z => c1 ((oN_lt (by omega) (by omega)).mp z))]
      by_cases c2 : loN I j = loN I d
      · rw [if_pos (by rw [c2])]
        by_cases c3 : d ≤ j
        · rw [if_pos ((oN_le (by omega) (by omega)).mpr c3), pB_f (show ¬ befP (loN I) j d by unfold befP; omega)]; rfl
        · rw [if_neg (fun z => c3 ((oN_le (by omega) (by omega)).mp z)), pB_t (show befP (loN I) j d by unfold befP; omega), oN_s]; rfl
      · rw [if_neg (fun z => c2 ((oN_inj (by omega) (by omega)).mp z)), pB_f (show ¬ befP (loN I) j d by unfold befP; omega)]; rfl
theorem cnt_150 {I : Nat → Nat → Int32} {L : Nat → Nat → Int64} {R : Nat → Nat} (h : RK I L R) {x : Int32} : ∀ m j, j + m = ndI I → (∃ d, j ≤ d ∧ d < ndI I ∧ 0 < loN I d ∧ Int32.ofNat (rkN (loN I) (ndI I) d) = x ∧ G_150 I L R x j m = Int32.ofNat d) ∨ (G_150 I L R x j m = -1 ∧ ∀ d, j ≤ d → d < ndI I → 0 < loN I d → ¬ Int32.ofNat (rkN (loN I) (ndI I) d) = x)
  | 0, j, hj => .inr ⟨rfl, fun d h1 h2 => absurd h2 (by omega)⟩
  | m + 1, j, hj => by
    have hdb := h.mi.db
    have ih := cnt_150 h (x := x) m (j + 1) (by omega)
    have lj := (lost_N h.mi j).2
    have e : G_150 I L R x j (m + 1) = if Int32.ofNat (loN I j) ≤ 0 then G_150 I L R x (j + 1) m else (if Int32.ofNat (rkN (loN I) (ndI I) j) = x then Int32.ofNat j else G_150 I L R x (j + 1) m) := by
      show (if _ then _ else (if _ then _ else _)) = _
      rw [los_C' h (show j < 10 by omega)]
      have := cnt_151 h (show j < 10 by omega) (ndI I) 0 (by omega)
      rw [Nat.zero_add] at this
      have z : Int32.ofNat (rkN (loN I) 0 j) = 0 := rfl
      rw [z] at this
      rw [h.n10, this]
    rw [e]
    have next : (¬ (0 < loN I j ∧ Int32.ofNat (rkN (loN I) (ndI I) j) = x)) → (∃ d, j ≤ d ∧ d < ndI I ∧ 0 < loN I d ∧ Int32.ofNat (rkN (loN I) (ndI I) d) = x ∧ G_150 I L R x (j + 1) m = Int32.ofNat d) ∨ (G_150 I L R x (j + 1) m = -1 ∧ ∀ d, j ≤ d → d < ndI I → 0 < loN I d → ¬ Int32.ofNat (rkN (loN I) (ndI I) d) = x) := fun nj => by
      rcases ih with ⟨d, q1, q2⟩ | ⟨q1, q2⟩
      · exact .inl ⟨d, by omega, q2⟩
      · refine .inr ⟨q1, fun d h1 h2 h3 h4 => ?_⟩
        by_cases z : d = j
        · subst z; exact nj ⟨h3, h4⟩
        · exact q2 d (by omega) h2 h3 h4
    by_cases c1 : Int32.ofNat (loN I j) ≤ 0
    · rw [if_pos c1]
      exact next (fun z => by have := (oN_le (a := loN I j) (b := 0) (by omega) (by omega)).mp c1; omega)
    · rw [if_neg c1]
      have pj : 0 < loN I j := by
        have := mt (oN_le (a := loN I j) (b := 0) (by omega) (by omega)).mpr c1
        omega
      by_cases c2 : Int32.ofNat (rkN (loN I) (ndI I) j) = x
      · rw [if_pos c2]
        exact .inl ⟨j, Nat.le_refl j, by omega, pj, c2, rfl⟩
      · rw [if_neg c2]
        exact next (fun z => c2 z.2)
theorem qg_273 {h : sH} {r : sR} {Q : sR → Prop} {a0 : Int32} {a1 : Int32} {a2 : Int32} {I : Nat → Nat → Int32} {L : Nat → Nat → Int64} {R : Nat → Nat} (th : qH h I L R) (g : qGo 273 [.ref (85), .int (a0), .int (a1), .int (a2)] h r)
    (p1 : ∀ (c1 : ¬ ((0 : Int32) ≤ a2 ∧ a2 ≤ (a0 - (1 : Int32)))), ∀ (c4 : (1 : Int32) ≤ a0 ∧ a0 ≤ (10 : Int32)), ∀ (h5 : sH), ∀ (t6 : qH h5 (upI I 85 42 (2 : Int32)) L R), Q (.inl (some (.int ((0 : Int32)))), h5))
    (p2 : ∀ (c1 : ¬ ((0 : Int32) ≤ a2 ∧ a2 ≤ (a0 - (1 : Int32)))), ∀ (c4 : ¬ ((1 : Int32) ≤ a0 ∧ a0 ≤ (10 : Int32))), ∀ (h7 : sH), ∀ (t8 : qH h7 (upI I 85 42 (1 : Int32)) L R), Q (.inl (some (.int ((0 : Int32)))), h7))
    (p3 : ∀ (c1 : (0 : Int32) ≤ a2 ∧ a2 ≤ (a0 - (1 : Int32))), ∀ (c9 : ¬ ((0 : Int32) ≤ a1 ∧ a1 ≤ (9 : Int32))), ∀ (c12 : (1 : Int32) ≤ a0 ∧ a0 ≤ (10 : Int32)), ∀ (h13 : sH), ∀ (t14 : qH h13 (upI I 85 42 (2 : Int32)) L R), Q (.inl (some (.int ((0 : Int32)))), h13))
    (p4 : ∀ (c1 : (0 : Int32) ≤ a2 ∧ a2 ≤ (a0 - (1 : Int32))), ∀ (c9 : ¬ ((0 : Int32) ≤ a1 ∧ a1 ≤ (9 : Int32))), ∀ (c12 : ¬ ((1 : Int32) ≤ a0 ∧ a0 ≤ (10 : Int32))), ∀ (h15 : sH), ∀ (t16 : qH h15 (upI I 85 42 (1 : Int32)) L R), Q (.inl (some (.int ((0 : Int32)))), h15))
    (p5 : ∀ (c1 : (0 : Int32) ≤ a2 ∧ a2 ≤ (a0 - (1 : Int32))), ∀ (c9 : (0 : Int32) ≤ a1 ∧ a1 ≤ (9 : Int32)), ∀ (v21 : Int32), ∀ (j17 : Nat → Nat → Int32), ∀ (e20 : unsP I j17 v21), ∀ (c22 : v21 ≤ ((a1 * a0) + a2)), ∀ (c25 : (1 : Int32) ≤ a0 ∧ a0 ≤ (10 : Int32)), ∀ (h26 : sH), ∀ (t27 : qH h26 (upI j17 85 42 (2 : Int32)) L R), Q (.inl (some (.int ((0 : Int32)))), h26))
    (p6 : ∀ (c1 : (0 : Int32) ≤ a2 ∧ a2 ≤ (a0 - (1 : Int32))), ∀ (c9 : (0 : Int32) ≤ a1 ∧ a1 ≤ (9 : Int32)), ∀ (v21 : Int32), ∀ (j17 : Nat → Nat → Int32), ∀ (e20 : unsP I j17 v21), ∀ (c22 : v21 ≤ ((a1 * a0) + a2)), ∀ (c25 : ¬ ((1 : Int32) ≤ a0 ∧ a0 ≤ (10 : Int32))), ∀ (h28 : sH), ∀ (t29 : qH h28 (upI j17 85 42 (1 : Int32)) L R), Q (.inl (some (.int ((0 : Int32)))), h28))
    (p7 : ∀ (c1 : (0 : Int32) ≤ a2 ∧ a2 ≤ (a0 - (1 : Int32))), ∀ (c9 : (0 : Int32) ≤ a1 ∧ a1 ≤ (9 : Int32)), ∀ (v21 : Int32), ∀ (j17 : Nat → Nat → Int32), ∀ (e20 : unsP I j17 v21), ∀ (c22 : ¬ v21 ≤ ((a1 * a0) + a2)), ∀ (c32 : (1 : Int32) ≤ a0 ∧ a0 ≤ (10 : Int32)), ∀ (h33 : sH), ∀ (t34 : qH h33 (upI j17 85 42 (0 : Int32)) L R), ∀ N lv, qLs lv [some (.ref (85)), none, none, none, none, some (.int ((a1 * a0) + a2)), some (.int ((16 : Int32))), none] → qW 273 N 88 lv [] h33 Q)
    (p8 : ∀ (c1 : (0 : Int32) ≤ a2 ∧ a2 ≤ (a0 - (1 : Int32))), ∀ (c9 : (0 : Int32) ≤ a1 ∧ a1 ≤ (9 : Int32)), ∀ (v21 : Int32), ∀ (j17 : Nat → Nat → Int32), ∀ (e20 : unsP I j17 v21), ∀ (c22 : ¬ v21 ≤ ((a1 * a0) + a2)), ∀ (c32 : ¬ ((1 : Int32) ≤ a0 ∧ a0 ≤ (10 : Int32))), ∀ (h39 : sH), ∀ (t40 : qH h39 (upI j17 85 42 (1 : Int32)) L R), Q (.inl (some (.int ((0 : Int32)))), h39)) : Q r := by
  refine qGo_w g (fun N => ?_)
  have hl0 : qLs (lv_args 0 [.ref (85), .int (a0), .int (a1), .int (a2)]) [some (.ref (85)), some (.int (a0)), some (.int (a1)), some (.int (a2)), none, none, none, none] := qLs_ar 4
  refine q_iload_n (show mE (mtv 273) 0 = some (.iload_n 3, 1, 0, 0) from rfl) (hl0 3 _ rfl) ?_
  refine q_iconst (show mE (mtv 273) 1 = some (.iconst 0, 1, 0, 0) from rfl) kI_0 ?_
  refine q_iload_n (show mE (mtv 273) 2 = some (.iload_n 1, 1, 0, 0) from rfl) (hl0 1 _ rfl) ?_
  refine q_iconst (show mE (mtv 273) 3 = some (.iconst 1, 1, 0, 0) from rfl) kI_1 ?_
  refine q_isub (show mE (mtv 273) 4 = some (.isub, 1, 0, 0) from rfl) ?_
  refine q_staticP (show mE (mtv 273) 5 = some (.invokestatic 157, 3, 211, 0) from rfl) (by decide) rfl rfl rfl (fun _ g => sp_211 g) ?_
  refine q_ifb_eq (t := 37) (show mE (mtv 273) 8 = some (.ifCond .eq 29, 3, 0, 0) from rfl) rfl (fun c1 => ?_) (fun c1 => ?_)
  · refine q_iconst (show mE (mtv 273) 37 = some (.iconst 0, 1, 0, 0) from rfl) kI_0 ?_
    refine q_istore (show mE (mtv 273) 38 = some (.istore 4, 2, 0, 0) from rfl) (Nat.le_of_ble_eq_true rfl) hl0 (fun lv2 (hl3 : qLs lv2 [some (.ref (85)), some (.int (a0)), some (.int (a1)), some (.int (a2)), some (.int ((0 : Int32))), none, none, none]) => ?_)
    refine q_aload_n (show mE (mtv 273) 40 = some (.aload_n 0, 1, 0, 0) from rfl) (hl3 0 _ rfl) ?_
    refine q_iload_n (show mE (mtv 273) 41 = some (.iload_n 1, 1, 0, 0) from rfl) (hl3 1 _ rfl) ?_
    refine q_iconst (show mE (mtv 273) 42 = some (.iconst 1, 1, 0, 0) from rfl) kI_1 ?_
    refine q_bipush (show mE (mtv 273) 43 = some (.bipush 10, 2, 0, 0) from rfl) kB_10 ?_
    refine q_staticP (show mE (mtv 273) 45 = some (.invokestatic 157, 3, 211, 0) from rfl) (by decide) rfl rfl rfl (fun _ g => sp_211 g) ?_
    refine q_ifb_ne (t := 55) (show mE (mtv 273) 48 = some (.ifCond .ne 7, 3, 0, 0) from rfl) rfl (fun c4 => ?_) (fun c4 => ?_)
    · refine q_iload (show mE (mtv 273) 55 = some (.iload 4, 2, 0, 0) from rfl) (hl3 4 _ rfl) ?_
      refine q_iff (t := 64) (show mE (mtv 273) 57 = some (.ifCond .ne 7, 3, 0, 0) from rfl) (by decide) rfl ?_
      refine q_iconst (show mE (mtv 273) 60 = some (.iconst 2, 1, 0, 0) from rfl) kI_2 ?_
      refine q_goto (t := 65) (show mE (mtv 273) 61 = some (.goto 4, 3, 0, 0) from rfl) rfl ?_
      refine q_putI th (show mE (mtv 273) 65 = some (.putfield 138, 3, 9, 42) from rfl) (by decide) rfl (fun h5 t6 => ?_)
      refine q_aload_n (show mE (mtv 273) 68 = some (.aload_n 0, 1, 0, 0) from rfl) (hl3 0 _ rfl) ?_
      refine q_getIe t6 (show mE (mtv 273) 69 = some (.getfield 138, 3, 9, 42) from rfl) (by decide) rfl (upI_s) ?_
      refine q_iff (t := 77) (show mE (mtv 273) 72 = some (.ifCond .le 5, 3, 0, 0) from rfl) (by decide) rfl ?_
      refine q_iconst (show mE (mtv 273) 75 = some (.iconst 0, 1, 0, 0) from rfl) kI_0 ?_
      refine q_ireturn (show mE (mtv 273) 76 = some (.ireturn, 1, 0, 0) from rfl) ?_
      exact p1 c1 c4 h5 t6
    · refine q_iconst (show mE (mtv 273) 51 = some (.iconst 1, 1, 0, 0) from rfl) kI_1 ?_
      refine q_goto (t := 65) (show mE (mtv 273) 52 = some (.goto 13, 3, 0, 0) from rfl) rfl ?_
      refine q_putI th (show mE (mtv 273) 65 = some (.putfield 138, 3, 9, 42) from rfl) (by decide) rfl (fun h7 t8 => ?_)
      refine q_aload_n (show mE (mtv 273) 68 = some (.aload_n 0, 1, 0, 0) from rfl) (hl3 0 _ rfl) ?_
      refine q_getIe t8 (show mE (mtv 273) 69 = some (.getfield 138, 3, 9, 42) from rfl) (by decide) rfl (upI_s) ?_
      refine q_iff (t := 77) (show mE (mtv 273) 72 = some (.ifCond .le 5, 3, 0, 0) from rfl) (by decide) rfl ?_
      refine q_iconst (show mE (mtv 273) 75 = some (.iconst 0, 1, 0, 0) from rfl) kI_0 ?_
      refine q_ireturn (show mE (mtv 273) 76 = some (.ireturn, 1, 0, 0) from rfl) ?_
      exact p2 c1 c4 h7 t8
  · refine q_iload_n (show mE (mtv 273) 11 = some (.iload_n 2, 1, 0, 0) from rfl) (hl0 2 _ rfl) ?_
    refine q_iconst (show mE (mtv 273) 12 = some (.iconst 0, 1, 0, 0) from rfl) kI_0 ?_
    refine q_bipush (show mE (mtv 273) 13 = some (.bipush 9, 2, 0, 0) from rfl) kB_9 ?_
    refine q_staticP (show mE (mtv 273) 15 = some (.invokestatic 157, 3, 211, 0) from rfl) (by decide) rfl rfl rfl (fun _ g => sp_211 g) ?_
    refine q_ifb_eq (t := 37) (show mE (mtv 273) 18 = some (.ifCond .eq 19, 3, 0, 0) from rfl) rfl (fun c9 => ?_) (fun c9 => ?_)
    · refine q_iconst (show mE (mtv 273) 37 = some (.iconst 0, 1, 0, 0) from rfl) kI_0 ?_
      refine q_istore (show mE (mtv 273) 38 = some (.istore 4, 2, 0, 0) from rfl) (Nat.le_of_ble_eq_true rfl) hl0 (fun lv10 (hl11 : qLs lv10 [some (.ref (85)), some (.int (a0)), some (.int (a1)), some (.int (a2)), some (.int ((0 : Int32))), none, none, none]) => ?_)
      refine q_aload_n (show mE (mtv 273) 40 = some (.aload_n 0, 1, 0, 0) from rfl) (hl11 0 _ rfl) ?_
      refine q_iload_n (show mE (mtv 273) 41 = some (.iload_n 1, 1, 0, 0) from rfl) (hl11 1 _ rfl) ?_
      refine q_iconst (show mE (mtv 273) 42 = some (.iconst 1, 1, 0, 0) from rfl) kI_1 ?_
      refine q_bipush (show mE (mtv 273) 43 = some (.bipush 10, 2, 0, 0) from rfl) kB_10 ?_
      refine q_staticP (show mE (mtv 273) 45 = some (.invokestatic 157, 3, 211, 0) from rfl) (by decide) rfl rfl rfl (fun _ g => sp_211 g) ?_
      refine q_ifb_ne (t := 55) (show mE (mtv 273) 48 = some (.ifCond .ne 7, 3, 0, 0) from rfl) rfl (fun c12 => ?_) (fun c12 => ?_)
      · refine q_iload (show mE (mtv 273) 55 = some (.iload 4, 2, 0, 0) from rfl) (hl11 4 _ rfl) ?_
        refine q_iff (t := 64) (show mE (mtv 273) 57 = some (.ifCond .ne 7, 3, 0, 0) from rfl) (by decide) rfl ?_
        refine q_iconst (show mE (mtv 273) 60 = some (.iconst 2, 1, 0, 0) from rfl) kI_2 ?_
        refine q_goto (t := 65) (show mE (mtv 273) 61 = some (.goto 4, 3, 0, 0) from rfl) rfl ?_
        refine q_putI th (show mE (mtv 273) 65 = some (.putfield 138, 3, 9, 42) from rfl) (by decide) rfl (fun h13 t14 => ?_)
        refine q_aload_n (show mE (mtv 273) 68 = some (.aload_n 0, 1, 0, 0) from rfl) (hl11 0 _ rfl) ?_
        refine q_getIe t14 (show mE (mtv 273) 69 = some (.getfield 138, 3, 9, 42) from rfl) (by decide) rfl (upI_s) ?_
        refine q_iff (t := 77) (show mE (mtv 273) 72 = some (.ifCond .le 5, 3, 0, 0) from rfl) (by decide) rfl ?_
        refine q_iconst (show mE (mtv 273) 75 = some (.iconst 0, 1, 0, 0) from rfl) kI_0 ?_
        refine q_ireturn (show mE (mtv 273) 76 = some (.ireturn, 1, 0, 0) from rfl) ?_
        exact p3 c1 c9 c12 h13 t14
      · refine q_iconst (show mE (mtv 273) 51 = some (.iconst 1, 1, 0, 0) from rfl) kI_1 ?_
        refine q_goto (t := 65) (show mE (mtv 273) 52 = some (.goto 13, 3, 0, 0) from rfl) rfl ?_
        refine q_putI th (show mE (mtv 273) 65 = some (.putfield 138, 3, 9, 42) from rfl) (by decide) rfl (fun h15 t16 => ?_)
        refine q_aload_n (show mE (mtv 273) 68 = some (.aload_n 0, 1, 0, 0) from rfl) (hl11 0 _ rfl) ?_
        refine q_getIe t16 (show mE (mtv 273) 69 = some (.getfield 138, 3, 9, 42) from rfl) (by decide) rfl (upI_s) ?_
        refine q_iff (t := 77) (show mE (mtv 273) 72 = some (.ifCond .le 5, 3, 0, 0) from rfl) (by decide) rfl ?_
        refine q_iconst (show mE (mtv 273) 75 = some (.iconst 0, 1, 0, 0) from rfl) kI_0 ?_
        refine q_ireturn (show mE (mtv 273) 76 = some (.ireturn, 1, 0, 0) from rfl) ?_
        exact p4 c1 c9 c12 h15 t16
    · refine q_iload_n (show mE (mtv 273) 21 = some (.iload_n 2, 1, 0, 0) from rfl) (hl0 2 _ rfl) ?_
      refine q_iload_n (show mE (mtv 273) 22 = some (.iload_n 1, 1, 0, 0) from rfl) (hl0 1 _ rfl) ?_
      refine q_imul (show mE (mtv 273) 23 = some (.imul, 1, 0, 0) from rfl) ?_
      refine q_iload_n (show mE (mtv 273) 24 = some (.iload_n 3, 1, 0, 0) from rfl) (hl0 3 _ rfl) ?_
      refine q_iadd (show mE (mtv 273) 25 = some (.iadd, 1, 0, 0) from rfl) ?_
      refine q_aload_n (show mE (mtv 273) 26 = some (.aload_n 0, 1, 0, 0) from rfl) (hl0 0 _ rfl) ?_
      refine q_virtualE (show mE (mtv 273) 27 = some (.invokevirtual 233, 3, 247, 9) from rfl) (by decide) rfl rfl rfl (fun _ g => sp_247 th g) ?_
      rintro _ ⟨v21, j17, h18, rfl, t19, e20⟩
      refine qK_v ?_
      refine q_ic_ge (t := 37) (show mE (mtv 273) 30 = some (.if_icmp .ge 7, 3, 0, 0) from rfl) rfl (fun c22 => ?_) (fun c22 => ?_)
      · refine q_iconst (show mE (mtv 273) 37 = some (.iconst 0, 1, 0, 0) from rfl) kI_0 ?_
        refine q_istore (show mE (mtv 273) 38 = some (.istore 4, 2, 0, 0) from rfl) (Nat.le_of_ble_eq_true rfl) hl0 (fun lv23 (hl24 : qLs lv23 [some (.ref (85)), some (.int (a0)), some (.int (a1)), some (.int (a2)), some (.int ((0 : Int32))), none, none, none]) => ?_)
        refine q_aload_n (show mE (mtv 273) 40 = some (.aload_n 0, 1, 0, 0) from rfl) (hl24 0 _ rfl) ?_
        refine q_iload_n (show mE (mtv 273) 41 = some (.iload_n 1, 1, 0, 0) from rfl) (hl24 1 _ rfl) ?_
        refine q_iconst (show mE (mtv 273) 42 = some (.iconst 1, 1, 0, 0) from rfl) kI_1 ?_
        refine q_bipush (show mE (mtv 273) 43 = some (.bipush 10, 2, 0, 0) from rfl) kB_10 ?_
        refine q_staticP (show mE (mtv 273) 45 = some (.invokestatic 157, 3, 211, 0) from rfl) (by decide) rfl rfl rfl (fun _ g => sp_211 g) ?_
        refine q_ifb_ne (t := 55) (show mE (mtv 273) 48 = some (.ifCond .ne 7, 3, 0, 0) from rfl) rfl (fun c25 => ?_) (fun c25 => ?_)
        · refine q_iload (show mE (mtv 273) 55 = some (.iload 4, 2, 0, 0) from rfl) (hl24 4 _ rfl) ?_
          refine q_iff (t := 64) (show mE (mtv 273) 57 = some (.ifCond .ne 7, 3, 0, 0) from rfl) (by decide) rfl ?_
          refine q_iconst (show mE (mtv 273) 60 = some (.iconst 2, 1, 0, 0) from rfl) kI_2 ?_
          refine q_goto (t := 65) (show mE (mtv 273) 61 = some (.goto 4, 3, 0, 0) from rfl) rfl ?_
          refine q_putI t19 (show mE (mtv 273) 65 = some (.putfield 138, 3, 9, 42) from rfl) (by decide) rfl (fun h26 t27 => ?_)
          refine q_aload_n (show mE (mtv 273) 68 = some (.aload_n 0, 1, 0, 0) from rfl) (hl24 0 _ rfl) ?_
          refine q_getIe t27 (show mE (mtv 273) 69 = some (.getfield 138, 3, 9, 42) from rfl) (by decide) rfl (upI_s) ?_
          refine q_iff (t := 77) (show mE (mtv 273) 72 = some (.ifCond .le 5, 3, 0, 0) from rfl) (by decide) rfl ?_
          refine q_iconst (show mE (mtv 273) 75 = some (.iconst 0, 1, 0, 0) from rfl) kI_0 ?_
          refine q_ireturn (show mE (mtv 273) 76 = some (.ireturn, 1, 0, 0) from rfl) ?_
          exact p5 c1 c9 v21 j17 e20 c22 c25 h26 t27
        · refine q_iconst (show mE (mtv 273) 51 = some (.iconst 1, 1, 0, 0) from rfl) kI_1 ?_
          refine q_goto (t := 65) (show mE (mtv 273) 52 = some (.goto 13, 3, 0, 0) from rfl) rfl ?_
          refine q_putI t19 (show mE (mtv 273) 65 = some (.putfield 138, 3, 9, 42) from rfl) (by decide) rfl (fun h28 t29 => ?_)
          refine q_aload_n (show mE (mtv 273) 68 = some (.aload_n 0, 1, 0, 0) from rfl) (hl24 0 _ rfl) ?_
          refine q_getIe t29 (show mE (mtv 273) 69 = some (.getfield 138, 3, 9, 42) from rfl) (by decide) rfl (upI_s) ?_
          refine q_iff (t := 77) (show mE (mtv 273) 72 = some (.ifCond .le 5, 3, 0, 0) from rfl) (by decide) rfl ?_
          refine q_iconst (show mE (mtv 273) 75 = some (.iconst 0, 1, 0, 0) from rfl) kI_0 ?_
          refine q_ireturn (show mE (mtv 273) 76 = some (.ireturn, 1, 0, 0) from rfl) ?_
          exact p6 c1 c9 v21 j17 e20 c22 c25 h28 t29
      · refine q_iconst (show mE (mtv 273) 33 = some (.iconst 1, 1, 0, 0) from rfl) kI_1 ?_
        refine q_goto (t := 38) (show mE (mtv 273) 34 = some (.goto 4, 3, 0, 0) from rfl) rfl ?_
        refine q_istore (show mE (mtv 273) 38 = some (.istore 4, 2, 0, 0) from rfl) (Nat.le_of_ble_eq_true rfl) hl0 (fun lv30 (hl31 : qLs lv30 [some (.ref (85)), some (.int (a0)), some (.int (a1)), some (.int (a2)), some (.int ((1 : Int32))), none, none, none]) => ?_)
        refine q_aload_n (show mE (mtv 273) 40 = some (.aload_n 0, 1, 0, 0) from rfl) (hl31 0 _ rfl) ?_
        refine q_iload_n (show mE (mtv 273) 41 = some (.iload_n 1, 1, 0, 0) from rfl) (hl31 1 _ rfl) ?_
        refine q_iconst (show mE (mtv 273) 42 = some (.iconst 1, 1, 0, 0) from rfl) kI_1 ?_
        refine q_bipush (show mE (mtv 273) 43 = some (.bipush 10, 2, 0, 0) from rfl) kB_10 ?_
        refine q_staticP (show mE (mtv 273) 45 = some (.invokestatic 157, 3, 211, 0) from rfl) (by decide) rfl rfl rfl (fun _ g => sp_211 g) ?_
        refine q_ifb_ne (t := 55) (show mE (mtv 273) 48 = some (.ifCond .ne 7, 3, 0, 0) from rfl) rfl (fun c32 => ?_) (fun c32 => ?_)
        · refine q_iload (show mE (mtv 273) 55 = some (.iload 4, 2, 0, 0) from rfl) (hl31 4 _ rfl) ?_
          refine q_ift (t := 64) (show mE (mtv 273) 57 = some (.ifCond .ne 7, 3, 0, 0) from rfl) (by decide) rfl ?_
          refine q_iconst (show mE (mtv 273) 64 = some (.iconst 0, 1, 0, 0) from rfl) kI_0 ?_
          refine q_putI t19 (show mE (mtv 273) 65 = some (.putfield 138, 3, 9, 42) from rfl) (by decide) rfl (fun h33 t34 => ?_)
          refine q_aload_n (show mE (mtv 273) 68 = some (.aload_n 0, 1, 0, 0) from rfl) (hl31 0 _ rfl) ?_
          refine q_getIe t34 (show mE (mtv 273) 69 = some (.getfield 138, 3, 9, 42) from rfl) (by decide) rfl (upI_s) ?_
          refine q_ift (t := 77) (show mE (mtv 273) 72 = some (.ifCond .le 5, 3, 0, 0) from rfl) (by decide) rfl ?_
          refine q_iload_n (show mE (mtv 273) 77 = some (.iload_n 2, 1, 0, 0) from rfl) (hl31 2 _ rfl) ?_
          refine q_iload_n (show mE (mtv 273) 78 = some (.iload_n 1, 1, 0, 0) from rfl) (hl31 1 _ rfl) ?_
          refine q_imul (show mE (mtv 273) 79 = some (.imul, 1, 0, 0) from rfl) ?_
          refine q_iload_n (show mE (mtv 273) 80 = some (.iload_n 3, 1, 0, 0) from rfl) (hl31 3 _ rfl) ?_
          refine q_iadd (show mE (mtv 273) 81 = some (.iadd, 1, 0, 0) from rfl) ?_
          refine q_istore (show mE (mtv 273) 82 = some (.istore 5, 2, 0, 0) from rfl) (Nat.le_of_ble_eq_true rfl) hl31 (fun lv35 (hl36 : qLs lv35 [some (.ref (85)), some (.int (a0)), some (.int (a1)), some (.int (a2)), some (.int ((1 : Int32))), some (.int ((a1 * a0) + a2)), none, none]) => ?_)
          refine q_bipush (show mE (mtv 273) 84 = some (.bipush 16, 2, 0, 0) from rfl) kB_16 ?_
          refine q_istore (show mE (mtv 273) 86 = some (.istore 6, 2, 0, 0) from rfl) (Nat.le_of_ble_eq_true rfl) hl36 (fun lv37 (hl38 : qLs lv37 [some (.ref (85)), some (.int (a0)), some (.int (a1)), some (.int (a2)), some (.int ((1 : Int32))), some (.int ((a1 * a0) + a2)), some (.int ((16 : Int32))), none]) => ?_)
          exact p7 c1 c9 v21 j17 e20 c22 c32 h33 t34 _ lv37 (qLs_wk hl38 (⟨rfl, rfl, rfl, trivial⟩))
        · refine q_iconst (show mE (mtv 273) 51 = some (.iconst 1, 1, 0, 0) from rfl) kI_1 ?_
          refine q_goto (t := 65) (show mE (mtv 273) 52 = some (.goto 13, 3, 0, 0) from rfl) rfl ?_
          refine q_putI t19 (show mE (mtv 273) 65 = some (.putfield 138, 3, 9, 42) from rfl) (by decide) rfl (fun h39 t40 => ?_)
          refine q_aload_n (show mE (mtv 273) 68 = some (.aload_n 0, 1, 0, 0) from rfl) (hl31 0 _ rfl) ?_
          refine q_getIe t40 (show mE (mtv 273) 69 = some (.getfield 138, 3, 9, 42) from rfl) (by decide) rfl (upI_s) ?_
          refine q_iff (t := 77) (show mE (mtv 273) 72 = some (.ifCond .le 5, 3, 0, 0) from rfl) (by decide) rfl ?_
          refine q_iconst (show mE (mtv 273) 75 = some (.iconst 0, 1, 0, 0) from rfl) kI_0 ?_
          refine q_ireturn (show mE (mtv 273) 76 = some (.ireturn, 1, 0, 0) from rfl) ?_
          exact p8 c1 c9 v21 j17 e20 c22 c32 h39 t40
theorem qg_273_88 {N : Nat} {lv : sL} {h : sH} {Q : sR → Prop} {x5 : Int32} {x6 : Int32} (hl : qLs lv [some (.ref (85)), none, none, none, none, some (.int (x5)), some (.int (x6)), none])
    (p1 : ∀ (c1 : x6 ≤ 0), Q (.inl (some (.int ((0 : Int32)))), h))
    (p2 : ∀ (c1 : ¬ x6 ≤ 0), ∀ lv, qLs lv [some (.ref (85)), none, none, none, none, some (.int (x5)), some (.int (x6)), some (.int ((0 : Int32)))] → qW 273 N 96 lv [] h Q) : qW 273 (N + 1) 88 lv [] h Q := by
  refine q1_iload (show mE (mtv 273) 88 = some (.iload 6, 2, 0, 0) from rfl) (hl 6 _ rfl) ?_
  refine q_if_le (t := 142) (show mE (mtv 273) 90 = some (.ifCond .le 52, 3, 0, 0) from rfl) rfl (fun c1 => ?_) (fun c1 => ?_)
  · refine q_iconst (show mE (mtv 273) 142 = some (.iconst 0, 1, 0, 0) from rfl) kI_0 ?_
    refine q_ireturn (show mE (mtv 273) 143 = some (.ireturn, 1, 0, 0) from rfl) ?_
    exact p1 c1
  · refine q_iconst (show mE (mtv 273) 93 = some (.iconst 0, 1, 0, 0) from rfl) kI_0 ?_
    refine q_istore (show mE (mtv 273) 94 = some (.istore 7, 2, 0, 0) from rfl) (Nat.le_of_ble_eq_true rfl) hl (fun lv2 (hl3 : qLs lv2 [some (.ref (85)), none, none, none, none, some (.int (x5)), some (.int (x6)), some (.int ((0 : Int32)))]) => ?_)
    exact p2 c1 lv2 (qLs_wk hl3 (⟨rfl, rfl, rfl, rfl, trivial⟩))
theorem qg_273_96 {N : Nat} {lv : sL} {h : sH} {Q : sR → Prop} {x5 : Int32} {x6 : Int32} {x7 : Int32} {I : Nat → Nat → Int32} {L : Nat → Nat → Int64} {R : Nat → Nat} (th : qH h I L R) (hl : qLs lv [some (.ref (85)), none, none, none, none, some (.int (x5)), some (.int (x6)), some (.int (x7))])
    (p1 : ∀ (c1 : (I 85 36) ≤ x7), ∀ lv, qLs lv [some (.ref (85)), none, none, none, none, some (.int (x5)), some (.int (x6 + (-1 : Int32))), none] → qW 273 N 88 lv [] h Q)
    (p2 : ∀ (c1 : ¬ (I 85 36) ≤ x7), ∀ (v8 : Int32), ∀ (j4 : Nat → Nat → Int32), ∀ (h5 : sH), ∀ (t6 : qH h5 j4 L R), ∀ (e7 : lostP I x7 j4 v8), ∀ (c9 : v8 = x6), ∀ (c10 : ¬ x5 = 0), ∀ lv, qLs lv [some (.ref (85)), none, none, none, none, some (.int (x5 + (-1 : Int32))), some (.int (x6)), some (.int (x7 + (1 : Int32)))] → qW 273 N 96 lv [] h5 Q)
    (p3 : ∀ (c1 : ¬ (I 85 36) ≤ x7), ∀ (v8 : Int32), ∀ (j4 : Nat → Nat → Int32), ∀ (h5 : sH), ∀ (t6 : qH h5 j4 L R), ∀ (e7 : lostP I x7 j4 v8), ∀ (c9 : v8 = x6), ∀ (c10 : x5 = 0), Q (.inl (some (.int (x7))), h5))
    (p4 : ∀ (c1 : ¬ (I 85 36) ≤ x7), ∀ (v8 : Int32), ∀ (j4 : Nat → Nat → Int32), ∀ (h5 : sH), ∀ (t6 : qH h5 j4 L R), ∀ (e7 : lostP I x7 j4 v8), ∀ (c9 : ¬ v8 = x6), ∀ lv, qLs lv [some (.ref (85)), none, none, none, none, some (.int (x5)), some (.int (x6)), some (.int (x7 + (1 : Int32)))] → qW 273 N 96 lv [] h5 Q) : qW 273 (N + 1) 96 lv [] h Q := by
  refine q1_iload (show mE (mtv 273) 96 = some (.iload 7, 2, 0, 0) from rfl) (hl 7 _ rfl) ?_
  refine q_aload_n (show mE (mtv 273) 98 = some (.aload_n 0, 1, 0, 0) from rfl) (hl 0 _ rfl) ?_
  refine q_getI th (show mE (mtv 273) 99 = some (.getfield 120, 3, 9, 36) from rfl) (by decide) rfl ?_
  refine q_ic_ge (t := 136) (show mE (mtv 273) 102 = some (.if_icmp .ge 34, 3, 0, 0) from rfl) rfl (fun c1 => ?_) (fun c1 => ?_)
  · refine q_iinc (show mE (mtv 273) 136 = some (.iinc 6 (-1), 3, 0, 0) from rfl) (Nat.le_of_ble_eq_true rfl) hl (hl 6 _ rfl) kI_m1 (fun lv2 (hl3 : qLs lv2 [some (.ref (85)), none, none, none, none, some (.int (x5)), some (.int (x6 + (-1 : Int32))), some (.int (x7))]) => ?_)
    refine q_goto (t := 88) (show mE (mtv 273) 139 = some (.goto (-51), 3, 0, 0) from rfl) rfl ?_
    exact p1 c1 lv2 (qLs_wk hl3 (⟨rfl, rfl, rfl, trivial⟩))
  · refine q_aload_n (show mE (mtv 273) 105 = some (.aload_n 0, 1, 0, 0) from rfl) (hl 0 _ rfl) ?_
    refine q_iload (show mE (mtv 273) 106 = some (.iload 7, 2, 0, 0) from rfl) (hl 7 _ rfl) ?_
    refine q_virtualE (show mE (mtv 273) 108 = some (.invokevirtual 230, 3, 248, 9) from rfl) (by decide) rfl rfl rfl (fun _ g => sp_248 th g) ?_
    rintro _ ⟨v8, j4, h5, rfl, t6, e7⟩
    refine qK_v ?_
    refine q_iload (show mE (mtv 273) 111 = some (.iload 6, 2, 0, 0) from rfl) (hl 6 _ rfl) ?_
    refine q_ic_eq (t := 119) (show mE (mtv 273) 113 = some (.if_icmp .eq 6, 3, 0, 0) from rfl) rfl (fun c9 => ?_) (fun c9 => ?_)
    · refine q_iload (show mE (mtv 273) 119 = some (.iload 5, 2, 0, 0) from rfl) (hl 5 _ rfl) ?_
      refine q_if_ne (t := 127) (show mE (mtv 273) 121 = some (.ifCond .ne 6, 3, 0, 0) from rfl) rfl (fun c10 => ?_) (fun c10 => ?_)
      · refine q_iinc (show mE (mtv 273) 127 = some (.iinc 5 (-1), 3, 0, 0) from rfl) (Nat.le_of_ble_eq_true rfl) hl (hl 5 _ rfl) kI_m1 (fun lv11 (hl12 : qLs lv11 [some (.ref (85)), none, none, none, none, some (.int (x5 + (-1 : Int32))), some (.int (x6)), some (.int (x7))]) => ?_)
        refine q_iinc (show mE (mtv 273) 130 = some (.iinc 7 1, 3, 0, 0) from rfl) (Nat.le_of_ble_eq_true rfl) hl12 (hl12 7 _ rfl) kI_1 (fun lv13 (hl14 : qLs lv13 [some (.ref (85)), none, none, none, none, some (.int (x5 + (-1 : Int32))), some (.int (x6)), some (.int (x7 + (1 : Int32)))]) => ?_)
        refine q_goto (t := 96) (show mE (mtv 273) 133 = some (.goto (-37), 3, 0, 0) from rfl) rfl ?_
        exact p2 c1 v8 j4 h5 t6 e7 c9 c10 lv13 (qLs_wk hl14 (⟨rfl, rfl, rfl, rfl, trivial⟩))
      · refine q_iload (show mE (mtv 273) 124 = some (.iload 7, 2, 0, 0) from rfl) (hl 7 _ rfl) ?_
        refine q_ireturn (show mE (mtv 273) 126 = some (.ireturn, 1, 0, 0) from rfl) ?_
        exact p3 c1 v8 j4 h5 t6 e7 c9 c10
    · refine q_goto (t := 130) (show mE (mtv 273) 116 = some (.goto 14, 3, 0, 0) from rfl) rfl ?_
      refine q_iinc (show mE (mtv 273) 130 = some (.iinc 7 1, 3, 0, 0) from rfl) (Nat.le_of_ble_eq_true rfl) hl (hl 7 _ rfl) kI_1 (fun lv15 (hl16 : qLs lv15 [some (.ref (85)), none, none, none, none, some (.int (x5)), some (.int (x6)), some (.int (x7 + (1 : Int32)))]) => ?_)
      refine q_goto (t := 96) (show mE (mtv 273) 133 = some (.goto (-37), 3, 0, 0) from rfl) rfl ?_
      exact p4 c1 v8 j4 h5 t6 e7 c9 lv15 (qLs_wk hl16 (⟨rfl, rfl, rfl, rfl, trivial⟩))
theorem lk_273 {I : Nat → Nat → Int32} {L : Nat → Nat → Int64} {R : Nat → Nat} (hm : MI I) {r0 : Nat} (hr : r0 < unsN (loN I) (ndI I)) : ∀ N,
    (∀ J t lv h, qH h J L R → agr 106 J I → t ≤ 16 → vis (loN I) (ndI I) t 0 ≤ r0 → qLs lv [some (.ref (85)), none, none, none, none, some (.int (Int32.ofNat (r0 - vis (loN I) (ndI I) t 0))), some (.int (Int32.ofNat t)), none] → qW 273 N 88 lv [] h (fun r => ∃ d J h1, r = (.inl (some (.int (Int32.ofNat d))), h1) ∧ qH h1 J L R ∧ agr 106 J I ∧ d < ndI I ∧ 0 < loN I d ∧ rkN (loN I) (ndI I) d = r0)) ∧
    (∀ J t j lv h, qH h J L R → agr 106 J I → 0 < t → t ≤ 16 → j ≤ ndI I → vis (loN I) (ndI I) t j ≤ r0 → qLs lv [some (.ref (85)), none, none, none, none, some (.int (Int32.ofNat (r0 - vis (loN I) (ndI I) t j))), some (.int (Int32.ofNat t)), some (.int (Int32.ofNat j))] → qW 273 N 96 lv [] h (fun r => ∃ d J h1, r = (.inl (some (.int (Int32.ofNat d))), h1) ∧ qH h1 J L R ∧ agr 106 J I ∧ d < ndI I ∧ 0 < loN I d ∧ rkN (loN I) (ndI I) d = r0))
  | 0 => ⟨fun _ _ _ _ _ _ _ _ _ => qW_0, fun _ _ _ _ _ _ _ _ _ _ _ _ => qW_0⟩
  | N + 1 => by
    obtain ⟨ih8, ih9⟩ := lk_273 hm hr N
    have hdb := hm.db
    have u10 := (uns_N hm).2
    refine ⟨fun J t lv h th ha ht hv hl => ?_, fun J t j lv h th ha ht0 ht hj hv hl => ?_⟩
    · refine qg_273_88 hl (fun c1 => ?_) (fun c1 lv' hl' => ?_)
      · exfalso
        have := (oN_le (a := t) (b := 0) (by omega) (by omega)).mp c1
        rw [show t = 0 by omega, vis_0] at hv
        omega
      · have := mt (oN_le (a := t) (b := 0) (by omega) (by omega)).mpr c1
        exact ih9 J t 0 lv' h th ha (by omega) ht (Nat.zero_le _) hv hl'
    · have vs := vis_s (l := loN I) (t := t) (j := j) (ndI I)
      have step : ∀ v8 j4, lostP J (Int32.ofNat j) j4 v8 → j < ndI I → agr 106 j4 I ∧ v8 = Int32.ofNat (loN I j) := fun v8 j4 e hjl => by
        obtain ⟨q1, q2⟩ := e (MI_S (agS_r ha) hm) j (by omega) rfl
        refine ⟨fun a b hn => (q1 a b hn).trans (ha a b hn), ?_⟩
        rw [q2, lostM_S (agS_r ha)]
        exact (lost_N hm j).1
      have lj := (lost_N hm j).2
      have gl : ¬ J 85 36 ≤ Int32.ofNat j → j < ndI I := fun g => by
        rw [ha 85 36 (by decide), hm.d] at g
        have := mt (oN_le (by omega) (by omega)).mpr g
        omega
      refine qg_273_96 th hl (fun c1 lv' hl' => ?_) (fun c1 v8 j4 h5 t6 e7 c9 c10 lv' hl' => ?_) (fun c1 v8 j4 h5 t6 e7 c9 c10 => ?_) (fun c1 v8 j4 h5 t6 e7 c9 lv' hl' => ?_)
      · rw [ha 85 36 (by decide), hm.d] at c1
        have := (oN_le (by omega) (by omega)).mp c1
        have ej : j = ndI I := by omega
        subst ej
        obtain ⟨t', rfl⟩ : ∃ t', t = t' + 1 := ⟨t - 1, by omega⟩
        rw [vis_n] at hv hl'
        have e1 : Int32.ofNat (t' + 1) + (-1 : Int32) = Int32.ofNat t' := by rw [← oN_s, ← Int32.sub_eq_add_neg, i32_p1m1]
        rw [e1] at hl'
        exact ih8 J t' lv' h th ha (by omega) hv hl'
      · have hjl := gl c1
        obtain ⟨q1, q2⟩ := step v8 j4 e7 hjl
        have lt : loN I j = t := (oN_inj (by omega) (by omega)).mp (q2.symm.trans c9)
        rw [if_pos ⟨hjl, lt⟩] at vs
        have vs : vis (loN I) (ndI I) t (j + 1) = vis (loN I) (ndI I) t j + 1 := vs
        have nz : r0 - vis (loN I) (ndI I) t j ≠ 0 := fun z => c10 (by rw [z]; rfl)
        obtain ⟨y, hy⟩ : ∃ y, r0 - vis (loN I) (ndI I) t j = y + 1 := ⟨r0 - vis (loN I) (ndI I) t j - 1, by omega⟩
        have e1 : Int32.ofNat (r0 - vis (loN I) (ndI I) t j) + (-1 : Int32) = Int32.ofNat (r0 - vis (loN I) (ndI I) t (j + 1)) := by
          rw [vs, show r0 - (vis (loN I) (ndI I) t j + 1) = y by omega, hy, ← oN_s, ← Int32.sub_eq_add_neg, i32_p1m1]
        rw [e1, oN_s] at hl'
        exact ih9 j4 t (j + 1) lv' h5 t6 q1 ht0 ht (by omega) (by omega) hl'
      · have hjl := gl c1
        obtain ⟨q1, q2⟩ := step v8 j4 e7 hjl
        have lt : loN I j = t := (oN_inj (by omega) (by omega)).mp (q2.symm.trans c9)
        have z := (oN_inj (b := 0) (by omega) (by omega)).mp c10
        refine ⟨j, j4, h5, rfl, t6, q1, hjl, by omega, ?_⟩
        rw [← vis_rk, lt]; omega
      · have hjl := gl c1
        obtain ⟨q1, q2⟩ := step v8 j4 e7 hjl
        have lt : ¬ loN I j = t := fun z => c9 (by rw [q2, z])
        rw [if_neg (fun z => lt z.2)] at vs
        have vs : vis (loN I) (ndI I) t (j + 1) = vis (loN I) (ndI I) t j := vs
        rw [← vs, oN_s] at hl'
        exact ih9 j4 t (j + 1) lv' h5 t6 q1 ht0 ht (by omega) (by omega) hl'
theorem div_k : ∀ U, U < 11 → ∀ p, p < 11 → 0 < p → (Int32.ofNat U + Int32.ofNat p - (1 : Int32)) / Int32.ofNat p = Int32.ofNat ((U + p - 1) / p) := by decide +kernel
theorem rng_iff {q D : Nat} (hq : q < 2147483648) (hD : D < 2147483648) : ((0 : Int32) ≤ Int32.ofNat q ∧ Int32.ofNat q ≤ Int32.ofNat D - (1 : Int32)) ↔ q < D := by
  constructor
  · rintro ⟨h1, h2⟩
    cases D with
    | zero =>
      exfalso
      rw [Int32.le_iff_toInt_le, ofN_toInt hq, show (Int32.ofNat 0 - (1 : Int32)).toInt = -1 by decide] at h2
      omega
    | succ D =>
      rw [← oN_s, i32_p1m1] at h2
      have := (oN_le hq (by omega)).mp h2
      omega
  · exact fun h => in_rng h hD
theorem loN_S {J I : Nat → Nat → Int32} (h : agS J I) (d : Nat) : loN J d = loN I d := by
  unfold loN
  rw [nkI_S h]
  refine nS_ext (fun i _ => ?_)
  rw [opnM_S h, h 92 i (by unfold scr; omega)]
theorem loN_f {J I : Nat → Nat → Int32} (h : agS J I) : loN J = loN I := funext (fun d => loN_S h d)
/-- what is asked of the plan, in numbers -/
theorem plan_N {a1 a2 a3 : Int32} (h1 : (1 : Int32) ≤ a1 ∧ a1 ≤ (10 : Int32)) (h2 : (0 : Int32) ≤ a2 ∧ a2 ≤ (9 : Int32)) (h3 : (0 : Int32) ≤ a3 ∧ a3 ≤ (a1 - (1 : Int32))) : ∃ p q s, 1 ≤ p ∧ p ≤ 10 ∧ q ≤ 9 ∧ s < p ∧ a1 = Int32.ofNat p ∧ a2 = Int32.ofNat q ∧ a3 = Int32.ofNat s ∧ (a2 * a1) + a3 = Int32.ofNat (q * p + s) ∧ q * p + s < 1000 := by
  obtain ⟨p, p1, p2, rfl⟩ := rg_b (a := 1) (b := 10) rfl rfl (by omega) (by omega) h1
  obtain ⟨q, _, q2, rfl⟩ := rg_b (a := 0) (b := 9) rfl rfl (by omega) (by omega) h2
  have e3 := i32_clamp (d := a3) (by have := h3.1; rw [Int32.le_iff_toInt_le] at this; exact this)
  have h3' := h3
  rw [e3, rng_iff (nn_lt a3) (by omega)] at h3'
  have b : q * p ≤ 9 * 10 := Nat.mul_le_mul q2 p2
  exact ⟨p, q, a3.toNatClampNeg, p1, p2, q2, h3', rfl, rfl, e3, by rw [e3, ofN_clamp (nn_lt a3), oN_mul, oN_add], by omega⟩
theorem uns_R {I J : Nat → Nat → Int32} {L : Nat → Nat → Int64} {R : Nat → Nat} (h : RK I L R) {v : Int32} (e : unsP I J v) : v = Int32.ofNat (unsN (loN I) (ndI I)) ∧ agr 106 J I ∧ RK J L R := by
  obtain ⟨g1, g2⟩ := e h.mi
  exact ⟨g2.trans (uns_N h.mi).1, g1, RK_s h (agS_r g1) (fun _ _ => rfl) rfl (fun _ => rfl)⟩
theorem uns_12 {I : Nat → Nat → Int32} {L : Nat → Nat → Int64} {R : Nat → Nat} (h : RK I L R) : G_12 I L R 0 ((0 : Int32)) (I 0 10).toNatClampNeg = Int32.ofNat (unsN (loN I) (ndI I)) := by
  have := uns_C h (ndI I) 0 (by have := h.mi.db; omega)
  rw [Nat.zero_add] at this
  rw [h.n10, ← (uns_N h.mi).1]
  exact this
theorem days_N {I : Nat → Nat → Int32} {L : Nat → Nat → Int64} {R : Nat → Nat} (h : RK I L R) {p : Nat} (p1 : 1 ≤ p) (p2 : p ≤ 10) : ((G_12 I L R 0 ((0 : Int32)) (I 0 10).toNatClampNeg + Int32.ofNat p) - (1 : Int32)) / Int32.ofNat p = Int32.ofNat ((unsN (loN I) (ndI I) + p - 1) / p) ∧ (unsN (loN I) (ndI I) + p - 1) / p ≤ 10 := by
  have u := (uns_N h.mi).2
  rw [uns_12 h]
  refine ⟨div_k _ (by omega) p (by omega) p1, ?_⟩
  refine Nat.le_of_lt_succ ((Nat.div_lt_iff_lt_mul p1).mpr ?_)
  have : 11 * p = 10 * p + p := Nat.succ_mul 10 p
  have : 10 * 1 ≤ 10 * p := Nat.mul_le_mul_left 10 p1
  show _ < 11 * p
  omega
set_option maxHeartbeats 4000000 in
theorem qp_33 {h : sH} {I : Nat → Nat → Int32} {L : Nat → Nat → Int64} {R : Nat → Nat} (th : qH h I L R) (hK : RK I L R) (hG : RG I) {a1 : Int32} {a2 : Int32} {a3 : Int32} {r : sR} (gW : qGo 142 [.ref (0), .int (a1), .int (a2), .int (a3), .ref (117)] h r)
    (p1 : ∀ (c3 : ¬ a1 < 0), ∀ (c16 : a1 < (I 0 10)), ∀ (c18 : ¬ a2 < 0), ∀ (c36 : a2 < (I 0 10)), ∀ (c38 : ¬ a3 < 0), ∀ (c62 : a3 < (I 0 9)), ∀ (c63 : ¬ a1 = a2), ∀ (c64 : a3 = (I 0 17)), ∀ (bb93 : sIn a3 16 = true), ∀ (z94 : I (19 + (a3).toNatClampNeg) 2 = 0 ∨ I (19 + (a3).toNatClampNeg) 2 = 1), ∀ (c95 : (I (19 + (a3).toNatClampNeg) 2) = 0), ∀ (bb96 : sIn a1 10 = true), ∀ (d97 : 35 ≤ R (a1).toNatClampNeg), ∀ (d98 : R (a1).toNatClampNeg ≤ 44), ∀ (bb101 : sIn a2 10 = true), ∀ (d102 : 35 ≤ R (a2).toNatClampNeg), ∀ (d103 : R (a2).toNatClampNeg ≤ 44), ∀ (d111 : 35 ≤ (upR (upR R ((a1).toNatClampNeg) (R (a2).toNatClampNeg)) ((a2).toNatClampNeg) (R (a1).toNatClampNeg)) (a1).toNatClampNeg), ∀ (d112 : (upR (upR R ((a1).toNatClampNeg) (R (a2).toNatClampNeg)) ((a2).toNatClampNeg) (R (a1).toNatClampNeg)) (a1).toNatClampNeg ≤ 44), ∀ (bb113 : sIn (0 : Int32) 1 = true), ∀ (h145 : sH), ∀ (t146 : qH h145 (upI I 85 42 (0 : Int32)) (upL L 117 (((0 : Int32)).toNatClampNeg) ((bc32 (I ((upR (upR R ((a1).toNatClampNeg) (R (a2).toNatClampNeg)) ((a2).toNatClampNeg) (R (a1).toNatClampNeg)) (a1).toNatClampNeg) 1)).toInt64)) (upR (upR R ((a1).toNatClampNeg) (R (a2).toNatClampNeg)) ((a2).toNatClampNeg) (R (a1).toNatClampNeg))), ∀ N lv, qLs lv [some (.ref (85)), some (.int (a1)), some (.int (a2)), none, none, some (.int ((0 : Int32))), none] → qW 271 N 87 lv [] h145 (fun r2 => opE (.inl (some (.int ((0 : Int32))))) r2.1 r2.2 RK)) : ∀ r2 : sR, qGo 271 [.ref (85), .int (a1), .int (a2), .int (a3)] r.2 r2 → opE r.1 r2.1 r2.2 RK := by
  refine qGo_w (Q := fun r => ∀ r2 : sR, qGo 271 [.ref (85), .int (a1), .int (a2), .int (a3)] r.2 r2 → opE r.1 r2.1 r2.2 RK) gW (fun N => ?_)
  have hl0 : qLs (lv_args 0 [.ref (0), .int (a1), .int (a2), .int (a3), .ref (117)]) [some (.ref (0)), some (.int (a1)), some (.int (a2)), some (.int (a3)), some (.ref (117)), none] := qLs_ar 1
  refine q_aload (show mE (mtv 142) 0 = some (.aload 4, 2, 0, 0) from rfl) (hl0 4 _ rfl) ?_
  refine q_iconst (show mE (mtv 142) 2 = some (.iconst 0, 1, 0, 0) from rfl) kI_0 ?_
  refine q_aload_n (show mE (mtv 142) 3 = some (.aload_n 0, 1, 0, 0) from rfl) (hl0 0 _ rfl) ?_
  refine q_iload_n (show mE (mtv 142) 4 = some (.iload_n 1, 1, 0, 0) from rfl) (hl0 1 _ rfl) ?_
  refine q_iload_n (show mE (mtv 142) 5 = some (.iload_n 2, 1, 0, 0) from rfl) (hl0 2 _ rfl) ?_
  refine q_iload_n (show mE (mtv 142) 6 = some (.iload_n 3, 1, 0, 0) from rfl) (hl0 3 _ rfl) ?_
  refine q_virtualIh (show mE (mtv 142) 7 = some (.invokevirtual 110, 3, 143, 8) from rfl) (by decide) rfl rfl rfl (fun _ => ?_)
  have hl1 : qLs (lv_args 0 [.ref (0), .int (a1), .int (a2), .int (a3)]) [some (.ref (0)), some (.int (a1)), some (.int (a2)), some (.int (a3)), none] := qLs_ar 1
  refine q_aload_n (show mE (mtv 143) 0 = some (.aload_n 0, 1, 0, 0) from rfl) (hl1 0 _ rfl) ?_
  refine q_iload_n (show mE (mtv 143) 1 = some (.iload_n 1, 1, 0, 0) from rfl) (hl1 1 _ rfl) ?_
  refine q_virtualI (show mE (mtv 143) 2 = some (.invokevirtual 176, 3, 67, 8) from rfl) (by decide) rfl rfl rfl (fun _ => ?_)
  have hl2 : qLs (lv_args 0 [.ref (0), .int (a1)]) [some (.ref (0)), some (.int (a1))] := qLs_ar 0
  refine q_iload_n (show mE (mtv 67) 0 = some (.iload_n 1, 1, 0, 0) from rfl) (hl2 1 _ rfl) ?_
  refine q_if_lt (t := 12) (show mE (mtv 67) 1 = some (.ifCond .lt 11, 3, 0, 0) from rfl) rfl (fun c3 => ?_) (fun c3 => ?_)
  · refine q_throw (show mE (mtv 67) 12 = some (.new 338, 3, 1002, 0) from rfl) (by decide) ?_
    refine qK_x ?_
    refine qKh_x (hp := 15) (c := (17, sDr 5 (lv_args 0 [.ref (0), .int (a1), .int (a2), .int (a3), .ref (117)]), [], h)) rfl (by decide) (fun _ _ => rfl) ?_
    refine q_iconst (show mE (mtv 142) 17 = some (.iconst 1, 1, 0, 0) from rfl) kI_1 ?_
    refine q_ireturn (show mE (mtv 142) 18 = some (.ireturn, 1, 0, 0) from rfl) ?_
    intro r4 g5
    have g5 : qGo 271 [.ref (85), .int (a1), .int (a2), .int (a3)] h r4 := g5
    refine qGo_w (Q := fun r2 => opE (.inl (some (.int ((1 : Int32))))) r2.1 r2.2 RK) g5 (fun _ => ?_)
    have hl6 : qLs (lv_args 0 [.ref (85), .int (a1), .int (a2), .int (a3)]) [some (.ref (85)), some (.int (a1)), some (.int (a2)), some (.int (a3)), none, none, none] := qLs_ar 3
    refine q_aload_n (show mE (mtv 271) 0 = some (.aload_n 0, 1, 0, 0) from rfl) (hl6 0 _ rfl) ?_
    refine q_iload_n (show mE (mtv 271) 1 = some (.iload_n 1, 1, 0, 0) from rfl) (hl6 1 _ rfl) ?_
    refine q_virtualI (show mE (mtv 271) 2 = some (.invokevirtual 183, 3, 223, 9) from rfl) (by decide) rfl rfl rfl (fun _ => ?_)
    have hl7 : qLs (lv_args 0 [.ref (85), .int (a1)]) [some (.ref (85)), some (.int (a1))] := qLs_ar 0
    refine q_iload_n (show mE (mtv 223) 0 = some (.iload_n 1, 1, 0, 0) from rfl) (hl7 1 _ rfl) ?_
    refine q_iconst (show mE (mtv 223) 1 = some (.iconst 0, 1, 0, 0) from rfl) kI_0 ?_
    refine q_aload_n (show mE (mtv 223) 2 = some (.aload_n 0, 1, 0, 0) from rfl) (hl7 0 _ rfl) ?_
    refine q_getI th (show mE (mtv 223) 3 = some (.getfield 120, 3, 9, 36) from rfl) (by decide) rfl ?_
    have r8 : I 85 36 = I 0 10 := hK.nd.symm
    rw [r8]; clear r8
    refine q_iconst (show mE (mtv 223) 6 = some (.iconst 1, 1, 0, 0) from rfl) kI_1 ?_
    refine q_isub (show mE (mtv 223) 7 = some (.isub, 1, 0, 0) from rfl) ?_
    refine q_staticP (show mE (mtv 223) 8 = some (.invokestatic 157, 3, 211, 0) from rfl) (by decide) rfl rfl rfl (fun _ g => sp_211 g) ?_
    refine q_ireturn (show mE (mtv 223) 11 = some (.ireturn, 1, 0, 0) from rfl) ?_
    refine qK_v ?_
    refine q_ifb_eq (t := 28) (show mE (mtv 271) 5 = some (.ifCond .eq 23, 3, 0, 0) from rfl) rfl (fun c9 => ?_) (fun c9 => ?_)
    · clear c9
      refine q_iconst (show mE (mtv 271) 28 = some (.iconst 0, 1, 0, 0) from rfl) kI_0 ?_
      refine q_istore (show mE (mtv 271) 29 = some (.istore 4, 2, 0, 0) from rfl) (Nat.le_of_ble_eq_true rfl) hl6 (fun lv12 (hl13 : qLs lv12 [some (.ref (85)), some (.int (a1)), some (.int (a2)), some (.int (a3)), some (.int ((0 : Int32))), none, none]) => ?_)
      refine q_aload_n (show mE (mtv 271) 31 = some (.aload_n 0, 1, 0, 0) from rfl) (hl13 0 _ rfl) ?_
      refine q_iload (show mE (mtv 271) 32 = some (.iload 4, 2, 0, 0) from rfl) (hl13 4 _ rfl) ?_
      refine q_iff (t := 41) (show mE (mtv 271) 34 = some (.ifCond .ne 7, 3, 0, 0) from rfl) (by decide) rfl ?_
      refine q_iconst (show mE (mtv 271) 37 = some (.iconst 1, 1, 0, 0) from rfl) kI_1 ?_
      refine q_goto (t := 72) (show mE (mtv 271) 38 = some (.goto 34, 3, 0, 0) from rfl) rfl ?_
      refine q_putI th (show mE (mtv 271) 72 = some (.putfield 138, 3, 9, 42) from rfl) (by decide) rfl (fun h14 t15 => ?_)
      refine q_aload_n (show mE (mtv 271) 75 = some (.aload_n 0, 1, 0, 0) from rfl) (hl13 0 _ rfl) ?_
      refine q_getIe t15 (show mE (mtv 271) 76 = some (.getfield 138, 3, 9, 42) from rfl) (by decide) rfl (upI_s) ?_
      refine q_iff (t := 84) (show mE (mtv 271) 79 = some (.ifCond .le 5, 3, 0, 0) from rfl) (by decide) rfl ?_
      refine q_iconst (show mE (mtv 271) 82 = some (.iconst 0, 1, 0, 0) from rfl) kI_0 ?_
      refine q_ireturn (show mE (mtv 271) 83 = some (.ireturn, 1, 0, 0) from rfl) ?_
      exact ⟨(1 : Int32), (0 : Int32), _, _, _, rfl, rfl, t15, upI_s, (fun e => absurd e (by decide)), (RK_t (1 : Int32) hK)⟩
    · exfalso
      have s10 := hK.bd
      unfold inR at s10
      have s11 := i32_sub1 (x := I 0 10) (by omega)
      simp only [s11, Int32.lt_iff_toInt_lt, Int32.le_iff_toInt_le, ← Int32.toInt_inj, kt_0, kt_1] at c3 c9
      first | omega | contradiction
  · refine q_iload_n (show mE (mtv 67) 4 = some (.iload_n 1, 1, 0, 0) from rfl) (hl2 1 _ rfl) ?_
    refine q_aload_n (show mE (mtv 67) 5 = some (.aload_n 0, 1, 0, 0) from rfl) (hl2 0 _ rfl) ?_
    refine q_getI th (show mE (mtv 67) 6 = some (.getfield 171, 3, 8, 10) from rfl) (by decide) rfl ?_
    refine q_ic_lt (t := 23) (show mE (mtv 67) 9 = some (.if_icmp .lt 14, 3, 0, 0) from rfl) rfl (fun c16 => ?_) (fun c16 => ?_)
    · refine q_return_ (show mE (mtv 67) 23 = some (.return_, 1, 0, 0) from rfl) ?_
      refine qK_n ?_
      refine q_aload_n (show mE (mtv 143) 5 = some (.aload_n 0, 1, 0, 0) from rfl) (hl1 0 _ rfl) ?_
      refine q_iload_n (show mE (mtv 143) 6 = some (.iload_n 2, 1, 0, 0) from rfl) (hl1 2 _ rfl) ?_
      refine q_virtualI (show mE (mtv 143) 7 = some (.invokevirtual 176, 3, 67, 8) from rfl) (by decide) rfl rfl rfl (fun _ => ?_)
      have hl17 : qLs (lv_args 0 [.ref (0), .int (a2)]) [some (.ref (0)), some (.int (a2))] := qLs_ar 0
      refine q_iload_n (show mE (mtv 67) 0 = some (.iload_n 1, 1, 0, 0) from rfl) (hl17 1 _ rfl) ?_
      refine q_if_lt (t := 12) (show mE (mtv 67) 1 = some (.ifCond .lt 11, 3, 0, 0) from rfl) rfl (fun c18 => ?_) (fun c18 => ?_)
      · refine q_throw (show mE (mtv 67) 12 = some (.new 338, 3, 1002, 0) from rfl) (by decide) ?_
        refine qK_x ?_
        refine qKh_x (hp := 15) (c := (17, sDr 5 (lv_args 0 [.ref (0), .int (a1), .int (a2), .int (a3), .ref (117)]), [], h)) rfl (by decide) (fun _ _ => rfl) ?_
        refine q_iconst (show mE (mtv 142) 17 = some (.iconst 1, 1, 0, 0) from rfl) kI_1 ?_
        refine q_ireturn (show mE (mtv 142) 18 = some (.ireturn, 1, 0, 0) from rfl) ?_
        intro r19 g20
        have g20 : qGo 271 [.ref (85), .int (a1), .int (a2), .int (a3)] h r19 := g20
        refine qGo_w (Q := fun r2 => opE (.inl (some (.int ((1 : Int32))))) r2.1 r2.2 RK) g20 (fun _ => ?_)
        have hl21 : qLs (lv_args 0 [.ref (85), .int (a1), .int (a2), .int (a3)]) [some (.ref (85)), some (.int (a1)), some (.int (a2)), some (.int (a3)), none, none, none] := qLs_ar 3
        refine q_aload_n (show mE (mtv 271) 0 = some (.aload_n 0, 1, 0, 0) from rfl) (hl21 0 _ rfl) ?_
        refine q_iload_n (show mE (mtv 271) 1 = some (.iload_n 1, 1, 0, 0) from rfl) (hl21 1 _ rfl) ?_
        refine q_virtualI (show mE (mtv 271) 2 = some (.invokevirtual 183, 3, 223, 9) from rfl) (by decide) rfl rfl rfl (fun _ => ?_)
        have hl22 : qLs (lv_args 0 [.ref (85), .int (a1)]) [some (.ref (85)), some (.int (a1))] := qLs_ar 0
        refine q_iload_n (show mE (mtv 223) 0 = some (.iload_n 1, 1, 0, 0) from rfl) (hl22 1 _ rfl) ?_
        refine q_iconst (show mE (mtv 223) 1 = some (.iconst 0, 1, 0, 0) from rfl) kI_0 ?_
        refine q_aload_n (show mE (mtv 223) 2 = some (.aload_n 0, 1, 0, 0) from rfl) (hl22 0 _ rfl) ?_
        refine q_getI th (show mE (mtv 223) 3 = some (.getfield 120, 3, 9, 36) from rfl) (by decide) rfl ?_
        have r23 : I 85 36 = I 0 10 := hK.nd.symm
        rw [r23]; clear r23
        refine q_iconst (show mE (mtv 223) 6 = some (.iconst 1, 1, 0, 0) from rfl) kI_1 ?_
        refine q_isub (show mE (mtv 223) 7 = some (.isub, 1, 0, 0) from rfl) ?_
        refine q_staticP (show mE (mtv 223) 8 = some (.invokestatic 157, 3, 211, 0) from rfl) (by decide) rfl rfl rfl (fun _ g => sp_211 g) ?_
        refine q_ireturn (show mE (mtv 223) 11 = some (.ireturn, 1, 0, 0) from rfl) ?_
        refine qK_v ?_
        refine q_ifb_eq (t := 28) (show mE (mtv 271) 5 = some (.ifCond .eq 23, 3, 0, 0) from rfl) rfl (fun c24 => ?_) (fun c24 => ?_)
        · exfalso
          have s25 := hK.bd
          unfold inR at s25
          have s26 := i32_sub1 (x := I 0 10) (by omega)
          simp only [s26, Int32.lt_iff_toInt_lt, Int32.le_iff_toInt_le, ← Int32.toInt_inj, kt_0, kt_1] at c3 c16 c18 c24
          first | omega | contradiction
        · clear c24
          refine q_aload_n (show mE (mtv 271) 8 = some (.aload_n 0, 1, 0, 0) from rfl) (hl21 0 _ rfl) ?_
          refine q_iload_n (show mE (mtv 271) 9 = some (.iload_n 2, 1, 0, 0) from rfl) (hl21 2 _ rfl) ?_
          refine q_virtualI (show mE (mtv 271) 10 = some (.invokevirtual 183, 3, 223, 9) from rfl) (by decide) rfl rfl rfl (fun _ => ?_)
          have hl27 : qLs (lv_args 0 [.ref (85), .int (a2)]) [some (.ref (85)), some (.int (a2))] := qLs_ar 0
          refine q_iload_n (show mE (mtv 223) 0 = some (.iload_n 1, 1, 0, 0) from rfl) (hl27 1 _ rfl) ?_
          refine q_iconst (show mE (mtv 223) 1 = some (.iconst 0, 1, 0, 0) from rfl) kI_0 ?_
          refine q_aload_n (show mE (mtv 223) 2 = some (.aload_n 0, 1, 0, 0) from rfl) (hl27 0 _ rfl) ?_
          refine q_getI th (show mE (mtv 223) 3 = some (.getfield 120, 3, 9, 36) from rfl) (by decide) rfl ?_
          have r28 : I 85 36 = I 0 10 := hK.nd.symm
          rw [r28]; clear r28
          refine q_iconst (show mE (mtv 223) 6 = some (.iconst 1, 1, 0, 0) from rfl) kI_1 ?_
          refine q_isub (show mE (mtv 223) 7 = some (.isub, 1, 0, 0) from rfl) ?_
          refine q_staticP (show mE (mtv 223) 8 = some (.invokestatic 157, 3, 211, 0) from rfl) (by decide) rfl rfl rfl (fun _ g => sp_211 g) ?_
          refine q_ireturn (show mE (mtv 223) 11 = some (.ireturn, 1, 0, 0) from rfl) ?_
          refine qK_v ?_
          refine q_ifb_eq (t := 28) (show mE (mtv 271) 13 = some (.ifCond .eq 15, 3, 0, 0) from rfl) rfl (fun c29 => ?_) (fun c29 => ?_)
          · clear c29
            refine q_iconst (show mE (mtv 271) 28 = some (.iconst 0, 1, 0, 0) from rfl) kI_0 ?_
            refine q_istore (show mE (mtv 271) 29 = some (.istore 4, 2, 0, 0) from rfl) (Nat.le_of_ble_eq_true rfl) hl21 (fun lv32 (hl33 : qLs lv32 [some (.ref (85)), some (.int (a1)), some (.int (a2)), some (.int (a3)), some (.int ((0 : Int32))), none, none]) => ?_)
            refine q_aload_n (show mE (mtv 271) 31 = some (.aload_n 0, 1, 0, 0) from rfl) (hl33 0 _ rfl) ?_
            refine q_iload (show mE (mtv 271) 32 = some (.iload 4, 2, 0, 0) from rfl) (hl33 4 _ rfl) ?_
            refine q_iff (t := 41) (show mE (mtv 271) 34 = some (.ifCond .ne 7, 3, 0, 0) from rfl) (by decide) rfl ?_
            refine q_iconst (show mE (mtv 271) 37 = some (.iconst 1, 1, 0, 0) from rfl) kI_1 ?_
            refine q_goto (t := 72) (show mE (mtv 271) 38 = some (.goto 34, 3, 0, 0) from rfl) rfl ?_
            refine q_putI th (show mE (mtv 271) 72 = some (.putfield 138, 3, 9, 42) from rfl) (by decide) rfl (fun h34 t35 => ?_)
            refine q_aload_n (show mE (mtv 271) 75 = some (.aload_n 0, 1, 0, 0) from rfl) (hl33 0 _ rfl) ?_
            refine q_getIe t35 (show mE (mtv 271) 76 = some (.getfield 138, 3, 9, 42) from rfl) (by decide) rfl (upI_s) ?_
            refine q_iff (t := 84) (show mE (mtv 271) 79 = some (.ifCond .le 5, 3, 0, 0) from rfl) (by decide) rfl ?_
            refine q_iconst (show mE (mtv 271) 82 = some (.iconst 0, 1, 0, 0) from rfl) kI_0 ?_
            refine q_ireturn (show mE (mtv 271) 83 = some (.ireturn, 1, 0, 0) from rfl) ?_
            exact ⟨(1 : Int32), (0 : Int32), _, _, _, rfl, rfl, t35, upI_s, (fun e => absurd e (by decide)), (RK_t (1 : Int32) hK)⟩
          · exfalso
            have s30 := hK.bd
            unfold inR at s30
            have s31 := i32_sub1 (x := I 0 10) (by omega)
            simp only [s31, Int32.lt_iff_toInt_lt, Int32.le_iff_toInt_le, ← Int32.toInt_inj, kt_0, kt_1] at c3 c16 c18 c29
            first | omega | contradiction
      · refine q_iload_n (show mE (mtv 67) 4 = some (.iload_n 1, 1, 0, 0) from rfl) (hl17 1 _ rfl) ?_
        refine q_aload_n (show mE (mtv 67) 5 = some (.aload_n 0, 1, 0, 0) from rfl) (hl17 0 _ rfl) ?_
        refine q_getI th (show mE (mtv 67) 6 = some (.getfield 171, 3, 8, 10) from rfl) (by decide) rfl ?_
        refine q_ic_lt (t := 23) (show mE (mtv 67) 9 = some (.if_icmp .lt 14, 3, 0, 0) from rfl) rfl (fun c36 => ?_) (fun c36 => ?_)
        · refine q_return_ (show mE (mtv 67) 23 = some (.return_, 1, 0, 0) from rfl) ?_
          refine qK_n ?_
          refine q_aload_n (show mE (mtv 143) 10 = some (.aload_n 0, 1, 0, 0) from rfl) (hl1 0 _ rfl) ?_
          refine q_iload_n (show mE (mtv 143) 11 = some (.iload_n 3, 1, 0, 0) from rfl) (hl1 3 _ rfl) ?_
          refine q_virtualI (show mE (mtv 143) 12 = some (.invokevirtual 158, 3, 61, 8) from rfl) (by decide) rfl rfl rfl (fun _ => ?_)
          have hl37 : qLs (lv_args 0 [.ref (0), .int (a3)]) [some (.ref (0)), some (.int (a3))] := qLs_ar 0
          refine q_iload_n (show mE (mtv 61) 0 = some (.iload_n 1, 1, 0, 0) from rfl) (hl37 1 _ rfl) ?_
          refine q_if_lt (t := 12) (show mE (mtv 61) 1 = some (.ifCond .lt 11, 3, 0, 0) from rfl) rfl (fun c38 => ?_) (fun c38 => ?_)
          · refine q_throw (show mE (mtv 61) 12 = some (.new 338, 3, 1002, 0) from rfl) (by decide) ?_
            refine qK_x ?_
            refine qKh_x (hp := 15) (c := (17, sDr 5 (lv_args 0 [.ref (0), .int (a1), .int (a2), .int (a3), .ref (117)]), [], h)) rfl (by decide) (fun _ _ => rfl) ?_
            refine q_iconst (show mE (mtv 142) 17 = some (.iconst 1, 1, 0, 0) from rfl) kI_1 ?_
            refine q_ireturn (show mE (mtv 142) 18 = some (.ireturn, 1, 0, 0) from rfl) ?_
            intro r39 g40
            have g40 : qGo 271 [.ref (85), .int (a1), .int (a2), .int (a3)] h r39 := g40
            refine qGo_w (Q := fun r2 => opE (.inl (some (.int ((1 : Int32))))) r2.1 r2.2 RK) g40 (fun _ => ?_)
            have hl41 : qLs (lv_args 0 [.ref (85), .int (a1), .int (a2), .int (a3)]) [some (.ref (85)), some (.int (a1)), some (.int (a2)), some (.int (a3)), none, none, none] := qLs_ar 3
            refine q_aload_n (show mE (mtv 271) 0 = some (.aload_n 0, 1, 0, 0) from rfl) (hl41 0 _ rfl) ?_
            refine q_iload_n (show mE (mtv 271) 1 = some (.iload_n 1, 1, 0, 0) from rfl) (hl41 1 _ rfl) ?_
            refine q_virtualI (show mE (mtv 271) 2 = some (.invokevirtual 183, 3, 223, 9) from rfl) (by decide) rfl rfl rfl (fun _ => ?_)
            have hl42 : qLs (lv_args 0 [.ref (85), .int (a1)]) [some (.ref (85)), some (.int (a1))] := qLs_ar 0
            refine q_iload_n (show mE (mtv 223) 0 = some (.iload_n 1, 1, 0, 0) from rfl) (hl42 1 _ rfl) ?_
            refine q_iconst (show mE (mtv 223) 1 = some (.iconst 0, 1, 0, 0) from rfl) kI_0 ?_
            refine q_aload_n (show mE (mtv 223) 2 = some (.aload_n 0, 1, 0, 0) from rfl) (hl42 0 _ rfl) ?_
            refine q_getI th (show mE (mtv 223) 3 = some (.getfield 120, 3, 9, 36) from rfl) (by decide) rfl ?_
            have r43 : I 85 36 = I 0 10 := hK.nd.symm
            rw [r43]; clear r43
            refine q_iconst (show mE (mtv 223) 6 = some (.iconst 1, 1, 0, 0) from rfl) kI_1 ?_
            refine q_isub (show mE (mtv 223) 7 = some (.isub, 1, 0, 0) from rfl) ?_
            refine q_staticP (show mE (mtv 223) 8 = some (.invokestatic 157, 3, 211, 0) from rfl) (by decide) rfl rfl rfl (fun _ g => sp_211 g) ?_
            refine q_ireturn (show mE (mtv 223) 11 = some (.ireturn, 1, 0, 0) from rfl) ?_
            refine qK_v ?_
            refine q_ifb_eq (t := 28) (show mE (mtv 271) 5 = some (.ifCond .eq 23, 3, 0, 0) from rfl) rfl (fun c44 => ?_) (fun c44 => ?_)
            · exfalso
              have s45 := hK.bd
              unfold inR at s45
              have s46 := i32_sub1 (x := I 0 10) (by omega)
              simp only [s46, Int32.lt_iff_toInt_lt, Int32.le_iff_toInt_le, ← Int32.toInt_inj, kt_0, kt_1] at c3 c16 c18 c36 c38 c44
              first | omega | contradiction
            · clear c44
              refine q_aload_n (show mE (mtv 271) 8 = some (.aload_n 0, 1, 0, 0) from rfl) (hl41 0 _ rfl) ?_
              refine q_iload_n (show mE (mtv 271) 9 = some (.iload_n 2, 1, 0, 0) from rfl) (hl41 2 _ rfl) ?_
              refine q_virtualI (show mE (mtv 271) 10 = some (.invokevirtual 183, 3, 223, 9) from rfl) (by decide) rfl rfl rfl (fun _ => ?_)
              have hl47 : qLs (lv_args 0 [.ref (85), .int (a2)]) [some (.ref (85)), some (.int (a2))] := qLs_ar 0
              refine q_iload_n (show mE (mtv 223) 0 = some (.iload_n 1, 1, 0, 0) from rfl) (hl47 1 _ rfl) ?_
              refine q_iconst (show mE (mtv 223) 1 = some (.iconst 0, 1, 0, 0) from rfl) kI_0 ?_
              refine q_aload_n (show mE (mtv 223) 2 = some (.aload_n 0, 1, 0, 0) from rfl) (hl47 0 _ rfl) ?_
              refine q_getI th (show mE (mtv 223) 3 = some (.getfield 120, 3, 9, 36) from rfl) (by decide) rfl ?_
              have r48 : I 85 36 = I 0 10 := hK.nd.symm
              rw [r48]; clear r48
              refine q_iconst (show mE (mtv 223) 6 = some (.iconst 1, 1, 0, 0) from rfl) kI_1 ?_
              refine q_isub (show mE (mtv 223) 7 = some (.isub, 1, 0, 0) from rfl) ?_
              refine q_staticP (show mE (mtv 223) 8 = some (.invokestatic 157, 3, 211, 0) from rfl) (by decide) rfl rfl rfl (fun _ g => sp_211 g) ?_
              refine q_ireturn (show mE (mtv 223) 11 = some (.ireturn, 1, 0, 0) from rfl) ?_
              refine qK_v ?_
              refine q_ifb_eq (t := 28) (show mE (mtv 271) 13 = some (.ifCond .eq 15, 3, 0, 0) from rfl) rfl (fun c49 => ?_) (fun c49 => ?_)
              · exfalso
                have s50 := hK.bd
                unfold inR at s50
                have s51 := i32_sub1 (x := I 0 10) (by omega)
                simp only [s51, Int32.lt_iff_toInt_lt, Int32.le_iff_toInt_le, ← Int32.toInt_inj, kt_0, kt_1] at c3 c16 c18 c36 c38 c49
                first | omega | contradiction
              · clear c49
                refine q_aload_n (show mE (mtv 271) 16 = some (.aload_n 0, 1, 0, 0) from rfl) (hl41 0 _ rfl) ?_
                refine q_iload_n (show mE (mtv 271) 17 = some (.iload_n 3, 1, 0, 0) from rfl) (hl41 3 _ rfl) ?_
                refine q_virtualI (show mE (mtv 271) 18 = some (.invokevirtual 175, 3, 220, 9) from rfl) (by decide) rfl rfl rfl (fun _ => ?_)
                have hl52 : qLs (lv_args 0 [.ref (85), .int (a3)]) [some (.ref (85)), some (.int (a3))] := qLs_ar 0
                refine q_iload_n (show mE (mtv 220) 0 = some (.iload_n 1, 1, 0, 0) from rfl) (hl52 1 _ rfl) ?_
                refine q_iconst (show mE (mtv 220) 1 = some (.iconst 0, 1, 0, 0) from rfl) kI_0 ?_
                refine q_aload_n (show mE (mtv 220) 2 = some (.aload_n 0, 1, 0, 0) from rfl) (hl52 0 _ rfl) ?_
                refine q_getI th (show mE (mtv 220) 3 = some (.getfield 117, 3, 9, 35) from rfl) (by decide) rfl ?_
                have r53 : I 85 35 = I 0 9 := hK.nk.symm
                rw [r53]; clear r53
                refine q_iconst (show mE (mtv 220) 6 = some (.iconst 1, 1, 0, 0) from rfl) kI_1 ?_
                refine q_isub (show mE (mtv 220) 7 = some (.isub, 1, 0, 0) from rfl) ?_
                refine q_staticP (show mE (mtv 220) 8 = some (.invokestatic 157, 3, 211, 0) from rfl) (by decide) rfl rfl rfl (fun _ g => sp_211 g) ?_
                refine q_ireturn (show mE (mtv 220) 11 = some (.ireturn, 1, 0, 0) from rfl) ?_
                refine qK_v ?_
                refine q_ifb_eq (t := 28) (show mE (mtv 271) 21 = some (.ifCond .eq 7, 3, 0, 0) from rfl) rfl (fun c54 => ?_) (fun c54 => ?_)
                · clear c54
                  refine q_iconst (show mE (mtv 271) 28 = some (.iconst 0, 1, 0, 0) from rfl) kI_0 ?_
                  refine q_istore (show mE (mtv 271) 29 = some (.istore 4, 2, 0, 0) from rfl) (Nat.le_of_ble_eq_true rfl) hl41 (fun lv58 (hl59 : qLs lv58 [some (.ref (85)), some (.int (a1)), some (.int (a2)), some (.int (a3)), some (.int ((0 : Int32))), none, none]) => ?_)
                  refine q_aload_n (show mE (mtv 271) 31 = some (.aload_n 0, 1, 0, 0) from rfl) (hl59 0 _ rfl) ?_
                  refine q_iload (show mE (mtv 271) 32 = some (.iload 4, 2, 0, 0) from rfl) (hl59 4 _ rfl) ?_
                  refine q_iff (t := 41) (show mE (mtv 271) 34 = some (.ifCond .ne 7, 3, 0, 0) from rfl) (by decide) rfl ?_
                  refine q_iconst (show mE (mtv 271) 37 = some (.iconst 1, 1, 0, 0) from rfl) kI_1 ?_
                  refine q_goto (t := 72) (show mE (mtv 271) 38 = some (.goto 34, 3, 0, 0) from rfl) rfl ?_
                  refine q_putI th (show mE (mtv 271) 72 = some (.putfield 138, 3, 9, 42) from rfl) (by decide) rfl (fun h60 t61 => ?_)
                  refine q_aload_n (show mE (mtv 271) 75 = some (.aload_n 0, 1, 0, 0) from rfl) (hl59 0 _ rfl) ?_
                  refine q_getIe t61 (show mE (mtv 271) 76 = some (.getfield 138, 3, 9, 42) from rfl) (by decide) rfl (upI_s) ?_
                  refine q_iff (t := 84) (show mE (mtv 271) 79 = some (.ifCond .le 5, 3, 0, 0) from rfl) (by decide) rfl ?_
                  refine q_iconst (show mE (mtv 271) 82 = some (.iconst 0, 1, 0, 0) from rfl) kI_0 ?_
                  refine q_ireturn (show mE (mtv 271) 83 = some (.ireturn, 1, 0, 0) from rfl) ?_
                  exact ⟨(1 : Int32), (0 : Int32), _, _, _, rfl, rfl, t61, upI_s, (fun e => absurd e (by decide)), (RK_t (1 : Int32) hK)⟩
                · exfalso
                  have s55 := hK.bk
                  unfold inR at s55
                  have s56 := i32_sub1 (x := I 0 9) (by omega)
                  have s57 := hK.bd
                  unfold inR at s57
                  simp only [s56, Int32.lt_iff_toInt_lt, Int32.le_iff_toInt_le, ← Int32.toInt_inj, kt_0, kt_1] at c3 c16 c18 c36 c38 c54
                  first | omega | contradiction
          · refine q_iload_n (show mE (mtv 61) 4 = some (.iload_n 1, 1, 0, 0) from rfl) (hl37 1 _ rfl) ?_
            refine q_aload_n (show mE (mtv 61) 5 = some (.aload_n 0, 1, 0, 0) from rfl) (hl37 0 _ rfl) ?_
            refine q_getI th (show mE (mtv 61) 6 = some (.getfield 88, 3, 8, 9) from rfl) (by decide) rfl ?_
            refine q_ic_lt (t := 23) (show mE (mtv 61) 9 = some (.if_icmp .lt 14, 3, 0, 0) from rfl) rfl (fun c62 => ?_) (fun c62 => ?_)
            · refine q_return_ (show mE (mtv 61) 23 = some (.return_, 1, 0, 0) from rfl) ?_
              refine qK_n ?_
              refine q_iload_n (show mE (mtv 143) 15 = some (.iload_n 1, 1, 0, 0) from rfl) (hl1 1 _ rfl) ?_
              refine q_iload_n (show mE (mtv 143) 16 = some (.iload_n 2, 1, 0, 0) from rfl) (hl1 2 _ rfl) ?_
              refine q_ic_ne (t := 31) (show mE (mtv 143) 17 = some (.if_icmp .ne 14, 3, 0, 0) from rfl) rfl (fun c63 => ?_) (fun c63 => ?_)
              · refine q_iload_n (show mE (mtv 143) 31 = some (.iload_n 3, 1, 0, 0) from rfl) (hl1 3 _ rfl) ?_
                refine q_aload_n (show mE (mtv 143) 32 = some (.aload_n 0, 1, 0, 0) from rfl) (hl1 0 _ rfl) ?_
                refine q_getI th (show mE (mtv 143) 33 = some (.getfield 67, 3, 8, 17) from rfl) (by decide) rfl ?_
                refine q_ic_ne (t := 51) (show mE (mtv 143) 36 = some (.if_icmp .ne 15, 3, 0, 0) from rfl) rfl (fun c64 => ?_) (fun c64 => ?_)
                · refine q_throw (show mE (mtv 143) 51 = some (.new 94, 3, 1003, 0) from rfl) (by decide) ?_
                  refine qKh_x (hp := 23) (c := (25, sDr 5 (lv_args 0 [.ref (0), .int (a1), .int (a2), .int (a3), .ref (117)]), [], h)) rfl (by decide) (fun _ _ => rfl) ?_
                  refine q_iconst (show mE (mtv 142) 25 = some (.iconst 3, 1, 0, 0) from rfl) kI_3 ?_
                  refine q_ireturn (show mE (mtv 142) 26 = some (.ireturn, 1, 0, 0) from rfl) ?_
                  intro r65 g66
                  have g66 : qGo 271 [.ref (85), .int (a1), .int (a2), .int (a3)] h r65 := g66
                  refine qGo_w (Q := fun r2 => opE (.inl (some (.int ((3 : Int32))))) r2.1 r2.2 RK) g66 (fun _ => ?_)
                  have hl67 : qLs (lv_args 0 [.ref (85), .int (a1), .int (a2), .int (a3)]) [some (.ref (85)), some (.int (a1)), some (.int (a2)), some (.int (a3)), none, none, none] := qLs_ar 3
                  refine q_aload_n (show mE (mtv 271) 0 = some (.aload_n 0, 1, 0, 0) from rfl) (hl67 0 _ rfl) ?_
                  refine q_iload_n (show mE (mtv 271) 1 = some (.iload_n 1, 1, 0, 0) from rfl) (hl67 1 _ rfl) ?_
                  refine q_virtualI (show mE (mtv 271) 2 = some (.invokevirtual 183, 3, 223, 9) from rfl) (by decide) rfl rfl rfl (fun _ => ?_)
                  have hl68 : qLs (lv_args 0 [.ref (85), .int (a1)]) [some (.ref (85)), some (.int (a1))] := qLs_ar 0
                  refine q_iload_n (show mE (mtv 223) 0 = some (.iload_n 1, 1, 0, 0) from rfl) (hl68 1 _ rfl) ?_
                  refine q_iconst (show mE (mtv 223) 1 = some (.iconst 0, 1, 0, 0) from rfl) kI_0 ?_
                  refine q_aload_n (show mE (mtv 223) 2 = some (.aload_n 0, 1, 0, 0) from rfl) (hl68 0 _ rfl) ?_
                  refine q_getI th (show mE (mtv 223) 3 = some (.getfield 120, 3, 9, 36) from rfl) (by decide) rfl ?_
                  have r69 : I 85 36 = I 0 10 := hK.nd.symm
                  rw [r69]; clear r69
                  refine q_iconst (show mE (mtv 223) 6 = some (.iconst 1, 1, 0, 0) from rfl) kI_1 ?_
                  refine q_isub (show mE (mtv 223) 7 = some (.isub, 1, 0, 0) from rfl) ?_
                  refine q_staticP (show mE (mtv 223) 8 = some (.invokestatic 157, 3, 211, 0) from rfl) (by decide) rfl rfl rfl (fun _ g => sp_211 g) ?_
                  refine q_ireturn (show mE (mtv 223) 11 = some (.ireturn, 1, 0, 0) from rfl) ?_
                  refine qK_v ?_
                  refine q_ifb_eq (t := 28) (show mE (mtv 271) 5 = some (.ifCond .eq 23, 3, 0, 0) from rfl) rfl (fun c70 => ?_) (fun c70 => ?_)
                  · exfalso
                    have s71 := hK.bk
                    unfold inR at s71
                    have s72 := hK.bd
                    unfold inR at s72
                    have s73 := i32_sub1 (x := I 0 10) (by omega)
                    simp only [s73, Int32.lt_iff_toInt_lt, Int32.le_iff_toInt_le, ← Int32.toInt_inj, kt_0, kt_1] at c3 c16 c18 c36 c38 c62 c63 c64 c70
                    first | omega | contradiction
                  · clear c70
                    refine q_aload_n (show mE (mtv 271) 8 = some (.aload_n 0, 1, 0, 0) from rfl) (hl67 0 _ rfl) ?_
                    refine q_iload_n (show mE (mtv 271) 9 = some (.iload_n 2, 1, 0, 0) from rfl) (hl67 2 _ rfl) ?_
                    refine q_virtualI (show mE (mtv 271) 10 = some (.invokevirtual 183, 3, 223, 9) from rfl) (by decide) rfl rfl rfl (fun _ => ?_)
                    have hl74 : qLs (lv_args 0 [.ref (85), .int (a2)]) [some (.ref (85)), some (.int (a2))] := qLs_ar 0
                    refine q_iload_n (show mE (mtv 223) 0 = some (.iload_n 1, 1, 0, 0) from rfl) (hl74 1 _ rfl) ?_
                    refine q_iconst (show mE (mtv 223) 1 = some (.iconst 0, 1, 0, 0) from rfl) kI_0 ?_
                    refine q_aload_n (show mE (mtv 223) 2 = some (.aload_n 0, 1, 0, 0) from rfl) (hl74 0 _ rfl) ?_
                    refine q_getI th (show mE (mtv 223) 3 = some (.getfield 120, 3, 9, 36) from rfl) (by decide) rfl ?_
                    have r75 : I 85 36 = I 0 10 := hK.nd.symm
                    rw [r75]; clear r75
                    refine q_iconst (show mE (mtv 223) 6 = some (.iconst 1, 1, 0, 0) from rfl) kI_1 ?_
                    refine q_isub (show mE (mtv 223) 7 = some (.isub, 1, 0, 0) from rfl) ?_
                    refine q_staticP (show mE (mtv 223) 8 = some (.invokestatic 157, 3, 211, 0) from rfl) (by decide) rfl rfl rfl (fun _ g => sp_211 g) ?_
                    refine q_ireturn (show mE (mtv 223) 11 = some (.ireturn, 1, 0, 0) from rfl) ?_
                    refine qK_v ?_
                    refine q_ifb_eq (t := 28) (show mE (mtv 271) 13 = some (.ifCond .eq 15, 3, 0, 0) from rfl) rfl (fun c76 => ?_) (fun c76 => ?_)
                    · exfalso
                      have s77 := hK.bk
                      unfold inR at s77
                      have s78 := hK.bd
                      unfold inR at s78
                      have s79 := i32_sub1 (x := I 0 10) (by omega)
                      simp only [s79, Int32.lt_iff_toInt_lt, Int32.le_iff_toInt_le, ← Int32.toInt_inj, kt_0, kt_1] at c3 c16 c18 c36 c38 c62 c63 c64 c76
                      first | omega | contradiction
                    · clear c76
                      refine q_aload_n (show mE (mtv 271) 16 = some (.aload_n 0, 1, 0, 0) from rfl) (hl67 0 _ rfl) ?_
                      refine q_iload_n (show mE (mtv 271) 17 = some (.iload_n 3, 1, 0, 0) from rfl) (hl67 3 _ rfl) ?_
                      refine q_virtualI (show mE (mtv 271) 18 = some (.invokevirtual 175, 3, 220, 9) from rfl) (by decide) rfl rfl rfl (fun _ => ?_)
                      have hl80 : qLs (lv_args 0 [.ref (85), .int (a3)]) [some (.ref (85)), some (.int (a3))] := qLs_ar 0
                      refine q_iload_n (show mE (mtv 220) 0 = some (.iload_n 1, 1, 0, 0) from rfl) (hl80 1 _ rfl) ?_
                      refine q_iconst (show mE (mtv 220) 1 = some (.iconst 0, 1, 0, 0) from rfl) kI_0 ?_
                      refine q_aload_n (show mE (mtv 220) 2 = some (.aload_n 0, 1, 0, 0) from rfl) (hl80 0 _ rfl) ?_
                      refine q_getI th (show mE (mtv 220) 3 = some (.getfield 117, 3, 9, 35) from rfl) (by decide) rfl ?_
                      have r81 : I 85 35 = I 0 9 := hK.nk.symm
                      rw [r81]; clear r81
                      refine q_iconst (show mE (mtv 220) 6 = some (.iconst 1, 1, 0, 0) from rfl) kI_1 ?_
                      refine q_isub (show mE (mtv 220) 7 = some (.isub, 1, 0, 0) from rfl) ?_
                      refine q_staticP (show mE (mtv 220) 8 = some (.invokestatic 157, 3, 211, 0) from rfl) (by decide) rfl rfl rfl (fun _ g => sp_211 g) ?_
                      refine q_ireturn (show mE (mtv 220) 11 = some (.ireturn, 1, 0, 0) from rfl) ?_
                      refine qK_v ?_
                      refine q_ifb_eq (t := 28) (show mE (mtv 271) 21 = some (.ifCond .eq 7, 3, 0, 0) from rfl) rfl (fun c82 => ?_) (fun c82 => ?_)
                      · exfalso
                        have s83 := hK.bk
                        unfold inR at s83
                        have s84 := i32_sub1 (x := I 0 9) (by omega)
                        have s85 := hK.bd
                        unfold inR at s85
                        simp only [s84, Int32.lt_iff_toInt_lt, Int32.le_iff_toInt_le, ← Int32.toInt_inj, kt_0, kt_1] at c3 c16 c18 c36 c38 c62 c63 c64 c82
                        first | omega | contradiction
                      · clear c82
                        refine q_iconst (show mE (mtv 271) 24 = some (.iconst 1, 1, 0, 0) from rfl) kI_1 ?_
                        refine q_goto (t := 29) (show mE (mtv 271) 25 = some (.goto 4, 3, 0, 0) from rfl) rfl ?_
                        refine q_istore (show mE (mtv 271) 29 = some (.istore 4, 2, 0, 0) from rfl) (Nat.le_of_ble_eq_true rfl) hl67 (fun lv86 (hl87 : qLs lv86 [some (.ref (85)), some (.int (a1)), some (.int (a2)), some (.int (a3)), some (.int ((1 : Int32))), none, none]) => ?_)
                        refine q_aload_n (show mE (mtv 271) 31 = some (.aload_n 0, 1, 0, 0) from rfl) (hl87 0 _ rfl) ?_
                        refine q_iload (show mE (mtv 271) 32 = some (.iload 4, 2, 0, 0) from rfl) (hl87 4 _ rfl) ?_
                        refine q_ift (t := 41) (show mE (mtv 271) 34 = some (.ifCond .ne 7, 3, 0, 0) from rfl) (by decide) rfl ?_
                        refine q_iload_n (show mE (mtv 271) 41 = some (.iload_n 1, 1, 0, 0) from rfl) (hl87 1 _ rfl) ?_
                        refine q_iload_n (show mE (mtv 271) 42 = some (.iload_n 2, 1, 0, 0) from rfl) (hl87 2 _ rfl) ?_
                        refine q_ic_ne (t := 50) (show mE (mtv 271) 43 = some (.if_icmp .ne 7, 3, 0, 0) from rfl) rfl (fun c88 => ?_) (fun c88 => ?_)
                        · clear c88
                          refine q_iload_n (show mE (mtv 271) 50 = some (.iload_n 3, 1, 0, 0) from rfl) (hl87 3 _ rfl) ?_
                          refine q_aload_n (show mE (mtv 271) 51 = some (.aload_n 0, 1, 0, 0) from rfl) (hl87 0 _ rfl) ?_
                          refine q_getI th (show mE (mtv 271) 52 = some (.getfield 144, 3, 9, 44) from rfl) (by decide) rfl ?_
                          have r89 : I 85 44 = I 0 17 := hK.ct.symm
                          rw [r89]; clear r89
                          refine q_ic_ne (t := 67) (show mE (mtv 271) 55 = some (.if_icmp .ne 12, 3, 0, 0) from rfl) rfl (fun c90 => ?_) (fun c90 => ?_)
                          · clear c90
                            refine q_iconst (show mE (mtv 271) 67 = some (.iconst 3, 1, 0, 0) from rfl) kI_3 ?_
                            refine q_goto (t := 72) (show mE (mtv 271) 68 = some (.goto 4, 3, 0, 0) from rfl) rfl ?_
                            refine q_putI th (show mE (mtv 271) 72 = some (.putfield 138, 3, 9, 42) from rfl) (by decide) rfl (fun h91 t92 => ?_)
                            refine q_aload_n (show mE (mtv 271) 75 = some (.aload_n 0, 1, 0, 0) from rfl) (hl87 0 _ rfl) ?_
                            refine q_getIe t92 (show mE (mtv 271) 76 = some (.getfield 138, 3, 9, 42) from rfl) (by decide) rfl (upI_s) ?_
                            refine q_iff (t := 84) (show mE (mtv 271) 79 = some (.ifCond .le 5, 3, 0, 0) from rfl) (by decide) rfl ?_
                            refine q_iconst (show mE (mtv 271) 82 = some (.iconst 0, 1, 0, 0) from rfl) kI_0 ?_
                            refine q_ireturn (show mE (mtv 271) 83 = some (.ireturn, 1, 0, 0) from rfl) ?_
                            exact ⟨(3 : Int32), (0 : Int32), _, _, _, rfl, rfl, t92, upI_s, (fun e => absurd e (by decide)), (RK_t (3 : Int32) hK)⟩
                          · exact absurd c90 c64
                        · exact absurd c88 c63
                · refine q_aload_n (show mE (mtv 143) 39 = some (.aload_n 0, 1, 0, 0) from rfl) (hl1 0 _ rfl) ?_
                  refine q_getR (m := 12) th (show mE (mtv 143) 40 = some (.getfield 25, 3, 8, 2) from rfl) (by decide) rfl rfl ?_
                  refine q_iload_n (show mE (mtv 143) 43 = some (.iload_n 3, 1, 0, 0) from rfl) (hl1 3 _ rfl) ?_
                  refine q_aaload (n := 16) (t := 4) (m := 19) th (show mE (mtv 143) 44 = some (.aaload, 1, 0, 0) from rfl) (by decide) rfl (fun _ _ => rfl) (fun bb93 => ?_)
                  refine q_getB th (show mE (mtv 143) 45 = some (.getfield 238, 3, 3, 2) from rfl) (qB bb93 (by decide)) rfl (fun z94 => ?_)
                  refine q_if_eq (t := 62) (show mE (mtv 143) 48 = some (.ifCond .eq 14, 3, 0, 0) from rfl) rfl (fun c95 => ?_) (fun c95 => ?_)
                  · refine q_aload_n (show mE (mtv 143) 62 = some (.aload_n 0, 1, 0, 0) from rfl) (hl1 0 _ rfl) ?_
                    refine q_getR (m := 13) th (show mE (mtv 143) 63 = some (.getfield 31, 3, 8, 3) from rfl) (by decide) rfl rfl ?_
                    refine q_iload_n (show mE (mtv 143) 66 = some (.iload_n 1, 1, 0, 0) from rfl) (hl1 1 _ rfl) ?_
                    refine q_aaloadD th (show mE (mtv 143) 67 = some (.aaload, 1, 0, 0) from rfl) (fun bb96 d97 d98 => ?_)
                    refine q_astore (show mE (mtv 143) 68 = some (.astore 4, 2, 0, 0) from rfl) (Nat.le_of_ble_eq_true rfl) hl1 (fun lv99 (hl100 : qLs lv99 [some (.ref (0)), some (.int (a1)), some (.int (a2)), some (.int (a3)), some (.ref (R (a1).toNatClampNeg))]) => ?_)
                    refine q_aload_n (show mE (mtv 143) 70 = some (.aload_n 0, 1, 0, 0) from rfl) (hl100 0 _ rfl) ?_
                    refine q_getR (m := 13) th (show mE (mtv 143) 71 = some (.getfield 31, 3, 8, 3) from rfl) (by decide) rfl rfl ?_
                    refine q_iload_n (show mE (mtv 143) 74 = some (.iload_n 1, 1, 0, 0) from rfl) (hl100 1 _ rfl) ?_
                    refine q_aload_n (show mE (mtv 143) 75 = some (.aload_n 0, 1, 0, 0) from rfl) (hl100 0 _ rfl) ?_
                    refine q_getR (m := 13) th (show mE (mtv 143) 76 = some (.getfield 31, 3, 8, 3) from rfl) (by decide) rfl rfl ?_
                    refine q_iload_n (show mE (mtv 143) 79 = some (.iload_n 2, 1, 0, 0) from rfl) (hl100 2 _ rfl) ?_
                    refine q_aaloadD th (show mE (mtv 143) 80 = some (.aaload, 1, 0, 0) from rfl) (fun bb101 d102 d103 => ?_)
                    refine q_aastoreD th (show mE (mtv 143) 81 = some (.aastore, 1, 0, 0) from rfl) d102 d103 (fun bb104 h105 t106 => ?_)
                    refine q_aload_n (show mE (mtv 143) 82 = some (.aload_n 0, 1, 0, 0) from rfl) (hl100 0 _ rfl) ?_
                    refine q_getR (m := 13) t106 (show mE (mtv 143) 83 = some (.getfield 31, 3, 8, 3) from rfl) (by decide) rfl rfl ?_
                    refine q_iload_n (show mE (mtv 143) 86 = some (.iload_n 2, 1, 0, 0) from rfl) (hl100 2 _ rfl) ?_
                    refine q_aload (show mE (mtv 143) 87 = some (.aload 4, 2, 0, 0) from rfl) (hl100 4 _ rfl) ?_
                    refine q_aastoreD t106 (show mE (mtv 143) 89 = some (.aastore, 1, 0, 0) from rfl) d97 d98 (fun bb107 h108 t109 => ?_)
                    refine q_aload_n (show mE (mtv 143) 90 = some (.aload_n 0, 1, 0, 0) from rfl) (hl100 0 _ rfl) ?_
                    refine q_getR (m := 13) t109 (show mE (mtv 143) 91 = some (.getfield 31, 3, 8, 3) from rfl) (by decide) rfl rfl ?_
                    refine q_iload_n (show mE (mtv 143) 94 = some (.iload_n 1, 1, 0, 0) from rfl) (hl100 1 _ rfl) ?_
                    refine q_aaloadD t109 (show mE (mtv 143) 95 = some (.aaload, 1, 0, 0) from rfl) (fun bb110 d111 d112 => ?_)
                    refine q_getI t109 (show mE (mtv 143) 96 = some (.getfield 185, 3, 1, 1) from rfl) (Nat.lt_of_le_of_lt d112 (by decide)) rfl ?_
                    refine q_staticP (show mE (mtv 143) 99 = some (.invokestatic 192, 3, 68, 0) from rfl) (by decide) rfl rfl rfl (fun _ g => sp_68 g) ?_
                    refine q_ireturn (show mE (mtv 143) 102 = some (.ireturn, 1, 0, 0) from rfl) ?_
                    refine qKh_v ?_
                    refine q_i2l (show mE (mtv 142) 10 = some (.i2l, 1, 0, 0) from rfl) ?_
                    refine q_lastore (n := 1) t109 (show mE (mtv 142) 11 = some (.lastore, 1, 0, 0) from rfl) (by decide) rfl (fun bb113 h114 t115 => ?_)
                    refine q_goto (t := 27) (show mE (mtv 142) 12 = some (.goto 15, 3, 0, 0) from rfl) rfl ?_
                    refine q_iconst (show mE (mtv 142) 27 = some (.iconst 0, 1, 0, 0) from rfl) kI_0 ?_
                    refine q_ireturn (show mE (mtv 142) 28 = some (.ireturn, 1, 0, 0) from rfl) ?_
                    intro r116 g117
                    have g117 : qGo 271 [.ref (85), .int (a1), .int (a2), .int (a3)] h114 r116 := g117
                    refine qGo_w (Q := fun r2 => opE (.inl (some (.int ((0 : Int32))))) r2.1 r2.2 RK) g117 (fun _ => ?_)
                    have hl118 : qLs (lv_args 0 [.ref (85), .int (a1), .int (a2), .int (a3)]) [some (.ref (85)), some (.int (a1)), some (.int (a2)), some (.int (a3)), none, none, none] := qLs_ar 3
                    refine q_aload_n (show mE (mtv 271) 0 = some (.aload_n 0, 1, 0, 0) from rfl) (hl118 0 _ rfl) ?_
                    refine q_iload_n (show mE (mtv 271) 1 = some (.iload_n 1, 1, 0, 0) from rfl) (hl118 1 _ rfl) ?_
                    refine q_virtualI (show mE (mtv 271) 2 = some (.invokevirtual 183, 3, 223, 9) from rfl) (by decide) rfl rfl rfl (fun _ => ?_)
                    have hl119 : qLs (lv_args 0 [.ref (85), .int (a1)]) [some (.ref (85)), some (.int (a1))] := qLs_ar 0
                    refine q_iload_n (show mE (mtv 223) 0 = some (.iload_n 1, 1, 0, 0) from rfl) (hl119 1 _ rfl) ?_
                    refine q_iconst (show mE (mtv 223) 1 = some (.iconst 0, 1, 0, 0) from rfl) kI_0 ?_
                    refine q_aload_n (show mE (mtv 223) 2 = some (.aload_n 0, 1, 0, 0) from rfl) (hl119 0 _ rfl) ?_
                    refine q_getI t115 (show mE (mtv 223) 3 = some (.getfield 120, 3, 9, 36) from rfl) (by decide) rfl ?_
                    have r120 : I 85 36 = I 0 10 := hK.nd.symm
                    rw [r120]; clear r120
                    refine q_iconst (show mE (mtv 223) 6 = some (.iconst 1, 1, 0, 0) from rfl) kI_1 ?_
                    refine q_isub (show mE (mtv 223) 7 = some (.isub, 1, 0, 0) from rfl) ?_
                    refine q_staticP (show mE (mtv 223) 8 = some (.invokestatic 157, 3, 211, 0) from rfl) (by decide) rfl rfl rfl (fun _ g => sp_211 g) ?_
                    refine q_ireturn (show mE (mtv 223) 11 = some (.ireturn, 1, 0, 0) from rfl) ?_
                    refine qK_v ?_
                    refine q_ifb_eq (t := 28) (show mE (mtv 271) 5 = some (.ifCond .eq 23, 3, 0, 0) from rfl) rfl (fun c121 => ?_) (fun c121 => ?_)
                    · exfalso
                      have s122 := hK.bk
                      unfold inR at s122
                      have s123 := hK.bd
                      unfold inR at s123
                      have s124 := i32_sub1 (x := I 0 10) (by omega)
                      simp only [s124, Int32.lt_iff_toInt_lt, Int32.le_iff_toInt_le, ← Int32.toInt_inj, kt_0, kt_1] at c3 c16 c18 c36 c38 c62 c63 c64 c95 c121
                      first | omega | contradiction
                    · clear c121
                      refine q_aload_n (show mE (mtv 271) 8 = some (.aload_n 0, 1, 0, 0) from rfl) (hl118 0 _ rfl) ?_
                      refine q_iload_n (show mE (mtv 271) 9 = some (.iload_n 2, 1, 0, 0) from rfl) (hl118 2 _ rfl) ?_
                      refine q_virtualI (show mE (mtv 271) 10 = some (.invokevirtual 183, 3, 223, 9) from rfl) (by decide) rfl rfl rfl (fun _ => ?_)
                      have hl125 : qLs (lv_args 0 [.ref (85), .int (a2)]) [some (.ref (85)), some (.int (a2))] := qLs_ar 0
                      refine q_iload_n (show mE (mtv 223) 0 = some (.iload_n 1, 1, 0, 0) from rfl) (hl125 1 _ rfl) ?_
                      refine q_iconst (show mE (mtv 223) 1 = some (.iconst 0, 1, 0, 0) from rfl) kI_0 ?_
                      refine q_aload_n (show mE (mtv 223) 2 = some (.aload_n 0, 1, 0, 0) from rfl) (hl125 0 _ rfl) ?_
                      refine q_getI t115 (show mE (mtv 223) 3 = some (.getfield 120, 3, 9, 36) from rfl) (by decide) rfl ?_
                      have r126 : I 85 36 = I 0 10 := hK.nd.symm
                      rw [r126]; clear r126
                      refine q_iconst (show mE (mtv 223) 6 = some (.iconst 1, 1, 0, 0) from rfl) kI_1 ?_
                      refine q_isub (show mE (mtv 223) 7 = some (.isub, 1, 0, 0) from rfl) ?_
                      refine q_staticP (show mE (mtv 223) 8 = some (.invokestatic 157, 3, 211, 0) from rfl) (by decide) rfl rfl rfl (fun _ g => sp_211 g) ?_
                      refine q_ireturn (show mE (mtv 223) 11 = some (.ireturn, 1, 0, 0) from rfl) ?_
                      refine qK_v ?_
                      refine q_ifb_eq (t := 28) (show mE (mtv 271) 13 = some (.ifCond .eq 15, 3, 0, 0) from rfl) rfl (fun c127 => ?_) (fun c127 => ?_)
                      · exfalso
                        have s128 := hK.bk
                        unfold inR at s128
                        have s129 := hK.bd
                        unfold inR at s129
                        have s130 := i32_sub1 (x := I 0 10) (by omega)
                        simp only [s130, Int32.lt_iff_toInt_lt, Int32.le_iff_toInt_le, ← Int32.toInt_inj, kt_0, kt_1] at c3 c16 c18 c36 c38 c62 c63 c64 c95 c127
                        first | omega | contradiction
                      · clear c127
                        refine q_aload_n (show mE (mtv 271) 16 = some (.aload_n 0, 1, 0, 0) from rfl) (hl118 0 _ rfl) ?_
                        refine q_iload_n (show mE (mtv 271) 17 = some (.iload_n 3, 1, 0, 0) from rfl) (hl118 3 _ rfl) ?_
                        refine q_virtualI (show mE (mtv 271) 18 = some (.invokevirtual 175, 3, 220, 9) from rfl) (by decide) rfl rfl rfl (fun _ => ?_)
                        have hl131 : qLs (lv_args 0 [.ref (85), .int (a3)]) [some (.ref (85)), some (.int (a3))] := qLs_ar 0
                        refine q_iload_n (show mE (mtv 220) 0 = some (.iload_n 1, 1, 0, 0) from rfl) (hl131 1 _ rfl) ?_
                        refine q_iconst (show mE (mtv 220) 1 = some (.iconst 0, 1, 0, 0) from rfl) kI_0 ?_
                        refine q_aload_n (show mE (mtv 220) 2 = some (.aload_n 0, 1, 0, 0) from rfl) (hl131 0 _ rfl) ?_
                        refine q_getI t115 (show mE (mtv 220) 3 = some (.getfield 117, 3, 9, 35) from rfl) (by decide) rfl ?_
                        have r132 : I 85 35 = I 0 9 := hK.nk.symm
                        rw [r132]; clear r132
                        refine q_iconst (show mE (mtv 220) 6 = some (.iconst 1, 1, 0, 0) from rfl) kI_1 ?_
                        refine q_isub (show mE (mtv 220) 7 = some (.isub, 1, 0, 0) from rfl) ?_
                        refine q_staticP (show mE (mtv 220) 8 = some (.invokestatic 157, 3, 211, 0) from rfl) (by decide) rfl rfl rfl (fun _ g => sp_211 g) ?_
                        refine q_ireturn (show mE (mtv 220) 11 = some (.ireturn, 1, 0, 0) from rfl) ?_
                        refine qK_v ?_
                        refine q_ifb_eq (t := 28) (show mE (mtv 271) 21 = some (.ifCond .eq 7, 3, 0, 0) from rfl) rfl (fun c133 => ?_) (fun c133 => ?_)
                        · exfalso
                          have s134 := hK.bk
                          unfold inR at s134
                          have s135 := i32_sub1 (x := I 0 9) (by omega)
                          have s136 := hK.bd
                          unfold inR at s136
                          simp only [s135, Int32.lt_iff_toInt_lt, Int32.le_iff_toInt_le, ← Int32.toInt_inj, kt_0, kt_1] at c3 c16 c18 c36 c38 c62 c63 c64 c95 c133
                          first | omega | contradiction
                        · clear c133
                          refine q_iconst (show mE (mtv 271) 24 = some (.iconst 1, 1, 0, 0) from rfl) kI_1 ?_
                          refine q_goto (t := 29) (show mE (mtv 271) 25 = some (.goto 4, 3, 0, 0) from rfl) rfl ?_
                          refine q_istore (show mE (mtv 271) 29 = some (.istore 4, 2, 0, 0) from rfl) (Nat.le_of_ble_eq_true rfl) hl118 (fun lv137 (hl138 : qLs lv137 [some (.ref (85)), some (.int (a1)), some (.int (a2)), some (.int (a3)), some (.int ((1 : Int32))), none, none]) => ?_)
                          refine q_aload_n (show mE (mtv 271) 31 = some (.aload_n 0, 1, 0, 0) from rfl) (hl138 0 _ rfl) ?_
                          refine q_iload (show mE (mtv 271) 32 = some (.iload 4, 2, 0, 0) from rfl) (hl138 4 _ rfl) ?_
                          refine q_ift (t := 41) (show mE (mtv 271) 34 = some (.ifCond .ne 7, 3, 0, 0) from rfl) (by decide) rfl ?_
                          refine q_iload_n (show mE (mtv 271) 41 = some (.iload_n 1, 1, 0, 0) from rfl) (hl138 1 _ rfl) ?_
                          refine q_iload_n (show mE (mtv 271) 42 = some (.iload_n 2, 1, 0, 0) from rfl) (hl138 2 _ rfl) ?_
                          refine q_ic_ne (t := 50) (show mE (mtv 271) 43 = some (.if_icmp .ne 7, 3, 0, 0) from rfl) rfl (fun c139 => ?_) (fun c139 => ?_)
                          · clear c139
                            refine q_iload_n (show mE (mtv 271) 50 = some (.iload_n 3, 1, 0, 0) from rfl) (hl138 3 _ rfl) ?_
                            refine q_aload_n (show mE (mtv 271) 51 = some (.aload_n 0, 1, 0, 0) from rfl) (hl138 0 _ rfl) ?_
                            refine q_getI t115 (show mE (mtv 271) 52 = some (.getfield 144, 3, 9, 44) from rfl) (by decide) rfl ?_
                            have r140 : I 85 44 = I 0 17 := hK.ct.symm
                            rw [r140]; clear r140
                            refine q_ic_ne (t := 67) (show mE (mtv 271) 55 = some (.if_icmp .ne 12, 3, 0, 0) from rfl) rfl (fun c141 => ?_) (fun c141 => ?_)
                            · exact absurd c64 c141
                            · clear c141
                              refine q_aload_n (show mE (mtv 271) 58 = some (.aload_n 0, 1, 0, 0) from rfl) (hl138 0 _ rfl) ?_
                              refine q_getR (m := 92) t115 (show mE (mtv 271) 59 = some (.getfield 28, 3, 9, 6) from rfl) (by decide) rfl rfl ?_
                              refine q_iload_n (show mE (mtv 271) 62 = some (.iload_n 3, 1, 0, 0) from rfl) (hl138 3 _ rfl) ?_
                              refine q_baload (n := 16) t115 (show mE (mtv 271) 63 = some (.baload, 1, 0, 0) from rfl) (by decide) rfl (fun bb142 => ?_)
                              have r143 : I 92 ((a3).toNatClampNeg) = I (19 + (a3).toNatClampNeg) 2 := hK.kl _ (sIn_lt bb142)
                              rw [r143]; clear r143
                              refine q_if_eq (t := 71) (show mE (mtv 271) 64 = some (.ifCond .eq 7, 3, 0, 0) from rfl) rfl (fun c144 => ?_) (fun c144 => ?_)
                              · clear c144
                                refine q_iconst (show mE (mtv 271) 71 = some (.iconst 0, 1, 0, 0) from rfl) kI_0 ?_
                                refine q_putI t115 (show mE (mtv 271) 72 = some (.putfield 138, 3, 9, 42) from rfl) (by decide) rfl (fun h145 t146 => ?_)
                                refine q_aload_n (show mE (mtv 271) 75 = some (.aload_n 0, 1, 0, 0) from rfl) (hl138 0 _ rfl) ?_
                                refine q_getIe t146 (show mE (mtv 271) 76 = some (.getfield 138, 3, 9, 42) from rfl) (by decide) rfl (upI_s) ?_
                                refine q_ift (t := 84) (show mE (mtv 271) 79 = some (.ifCond .le 5, 3, 0, 0) from rfl) (by decide) rfl ?_
                                refine q_iconst (show mE (mtv 271) 84 = some (.iconst 0, 1, 0, 0) from rfl) kI_0 ?_
                                refine q_istore (show mE (mtv 271) 85 = some (.istore 5, 2, 0, 0) from rfl) (Nat.le_of_ble_eq_true rfl) hl138 (fun lv147 (hl148 : qLs lv147 [some (.ref (85)), some (.int (a1)), some (.int (a2)), some (.int (a3)), some (.int ((1 : Int32))), some (.int ((0 : Int32))), none]) => ?_)
                                exact p1 c3 c16 c18 c36 c38 c62 c63 c64 bb93 z94 c95 bb96 d97 d98 bb101 d102 d103 d111 d112 bb113 h145 t146 _ lv147 (qLs_wk hl148 (⟨rfl, rfl, rfl, rfl, trivial⟩))
                              · exact absurd c95 c144
                          · exact absurd c139 c63
                  · refine q_throw (show mE (mtv 143) 51 = some (.new 94, 3, 1003, 0) from rfl) (by decide) ?_
                    refine qKh_x (hp := 23) (c := (25, sDr 5 (lv_args 0 [.ref (0), .int (a1), .int (a2), .int (a3), .ref (117)]), [], h)) rfl (by decide) (fun _ _ => rfl) ?_
                    refine q_iconst (show mE (mtv 142) 25 = some (.iconst 3, 1, 0, 0) from rfl) kI_3 ?_
                    refine q_ireturn (show mE (mtv 142) 26 = some (.ireturn, 1, 0, 0) from rfl) ?_
                    intro r149 g150
                    have g150 : qGo 271 [.ref (85), .int (a1), .int (a2), .int (a3)] h r149 := g150
                    refine qGo_w (Q := fun r2 => opE (.inl (some (.int ((3 : Int32))))) r2.1 r2.2 RK) g150 (fun _ => ?_)
                    have hl151 : qLs (lv_args 0 [.ref (85), .int (a1), .int (a2), .int (a3)]) [some (.ref (85)), some (.int (a1)), some (.int (a2)), some (.int (a3)), none, none, none] := qLs_ar 3
                    refine q_aload_n (show mE (mtv 271) 0 = some (.aload_n 0, 1, 0, 0) from rfl) (hl151 0 _ rfl) ?_
                    refine q_iload_n (show mE (mtv 271) 1 = some (.iload_n 1, 1, 0, 0) from rfl) (hl151 1 _ rfl) ?_
                    refine q_virtualI (show mE (mtv 271) 2 = some (.invokevirtual 183, 3, 223, 9) from rfl) (by decide) rfl rfl rfl (fun _ => ?_)
                    have hl152 : qLs (lv_args 0 [.ref (85), .int (a1)]) [some (.ref (85)), some (.int (a1))] := qLs_ar 0
                    refine q_iload_n (show mE (mtv 223) 0 = some (.iload_n 1, 1, 0, 0) from rfl) (hl152 1 _ rfl) ?_
                    refine q_iconst (show mE (mtv 223) 1 = some (.iconst 0, 1, 0, 0) from rfl) kI_0 ?_
                    refine q_aload_n (show mE (mtv 223) 2 = some (.aload_n 0, 1, 0, 0) from rfl) (hl152 0 _ rfl) ?_
                    refine q_getI th (show mE (mtv 223) 3 = some (.getfield 120, 3, 9, 36) from rfl) (by decide) rfl ?_
                    have r153 : I 85 36 = I 0 10 := hK.nd.symm
                    rw [r153]; clear r153
                    refine q_iconst (show mE (mtv 223) 6 = some (.iconst 1, 1, 0, 0) from rfl) kI_1 ?_
                    refine q_isub (show mE (mtv 223) 7 = some (.isub, 1, 0, 0) from rfl) ?_
                    refine q_staticP (show mE (mtv 223) 8 = some (.invokestatic 157, 3, 211, 0) from rfl) (by decide) rfl rfl rfl (fun _ g => sp_211 g) ?_
                    refine q_ireturn (show mE (mtv 223) 11 = some (.ireturn, 1, 0, 0) from rfl) ?_
                    refine qK_v ?_
                    refine q_ifb_eq (t := 28) (show mE (mtv 271) 5 = some (.ifCond .eq 23, 3, 0, 0) from rfl) rfl (fun c154 => ?_) (fun c154 => ?_)
                    · exfalso
                      have s155 := hK.bk
                      unfold inR at s155
                      have s156 := hK.bd
                      unfold inR at s156
                      have s157 := i32_sub1 (x := I 0 10) (by omega)
                      simp only [s157, Int32.lt_iff_toInt_lt, Int32.le_iff_toInt_le, ← Int32.toInt_inj, kt_0, kt_1] at c3 c16 c18 c36 c38 c62 c63 c64 c95 c154
                      first | omega | contradiction
                    · clear c154
                      refine q_aload_n (show mE (mtv 271) 8 = some (.aload_n 0, 1, 0, 0) from rfl) (hl151 0 _ rfl) ?_
                      refine q_iload_n (show mE (mtv 271) 9 = some (.iload_n 2, 1, 0, 0) from rfl) (hl151 2 _ rfl) ?_
                      refine q_virtualI (show mE (mtv 271) 10 = some (.invokevirtual 183, 3, 223, 9) from rfl) (by decide) rfl rfl rfl (fun _ => ?_)
                      have hl158 : qLs (lv_args 0 [.ref (85), .int (a2)]) [some (.ref (85)), some (.int (a2))] := qLs_ar 0
                      refine q_iload_n (show mE (mtv 223) 0 = some (.iload_n 1, 1, 0, 0) from rfl) (hl158 1 _ rfl) ?_
                      refine q_iconst (show mE (mtv 223) 1 = some (.iconst 0, 1, 0, 0) from rfl) kI_0 ?_
                      refine q_aload_n (show mE (mtv 223) 2 = some (.aload_n 0, 1, 0, 0) from rfl) (hl158 0 _ rfl) ?_
                      refine q_getI th (show mE (mtv 223) 3 = some (.getfield 120, 3, 9, 36) from rfl) (by decide) rfl ?_
                      have r159 : I 85 36 = I 0 10 := hK.nd.symm
                      rw [r159]; clear r159
                      refine q_iconst (show mE (mtv 223) 6 = some (.iconst 1, 1, 0, 0) from rfl) kI_1 ?_
                      refine q_isub (show mE (mtv 223) 7 = some (.isub, 1, 0, 0) from rfl) ?_
                      refine q_staticP (show mE (mtv 223) 8 = some (.invokestatic 157, 3, 211, 0) from rfl) (by decide) rfl rfl rfl (fun _ g => sp_211 g) ?_
                      refine q_ireturn (show mE (mtv 223) 11 = some (.ireturn, 1, 0, 0) from rfl) ?_
                      refine qK_v ?_
                      refine q_ifb_eq (t := 28) (show mE (mtv 271) 13 = some (.ifCond .eq 15, 3, 0, 0) from rfl) rfl (fun c160 => ?_) (fun c160 => ?_)
                      · exfalso
                        have s161 := hK.bk
                        unfold inR at s161
                        have s162 := hK.bd
                        unfold inR at s162
                        have s163 := i32_sub1 (x := I 0 10) (by omega)
                        simp only [s163, Int32.lt_iff_toInt_lt, Int32.le_iff_toInt_le, ← Int32.toInt_inj, kt_0, kt_1] at c3 c16 c18 c36 c38 c62 c63 c64 c95 c160
                        first | omega | contradiction
                      · clear c160
                        refine q_aload_n (show mE (mtv 271) 16 = some (.aload_n 0, 1, 0, 0) from rfl) (hl151 0 _ rfl) ?_
                        refine q_iload_n (show mE (mtv 271) 17 = some (.iload_n 3, 1, 0, 0) from rfl) (hl151 3 _ rfl) ?_
                        refine q_virtualI (show mE (mtv 271) 18 = some (.invokevirtual 175, 3, 220, 9) from rfl) (by decide) rfl rfl rfl (fun _ => ?_)
                        have hl164 : qLs (lv_args 0 [.ref (85), .int (a3)]) [some (.ref (85)), some (.int (a3))] := qLs_ar 0
                        refine q_iload_n (show mE (mtv 220) 0 = some (.iload_n 1, 1, 0, 0) from rfl) (hl164 1 _ rfl) ?_
                        refine q_iconst (show mE (mtv 220) 1 = some (.iconst 0, 1, 0, 0) from rfl) kI_0 ?_
                        refine q_aload_n (show mE (mtv 220) 2 = some (.aload_n 0, 1, 0, 0) from rfl) (hl164 0 _ rfl) ?_
                        refine q_getI th (show mE (mtv 220) 3 = some (.getfield 117, 3, 9, 35) from rfl) (by decide) rfl ?_
                        have r165 : I 85 35 = I 0 9 := hK.nk.symm
                        rw [r165]; clear r165
                        refine q_iconst (show mE (mtv 220) 6 = some (.iconst 1, 1, 0, 0) from rfl) kI_1 ?_
                        refine q_isub (show mE (mtv 220) 7 = some (.isub, 1, 0, 0) from rfl) ?_
                        refine q_staticP (show mE (mtv 220) 8 = some (.invokestatic 157, 3, 211, 0) from rfl) (by decide) rfl rfl rfl (fun _ g => sp_211 g) ?_
                        refine q_ireturn (show mE (mtv 220) 11 = some (.ireturn, 1, 0, 0) from rfl) ?_
                        refine qK_v ?_
                        refine q_ifb_eq (t := 28) (show mE (mtv 271) 21 = some (.ifCond .eq 7, 3, 0, 0) from rfl) rfl (fun c166 => ?_) (fun c166 => ?_)
                        · exfalso
                          have s167 := hK.bk
                          unfold inR at s167
                          have s168 := i32_sub1 (x := I 0 9) (by omega)
                          have s169 := hK.bd
                          unfold inR at s169
                          simp only [s168, Int32.lt_iff_toInt_lt, Int32.le_iff_toInt_le, ← Int32.toInt_inj, kt_0, kt_1] at c3 c16 c18 c36 c38 c62 c63 c64 c95 c166
                          first | omega | contradiction
                        · clear c166
                          refine q_iconst (show mE (mtv 271) 24 = some (.iconst 1, 1, 0, 0) from rfl) kI_1 ?_
                          refine q_goto (t := 29) (show mE (mtv 271) 25 = some (.goto 4, 3, 0, 0) from rfl) rfl ?_
                          refine q_istore (show mE (mtv 271) 29 = some (.istore 4, 2, 0, 0) from rfl) (Nat.le_of_ble_eq_true rfl) hl151 (fun lv170 (hl171 : qLs lv170 [some (.ref (85)), some (.int (a1)), some (.int (a2)), some (.int (a3)), some (.int ((1 : Int32))), none, none]) => ?_)
                          refine q_aload_n (show mE (mtv 271) 31 = some (.aload_n 0, 1, 0, 0) from rfl) (hl171 0 _ rfl) ?_
                          refine q_iload (show mE (mtv 271) 32 = some (.iload 4, 2, 0, 0) from rfl) (hl171 4 _ rfl) ?_
                          refine q_ift (t := 41) (show mE (mtv 271) 34 = some (.ifCond .ne 7, 3, 0, 0) from rfl) (by decide) rfl ?_
                          refine q_iload_n (show mE (mtv 271) 41 = some (.iload_n 1, 1, 0, 0) from rfl) (hl171 1 _ rfl) ?_
                          refine q_iload_n (show mE (mtv 271) 42 = some (.iload_n 2, 1, 0, 0) from rfl) (hl171 2 _ rfl) ?_
                          refine q_ic_ne (t := 50) (show mE (mtv 271) 43 = some (.if_icmp .ne 7, 3, 0, 0) from rfl) rfl (fun c172 => ?_) (fun c172 => ?_)
                          · clear c172
                            refine q_iload_n (show mE (mtv 271) 50 = some (.iload_n 3, 1, 0, 0) from rfl) (hl171 3 _ rfl) ?_
                            refine q_aload_n (show mE (mtv 271) 51 = some (.aload_n 0, 1, 0, 0) from rfl) (hl171 0 _ rfl) ?_
                            refine q_getI th (show mE (mtv 271) 52 = some (.getfield 144, 3, 9, 44) from rfl) (by decide) rfl ?_
                            have r173 : I 85 44 = I 0 17 := hK.ct.symm
                            rw [r173]; clear r173
                            refine q_ic_ne (t := 67) (show mE (mtv 271) 55 = some (.if_icmp .ne 12, 3, 0, 0) from rfl) rfl (fun c174 => ?_) (fun c174 => ?_)
                            · exact absurd c64 c174
                            · clear c174
                              refine q_aload_n (show mE (mtv 271) 58 = some (.aload_n 0, 1, 0, 0) from rfl) (hl171 0 _ rfl) ?_
                              refine q_getR (m := 92) th (show mE (mtv 271) 59 = some (.getfield 28, 3, 9, 6) from rfl) (by decide) rfl rfl ?_
                              refine q_iload_n (show mE (mtv 271) 62 = some (.iload_n 3, 1, 0, 0) from rfl) (hl171 3 _ rfl) ?_
                              refine q_baload (n := 16) th (show mE (mtv 271) 63 = some (.baload, 1, 0, 0) from rfl) (by decide) rfl (fun bb175 => ?_)
                              have r176 : I 92 ((a3).toNatClampNeg) = I (19 + (a3).toNatClampNeg) 2 := hK.kl _ (sIn_lt bb175)
                              rw [r176]; clear r176
                              refine q_if_eq (t := 71) (show mE (mtv 271) 64 = some (.ifCond .eq 7, 3, 0, 0) from rfl) rfl (fun c177 => ?_) (fun c177 => ?_)
                              · exact absurd c177 c95
                              · clear c177
                                refine q_iconst (show mE (mtv 271) 67 = some (.iconst 3, 1, 0, 0) from rfl) kI_3 ?_
                                refine q_goto (t := 72) (show mE (mtv 271) 68 = some (.goto 4, 3, 0, 0) from rfl) rfl ?_
                                refine q_putI th (show mE (mtv 271) 72 = some (.putfield 138, 3, 9, 42) from rfl) (by decide) rfl (fun h178 t179 => ?_)
                                refine q_aload_n (show mE (mtv 271) 75 = some (.aload_n 0, 1, 0, 0) from rfl) (hl171 0 _ rfl) ?_
                                refine q_getIe t179 (show mE (mtv 271) 76 = some (.getfield 138, 3, 9, 42) from rfl) (by decide) rfl (upI_s) ?_
                                refine q_iff (t := 84) (show mE (mtv 271) 79 = some (.ifCond .le 5, 3, 0, 0) from rfl) (by decide) rfl ?_
                                refine q_iconst (show mE (mtv 271) 82 = some (.iconst 0, 1, 0, 0) from rfl) kI_0 ?_
                                refine q_ireturn (show mE (mtv 271) 83 = some (.ireturn, 1, 0, 0) from rfl) ?_
                                exact ⟨(3 : Int32), (0 : Int32), _, _, _, rfl, rfl, t179, upI_s, (fun e => absurd e (by decide)), (RK_t (3 : Int32) hK)⟩
                          · exact absurd c172 c63
              · refine q_throw (show mE (mtv 143) 20 = some (.new 81, 3, 1000, 0) from rfl) (by decide) ?_
                refine qKh_x (hp := 19) (c := (21, sDr 5 (lv_args 0 [.ref (0), .int (a1), .int (a2), .int (a3), .ref (117)]), [], h)) rfl (by decide) (fun _ _ => rfl) ?_
                refine q_iconst (show mE (mtv 142) 21 = some (.iconst 2, 1, 0, 0) from rfl) kI_2 ?_
                refine q_ireturn (show mE (mtv 142) 22 = some (.ireturn, 1, 0, 0) from rfl) ?_
                intro r180 g181
                have g181 : qGo 271 [.ref (85), .int (a1), .int (a2), .int (a3)] h r180 := g181
                refine qGo_w (Q := fun r2 => opE (.inl (some (.int ((2 : Int32))))) r2.1 r2.2 RK) g181 (fun _ => ?_)
                have hl182 : qLs (lv_args 0 [.ref (85), .int (a1), .int (a2), .int (a3)]) [some (.ref (85)), some (.int (a1)), some (.int (a2)), some (.int (a3)), none, none, none] := qLs_ar 3
                refine q_aload_n (show mE (mtv 271) 0 = some (.aload_n 0, 1, 0, 0) from rfl) (hl182 0 _ rfl) ?_
                refine q_iload_n (show mE (mtv 271) 1 = some (.iload_n 1, 1, 0, 0) from rfl) (hl182 1 _ rfl) ?_
                refine q_virtualI (show mE (mtv 271) 2 = some (.invokevirtual 183, 3, 223, 9) from rfl) (by decide) rfl rfl rfl (fun _ => ?_)
                have hl183 : qLs (lv_args 0 [.ref (85), .int (a1)]) [some (.ref (85)), some (.int (a1))] := qLs_ar 0
                refine q_iload_n (show mE (mtv 223) 0 = some (.iload_n 1, 1, 0, 0) from rfl) (hl183 1 _ rfl) ?_
                refine q_iconst (show mE (mtv 223) 1 = some (.iconst 0, 1, 0, 0) from rfl) kI_0 ?_
                refine q_aload_n (show mE (mtv 223) 2 = some (.aload_n 0, 1, 0, 0) from rfl) (hl183 0 _ rfl) ?_
                refine q_getI th (show mE (mtv 223) 3 = some (.getfield 120, 3, 9, 36) from rfl) (by decide) rfl ?_
                have r184 : I 85 36 = I 0 10 := hK.nd.symm
                rw [r184]; clear r184
                refine q_iconst (show mE (mtv 223) 6 = some (.iconst 1, 1, 0, 0) from rfl) kI_1 ?_
                refine q_isub (show mE (mtv 223) 7 = some (.isub, 1, 0, 0) from rfl) ?_
                refine q_staticP (show mE (mtv 223) 8 = some (.invokestatic 157, 3, 211, 0) from rfl) (by decide) rfl rfl rfl (fun _ g => sp_211 g) ?_
                refine q_ireturn (show mE (mtv 223) 11 = some (.ireturn, 1, 0, 0) from rfl) ?_
                refine qK_v ?_
                refine q_ifb_eq (t := 28) (show mE (mtv 271) 5 = some (.ifCond .eq 23, 3, 0, 0) from rfl) rfl (fun c185 => ?_) (fun c185 => ?_)
                · exfalso
                  have s186 := hK.bk
                  unfold inR at s186
                  have s187 := hK.bd
                  unfold inR at s187
                  have s188 := i32_sub1 (x := I 0 10) (by omega)
                  simp only [s188, Int32.lt_iff_toInt_lt, Int32.le_iff_toInt_le, ← Int32.toInt_inj, kt_0, kt_1] at c3 c16 c18 c36 c38 c62 c63 c185
                  first | omega | contradiction
                · clear c185
                  refine q_aload_n (show mE (mtv 271) 8 = some (.aload_n 0, 1, 0, 0) from rfl) (hl182 0 _ rfl) ?_
                  refine q_iload_n (show mE (mtv 271) 9 = some (.iload_n 2, 1, 0, 0) from rfl) (hl182 2 _ rfl) ?_
                  refine q_virtualI (show mE (mtv 271) 10 = some (.invokevirtual 183, 3, 223, 9) from rfl) (by decide) rfl rfl rfl (fun _ => ?_)
                  have hl189 : qLs (lv_args 0 [.ref (85), .int (a2)]) [some (.ref (85)), some (.int (a2))] := qLs_ar 0
                  refine q_iload_n (show mE (mtv 223) 0 = some (.iload_n 1, 1, 0, 0) from rfl) (hl189 1 _ rfl) ?_
                  refine q_iconst (show mE (mtv 223) 1 = some (.iconst 0, 1, 0, 0) from rfl) kI_0 ?_
                  refine q_aload_n (show mE (mtv 223) 2 = some (.aload_n 0, 1, 0, 0) from rfl) (hl189 0 _ rfl) ?_
                  refine q_getI th (show mE (mtv 223) 3 = some (.getfield 120, 3, 9, 36) from rfl) (by decide) rfl ?_
                  have r190 : I 85 36 = I 0 10 := hK.nd.symm
                  rw [r190]; clear r190
                  refine q_iconst (show mE (mtv 223) 6 = some (.iconst 1, 1, 0, 0) from rfl) kI_1 ?_
                  refine q_isub (show mE (mtv 223) 7 = some (.isub, 1, 0, 0) from rfl) ?_
                  refine q_staticP (show mE (mtv 223) 8 = some (.invokestatic 157, 3, 211, 0) from rfl) (by decide) rfl rfl rfl (fun _ g => sp_211 g) ?_
                  refine q_ireturn (show mE (mtv 223) 11 = some (.ireturn, 1, 0, 0) from rfl) ?_
                  refine qK_v ?_
                  refine q_ifb_eq (t := 28) (show mE (mtv 271) 13 = some (.ifCond .eq 15, 3, 0, 0) from rfl) rfl (fun c191 => ?_) (fun c191 => ?_)
                  · exfalso
                    have s192 := hK.bk
                    unfold inR at s192
                    have s193 := hK.bd
                    unfold inR at s193
                    have s194 := i32_sub1 (x := I 0 10) (by omega)
                    simp only [s194, Int32.lt_iff_toInt_lt, Int32.le_iff_toInt_le, ← Int32.toInt_inj, kt_0, kt_1] at c3 c16 c18 c36 c38 c62 c63 c191
                    first | omega | contradiction
                  · clear c191
                    refine q_aload_n (show mE (mtv 271) 16 = some (.aload_n 0, 1, 0, 0) from rfl) (hl182 0 _ rfl) ?_
                    refine q_iload_n (show mE (mtv 271) 17 = some (.iload_n 3, 1, 0, 0) from rfl) (hl182 3 _ rfl) ?_
                    refine q_virtualI (show mE (mtv 271) 18 = some (.invokevirtual 175, 3, 220, 9) from rfl) (by decide) rfl rfl rfl (fun _ => ?_)
                    have hl195 : qLs (lv_args 0 [.ref (85), .int (a3)]) [some (.ref (85)), some (.int (a3))] := qLs_ar 0
                    refine q_iload_n (show mE (mtv 220) 0 = some (.iload_n 1, 1, 0, 0) from rfl) (hl195 1 _ rfl) ?_
                    refine q_iconst (show mE (mtv 220) 1 = some (.iconst 0, 1, 0, 0) from rfl) kI_0 ?_
                    refine q_aload_n (show mE (mtv 220) 2 = some (.aload_n 0, 1, 0, 0) from rfl) (hl195 0 _ rfl) ?_
                    refine q_getI th (show mE (mtv 220) 3 = some (.getfield 117, 3, 9, 35) from rfl) (by decide) rfl ?_
                    have r196 : I 85 35 = I 0 9 := hK.nk.symm
                    rw [r196]; clear r196
                    refine q_iconst (show mE (mtv 220) 6 = some (.iconst 1, 1, 0, 0) from rfl) kI_1 ?_
                    refine q_isub (show mE (mtv 220) 7 = some (.isub, 1, 0, 0) from rfl) ?_
                    refine q_staticP (show mE (mtv 220) 8 = some (.invokestatic 157, 3, 211, 0) from rfl) (by decide) rfl rfl rfl (fun _ g => sp_211 g) ?_
                    refine q_ireturn (show mE (mtv 220) 11 = some (.ireturn, 1, 0, 0) from rfl) ?_
                    refine qK_v ?_
                    refine q_ifb_eq (t := 28) (show mE (mtv 271) 21 = some (.ifCond .eq 7, 3, 0, 0) from rfl) rfl (fun c197 => ?_) (fun c197 => ?_)
                    · exfalso
                      have s198 := hK.bk
                      unfold inR at s198
                      have s199 := i32_sub1 (x := I 0 9) (by omega)
                      have s200 := hK.bd
                      unfold inR at s200
                      simp only [s199, Int32.lt_iff_toInt_lt, Int32.le_iff_toInt_le, ← Int32.toInt_inj, kt_0, kt_1] at c3 c16 c18 c36 c38 c62 c63 c197
                      first | omega | contradiction
                    · clear c197
                      refine q_iconst (show mE (mtv 271) 24 = some (.iconst 1, 1, 0, 0) from rfl) kI_1 ?_
                      refine q_goto (t := 29) (show mE (mtv 271) 25 = some (.goto 4, 3, 0, 0) from rfl) rfl ?_
                      refine q_istore (show mE (mtv 271) 29 = some (.istore 4, 2, 0, 0) from rfl) (Nat.le_of_ble_eq_true rfl) hl182 (fun lv201 (hl202 : qLs lv201 [some (.ref (85)), some (.int (a1)), some (.int (a2)), some (.int (a3)), some (.int ((1 : Int32))), none, none]) => ?_)
                      refine q_aload_n (show mE (mtv 271) 31 = some (.aload_n 0, 1, 0, 0) from rfl) (hl202 0 _ rfl) ?_
                      refine q_iload (show mE (mtv 271) 32 = some (.iload 4, 2, 0, 0) from rfl) (hl202 4 _ rfl) ?_
                      refine q_ift (t := 41) (show mE (mtv 271) 34 = some (.ifCond .ne 7, 3, 0, 0) from rfl) (by decide) rfl ?_
                      refine q_iload_n (show mE (mtv 271) 41 = some (.iload_n 1, 1, 0, 0) from rfl) (hl202 1 _ rfl) ?_
                      refine q_iload_n (show mE (mtv 271) 42 = some (.iload_n 2, 1, 0, 0) from rfl) (hl202 2 _ rfl) ?_
                      refine q_ic_ne (t := 50) (show mE (mtv 271) 43 = some (.if_icmp .ne 7, 3, 0, 0) from rfl) rfl (fun c203 => ?_) (fun c203 => ?_)
                      · exact absurd c63 c203
                      · clear c203
                        refine q_iconst (show mE (mtv 271) 46 = some (.iconst 2, 1, 0, 0) from rfl) kI_2 ?_
                        refine q_goto (t := 72) (show mE (mtv 271) 47 = some (.goto 25, 3, 0, 0) from rfl) rfl ?_
                        refine q_putI th (show mE (mtv 271) 72 = some (.putfield 138, 3, 9, 42) from rfl) (by decide) rfl (fun h204 t205 => ?_)
                        refine q_aload_n (show mE (mtv 271) 75 = some (.aload_n 0, 1, 0, 0) from rfl) (hl202 0 _ rfl) ?_
                        refine q_getIe t205 (show mE (mtv 271) 76 = some (.getfield 138, 3, 9, 42) from rfl) (by decide) rfl (upI_s) ?_
                        refine q_iff (t := 84) (show mE (mtv 271) 79 = some (.ifCond .le 5, 3, 0, 0) from rfl) (by decide) rfl ?_
                        refine q_iconst (show mE (mtv 271) 82 = some (.iconst 0, 1, 0, 0) from rfl) kI_0 ?_
                        refine q_ireturn (show mE (mtv 271) 83 = some (.ireturn, 1, 0, 0) from rfl) ?_
                        exact ⟨(2 : Int32), (0 : Int32), _, _, _, rfl, rfl, t205, upI_s, (fun e => absurd e (by decide)), (RK_t (2 : Int32) hK)⟩
            · refine q_throw (show mE (mtv 61) 12 = some (.new 338, 3, 1002, 0) from rfl) (by decide) ?_
              refine qK_x ?_
              refine qKh_x (hp := 15) (c := (17, sDr 5 (lv_args 0 [.ref (0), .int (a1), .int (a2), .int (a3), .ref (117)]), [], h)) rfl (by decide) (fun _ _ => rfl) ?_
              refine q_iconst (show mE (mtv 142) 17 = some (.iconst 1, 1, 0, 0) from rfl) kI_1 ?_
              refine q_ireturn (show mE (mtv 142) 18 = some (.ireturn, 1, 0, 0) from rfl) ?_
              intro r206 g207
              have g207 : qGo 271 [.ref (85), .int (a1), .int (a2), .int (a3)] h r206 := g207
              refine qGo_w (Q := fun r2 => opE (.inl (some (.int ((1 : Int32))))) r2.1 r2.2 RK) g207 (fun _ => ?_)
              have hl208 : qLs (lv_args 0 [.ref (85), .int (a1), .int (a2), .int (a3)]) [some (.ref (85)), some (.int (a1)), some (.int (a2)), some (.int (a3)), none, none, none] := qLs_ar 3
              refine q_aload_n (show mE (mtv 271) 0 = some (.aload_n 0, 1, 0, 0) from rfl) (hl208 0 _ rfl) ?_
              refine q_iload_n (show mE (mtv 271) 1 = some (.iload_n 1, 1, 0, 0) from rfl) (hl208 1 _ rfl) ?_
              refine q_virtualI (show mE (mtv 271) 2 = some (.invokevirtual 183, 3, 223, 9) from rfl) (by decide) rfl rfl rfl (fun _ => ?_)
              have hl209 : qLs (lv_args 0 [.ref (85), .int (a1)]) [some (.ref (85)), some (.int (a1))] := qLs_ar 0
              refine q_iload_n (show mE (mtv 223) 0 = some (.iload_n 1, 1, 0, 0) from rfl) (hl209 1 _ rfl) ?_
              refine q_iconst (show mE (mtv 223) 1 = some (.iconst 0, 1, 0, 0) from rfl) kI_0 ?_
              refine q_aload_n (show mE (mtv 223) 2 = some (.aload_n 0, 1, 0, 0) from rfl) (hl209 0 _ rfl) ?_
              refine q_getI th (show mE (mtv 223) 3 = some (.getfield 120, 3, 9, 36) from rfl) (by decide) rfl ?_
              have r210 : I 85 36 = I 0 10 := hK.nd.symm
              rw [r210]; clear r210
              refine q_iconst (show mE (mtv 223) 6 = some (.iconst 1, 1, 0, 0) from rfl) kI_1 ?_
              refine q_isub (show mE (mtv 223) 7 = some (.isub, 1, 0, 0) from rfl) ?_
              refine q_staticP (show mE (mtv 223) 8 = some (.invokestatic 157, 3, 211, 0) from rfl) (by decide) rfl rfl rfl (fun _ g => sp_211 g) ?_
              refine q_ireturn (show mE (mtv 223) 11 = some (.ireturn, 1, 0, 0) from rfl) ?_
              refine qK_v ?_
              refine q_ifb_eq (t := 28) (show mE (mtv 271) 5 = some (.ifCond .eq 23, 3, 0, 0) from rfl) rfl (fun c211 => ?_) (fun c211 => ?_)
              · exfalso
                have s212 := hK.bk
                unfold inR at s212
                have s213 := hK.bd
                unfold inR at s213
                have s214 := i32_sub1 (x := I 0 10) (by omega)
                simp only [s214, Int32.lt_iff_toInt_lt, Int32.le_iff_toInt_le, ← Int32.toInt_inj, kt_0, kt_1] at c3 c16 c18 c36 c38 c62 c211
                first | omega | contradiction
              · clear c211
                refine q_aload_n (show mE (mtv 271) 8 = some (.aload_n 0, 1, 0, 0) from rfl) (hl208 0 _ rfl) ?_
                refine q_iload_n (show mE (mtv 271) 9 = some (.iload_n 2, 1, 0, 0) from rfl) (hl208 2 _ rfl) ?_
                refine q_virtualI (show mE (mtv 271) 10 = some (.invokevirtual 183, 3, 223, 9) from rfl) (by decide) rfl rfl rfl (fun _ => ?_)
                have hl215 : qLs (lv_args 0 [.ref (85), .int (a2)]) [some (.ref (85)), some (.int (a2))] := qLs_ar 0
                refine q_iload_n (show mE (mtv 223) 0 = some (.iload_n 1, 1, 0, 0) from rfl) (hl215 1 _ rfl) ?_
                refine q_iconst (show mE (mtv 223) 1 = some (.iconst 0, 1, 0, 0) from rfl) kI_0 ?_
                refine q_aload_n (show mE (mtv 223) 2 = some (.aload_n 0, 1, 0, 0) from rfl) (hl215 0 _ rfl) ?_
                refine q_getI th (show mE (mtv 223) 3 = some (.getfield 120, 3, 9, 36) from rfl) (by decide) rfl ?_
                have r216 : I 85 36 = I 0 10 := hK.nd.symm
                rw [r216]; clear r216
                refine q_iconst (show mE (mtv 223) 6 = some (.iconst 1, 1, 0, 0) from rfl) kI_1 ?_
                refine q_isub (show mE (mtv 223) 7 = some (.isub, 1, 0, 0) from rfl) ?_
                refine q_staticP (show mE (mtv 223) 8 = some (.invokestatic 157, 3, 211, 0) from rfl) (by decide) rfl rfl rfl (fun _ g => sp_211 g) ?_
                refine q_ireturn (show mE (mtv 223) 11 = some (.ireturn, 1, 0, 0) from rfl) ?_
                refine qK_v ?_
                refine q_ifb_eq (t := 28) (show mE (mtv 271) 13 = some (.ifCond .eq 15, 3, 0, 0) from rfl) rfl (fun c217 => ?_) (fun c217 => ?_)
                · exfalso
                  have s218 := hK.bk
                  unfold inR at s218
                  have s219 := hK.bd
                  unfold inR at s219
                  have s220 := i32_sub1 (x := I 0 10) (by omega)
                  simp only [s220, Int32.lt_iff_toInt_lt, Int32.le_iff_toInt_le, ← Int32.toInt_inj, kt_0, kt_1] at c3 c16 c18 c36 c38 c62 c217
                  first | omega | contradiction
                · clear c217
                  refine q_aload_n (show mE (mtv 271) 16 = some (.aload_n 0, 1, 0, 0) from rfl) (hl208 0 _ rfl) ?_
                  refine q_iload_n (show mE (mtv 271) 17 = some (.iload_n 3, 1, 0, 0) from rfl) (hl208 3 _ rfl) ?_
                  refine q_virtualI (show mE (mtv 271) 18 = some (.invokevirtual 175, 3, 220, 9) from rfl) (by decide) rfl rfl rfl (fun _ => ?_)
                  have hl221 : qLs (lv_args 0 [.ref (85), .int (a3)]) [some (.ref (85)), some (.int (a3))] := qLs_ar 0
                  refine q_iload_n (show mE (mtv 220) 0 = some (.iload_n 1, 1, 0, 0) from rfl) (hl221 1 _ rfl) ?_
                  refine q_iconst (show mE (mtv 220) 1 = some (.iconst 0, 1, 0, 0) from rfl) kI_0 ?_
                  refine q_aload_n (show mE (mtv 220) 2 = some (.aload_n 0, 1, 0, 0) from rfl) (hl221 0 _ rfl) ?_
                  refine q_getI th (show mE (mtv 220) 3 = some (.getfield 117, 3, 9, 35) from rfl) (by decide) rfl ?_
                  have r222 : I 85 35 = I 0 9 := hK.nk.symm
                  rw [r222]; clear r222
                  refine q_iconst (show mE (mtv 220) 6 = some (.iconst 1, 1, 0, 0) from rfl) kI_1 ?_
                  refine q_isub (show mE (mtv 220) 7 = some (.isub, 1, 0, 0) from rfl) ?_
                  refine q_staticP (show mE (mtv 220) 8 = some (.invokestatic 157, 3, 211, 0) from rfl) (by decide) rfl rfl rfl (fun _ g => sp_211 g) ?_
                  refine q_ireturn (show mE (mtv 220) 11 = some (.ireturn, 1, 0, 0) from rfl) ?_
                  refine qK_v ?_
                  refine q_ifb_eq (t := 28) (show mE (mtv 271) 21 = some (.ifCond .eq 7, 3, 0, 0) from rfl) rfl (fun c223 => ?_) (fun c223 => ?_)
                  · clear c223
                    refine q_iconst (show mE (mtv 271) 28 = some (.iconst 0, 1, 0, 0) from rfl) kI_0 ?_
                    refine q_istore (show mE (mtv 271) 29 = some (.istore 4, 2, 0, 0) from rfl) (Nat.le_of_ble_eq_true rfl) hl208 (fun lv227 (hl228 : qLs lv227 [some (.ref (85)), some (.int (a1)), some (.int (a2)), some (.int (a3)), some (.int ((0 : Int32))), none, none]) => ?_)
                    refine q_aload_n (show mE (mtv 271) 31 = some (.aload_n 0, 1, 0, 0) from rfl) (hl228 0 _ rfl) ?_
                    refine q_iload (show mE (mtv 271) 32 = some (.iload 4, 2, 0, 0) from rfl) (hl228 4 _ rfl) ?_
                    refine q_iff (t := 41) (show mE (mtv 271) 34 = some (.ifCond .ne 7, 3, 0, 0) from rfl) (by decide) rfl ?_
                    refine q_iconst (show mE (mtv 271) 37 = some (.iconst 1, 1, 0, 0) from rfl) kI_1 ?_
                    refine q_goto (t := 72) (show mE (mtv 271) 38 = some (.goto 34, 3, 0, 0) from rfl) rfl ?_
                    refine q_putI th (show mE (mtv 271) 72 = some (.putfield 138, 3, 9, 42) from rfl) (by decide) rfl (fun h229 t230 => ?_)
                    refine q_aload_n (show mE (mtv 271) 75 = some (.aload_n 0, 1, 0, 0) from rfl) (hl228 0 _ rfl) ?_
                    refine q_getIe t230 (show mE (mtv 271) 76 = some (.getfield 138, 3, 9, 42) from rfl) (by decide) rfl (upI_s) ?_
                    refine q_iff (t := 84) (show mE (mtv 271) 79 = some (.ifCond .le 5, 3, 0, 0) from rfl) (by decide) rfl ?_
                    refine q_iconst (show mE (mtv 271) 82 = some (.iconst 0, 1, 0, 0) from rfl) kI_0 ?_
                    refine q_ireturn (show mE (mtv 271) 83 = some (.ireturn, 1, 0, 0) from rfl) ?_
                    exact ⟨(1 : Int32), (0 : Int32), _, _, _, rfl, rfl, t230, upI_s, (fun e => absurd e (by decide)), (RK_t (1 : Int32) hK)⟩
                  · exfalso
                    have s224 := hK.bk
                    unfold inR at s224
                    have s225 := i32_sub1 (x := I 0 9) (by omega)
                    have s226 := hK.bd
                    unfold inR at s226
                    simp only [s225, Int32.lt_iff_toInt_lt, Int32.le_iff_toInt_le, ← Int32.toInt_inj, kt_0, kt_1] at c3 c16 c18 c36 c38 c62 c223
                    first | omega | contradiction
        · refine q_throw (show mE (mtv 67) 12 = some (.new 338, 3, 1002, 0) from rfl) (by decide) ?_
          refine qK_x ?_
          refine qKh_x (hp := 15) (c := (17, sDr 5 (lv_args 0 [.ref (0), .int (a1), .int (a2), .int (a3), .ref (117)]), [], h)) rfl (by decide) (fun _ _ => rfl) ?_
          refine q_iconst (show mE (mtv 142) 17 = some (.iconst 1, 1, 0, 0) from rfl) kI_1 ?_
          refine q_ireturn (show mE (mtv 142) 18 = some (.ireturn, 1, 0, 0) from rfl) ?_
          intro r231 g232
          have g232 : qGo 271 [.ref (85), .int (a1), .int (a2), .int (a3)] h r231 := g232
          refine qGo_w (Q := fun r2 => opE (.inl (some (.int ((1 : Int32))))) r2.1 r2.2 RK) g232 (fun _ => ?_)
          have hl233 : qLs (lv_args 0 [.ref (85), .int (a1), .int (a2), .int (a3)]) [some (.ref (85)), some (.int (a1)), some (.int (a2)), some (.int (a3)), none, none, none] := qLs_ar 3
          refine q_aload_n (show mE (mtv 271) 0 = some (.aload_n 0, 1, 0, 0) from rfl) (hl233 0 _ rfl) ?_
          refine q_iload_n (show mE (mtv 271) 1 = some (.iload_n 1, 1, 0, 0) from rfl) (hl233 1 _ rfl) ?_
          refine q_virtualI (show mE (mtv 271) 2 = some (.invokevirtual 183, 3, 223, 9) from rfl) (by decide) rfl rfl rfl (fun _ => ?_)
          have hl234 : qLs (lv_args 0 [.ref (85), .int (a1)]) [some (.ref (85)), some (.int (a1))] := qLs_ar 0
          refine q_iload_n (show mE (mtv 223) 0 = some (.iload_n 1, 1, 0, 0) from rfl) (hl234 1 _ rfl) ?_
          refine q_iconst (show mE (mtv 223) 1 = some (.iconst 0, 1, 0, 0) from rfl) kI_0 ?_
          refine q_aload_n (show mE (mtv 223) 2 = some (.aload_n 0, 1, 0, 0) from rfl) (hl234 0 _ rfl) ?_
          refine q_getI th (show mE (mtv 223) 3 = some (.getfield 120, 3, 9, 36) from rfl) (by decide) rfl ?_
          have r235 : I 85 36 = I 0 10 := hK.nd.symm
          rw [r235]; clear r235
          refine q_iconst (show mE (mtv 223) 6 = some (.iconst 1, 1, 0, 0) from rfl) kI_1 ?_
          refine q_isub (show mE (mtv 223) 7 = some (.isub, 1, 0, 0) from rfl) ?_
          refine q_staticP (show mE (mtv 223) 8 = some (.invokestatic 157, 3, 211, 0) from rfl) (by decide) rfl rfl rfl (fun _ g => sp_211 g) ?_
          refine q_ireturn (show mE (mtv 223) 11 = some (.ireturn, 1, 0, 0) from rfl) ?_
          refine qK_v ?_
          refine q_ifb_eq (t := 28) (show mE (mtv 271) 5 = some (.ifCond .eq 23, 3, 0, 0) from rfl) rfl (fun c236 => ?_) (fun c236 => ?_)
          · exfalso
            have s237 := hK.bd
            unfold inR at s237
            have s238 := i32_sub1 (x := I 0 10) (by omega)
            simp only [s238, Int32.lt_iff_toInt_lt, Int32.le_iff_toInt_le, ← Int32.toInt_inj, kt_0, kt_1] at c3 c16 c18 c36 c236
            first | omega | contradiction
          · clear c236
            refine q_aload_n (show mE (mtv 271) 8 = some (.aload_n 0, 1, 0, 0) from rfl) (hl233 0 _ rfl) ?_
            refine q_iload_n (show mE (mtv 271) 9 = some (.iload_n 2, 1, 0, 0) from rfl) (hl233 2 _ rfl) ?_
            refine q_virtualI (show mE (mtv 271) 10 = some (.invokevirtual 183, 3, 223, 9) from rfl) (by decide) rfl rfl rfl (fun _ => ?_)
            have hl239 : qLs (lv_args 0 [.ref (85), .int (a2)]) [some (.ref (85)), some (.int (a2))] := qLs_ar 0
            refine q_iload_n (show mE (mtv 223) 0 = some (.iload_n 1, 1, 0, 0) from rfl) (hl239 1 _ rfl) ?_
            refine q_iconst (show mE (mtv 223) 1 = some (.iconst 0, 1, 0, 0) from rfl) kI_0 ?_
            refine q_aload_n (show mE (mtv 223) 2 = some (.aload_n 0, 1, 0, 0) from rfl) (hl239 0 _ rfl) ?_
            refine q_getI th (show mE (mtv 223) 3 = some (.getfield 120, 3, 9, 36) from rfl) (by decide) rfl ?_
            have r240 : I 85 36 = I 0 10 := hK.nd.symm
            rw [r240]; clear r240
            refine q_iconst (show mE (mtv 223) 6 = some (.iconst 1, 1, 0, 0) from rfl) kI_1 ?_
            refine q_isub (show mE (mtv 223) 7 = some (.isub, 1, 0, 0) from rfl) ?_
            refine q_staticP (show mE (mtv 223) 8 = some (.invokestatic 157, 3, 211, 0) from rfl) (by decide) rfl rfl rfl (fun _ g => sp_211 g) ?_
            refine q_ireturn (show mE (mtv 223) 11 = some (.ireturn, 1, 0, 0) from rfl) ?_
            refine qK_v ?_
            refine q_ifb_eq (t := 28) (show mE (mtv 271) 13 = some (.ifCond .eq 15, 3, 0, 0) from rfl) rfl (fun c241 => ?_) (fun c241 => ?_)
            · clear c241
              refine q_iconst (show mE (mtv 271) 28 = some (.iconst 0, 1, 0, 0) from rfl) kI_0 ?_
              refine q_istore (show mE (mtv 271) 29 = some (.istore 4, 2, 0, 0) from rfl) (Nat.le_of_ble_eq_true rfl) hl233 (fun lv244 (hl245 : qLs lv244 [some (.ref (85)), some (.int (a1)), some (.int (a2)), some (.int (a3)), some (.int ((0 : Int32))), none, none]) => ?_)
              refine q_aload_n (show mE (mtv 271) 31 = some (.aload_n 0, 1, 0, 0) from rfl) (hl245 0 _ rfl) ?_
              refine q_iload (show mE (mtv 271) 32 = some (.iload 4, 2, 0, 0) from rfl) (hl245 4 _ rfl) ?_
              refine q_iff (t := 41) (show mE (mtv 271) 34 = some (.ifCond .ne 7, 3, 0, 0) from rfl) (by decide) rfl ?_
              refine q_iconst (show mE (mtv 271) 37 = some (.iconst 1, 1, 0, 0) from rfl) kI_1 ?_
              refine q_goto (t := 72) (show mE (mtv 271) 38 = some (.goto 34, 3, 0, 0) from rfl) rfl ?_
              refine q_putI th (show mE (mtv 271) 72 = some (.putfield 138, 3, 9, 42) from rfl) (by decide) rfl (fun h246 t247 => ?_)
              refine q_aload_n (show mE (mtv 271) 75 = some (.aload_n 0, 1, 0, 0) from rfl) (hl245 0 _ rfl) ?_
              refine q_getIe t247 (show mE (mtv 271) 76 = some (.getfield 138, 3, 9, 42) from rfl) (by decide) rfl (upI_s) ?_
              refine q_iff (t := 84) (show mE (mtv 271) 79 = some (.ifCond .le 5, 3, 0, 0) from rfl) (by decide) rfl ?_
              refine q_iconst (show mE (mtv 271) 82 = some (.iconst 0, 1, 0, 0) from rfl) kI_0 ?_
              refine q_ireturn (show mE (mtv 271) 83 = some (.ireturn, 1, 0, 0) from rfl) ?_
              exact ⟨(1 : Int32), (0 : Int32), _, _, _, rfl, rfl, t247, upI_s, (fun e => absurd e (by decide)), (RK_t (1 : Int32) hK)⟩
            · exfalso
              have s242 := hK.bd
              unfold inR at s242
              have s243 := i32_sub1 (x := I 0 10) (by omega)
              simp only [s243, Int32.lt_iff_toInt_lt, Int32.le_iff_toInt_le, ← Int32.toInt_inj, kt_0, kt_1] at c3 c16 c18 c36 c241
              first | omega | contradiction
    · refine q_throw (show mE (mtv 67) 12 = some (.new 338, 3, 1002, 0) from rfl) (by decide) ?_
      refine qK_x ?_
      refine qKh_x (hp := 15) (c := (17, sDr 5 (lv_args 0 [.ref (0), .int (a1), .int (a2), .int (a3), .ref (117)]), [], h)) rfl (by decide) (fun _ _ => rfl) ?_
      refine q_iconst (show mE (mtv 142) 17 = some (.iconst 1, 1, 0, 0) from rfl) kI_1 ?_
      refine q_ireturn (show mE (mtv 142) 18 = some (.ireturn, 1, 0, 0) from rfl) ?_
      intro r248 g249
      have g249 : qGo 271 [.ref (85), .int (a1), .int (a2), .int (a3)] h r248 := g249
      refine qGo_w (Q := fun r2 => opE (.inl (some (.int ((1 : Int32))))) r2.1 r2.2 RK) g249 (fun _ => ?_)
      have hl250 : qLs (lv_args 0 [.ref (85), .int (a1), .int (a2), .int (a3)]) [some (.ref (85)), some (.int (a1)), some (.int (a2)), some (.int (a3)), none, none, none] := qLs_ar 3
      refine q_aload_n (show mE (mtv 271) 0 = some (.aload_n 0, 1, 0, 0) from rfl) (hl250 0 _ rfl) ?_
      refine q_iload_n (show mE (mtv 271) 1 = some (.iload_n 1, 1, 0, 0) from rfl) (hl250 1 _ rfl) ?_
      refine q_virtualI (show mE (mtv 271) 2 = some (.invokevirtual 183, 3, 223, 9) from rfl) (by decide) rfl rfl rfl (fun _ => ?_)
      have hl251 : qLs (lv_args 0 [.ref (85), .int (a1)]) [some (.ref (85)), some (.int (a1))] := qLs_ar 0
      refine q_iload_n (show mE (mtv 223) 0 = some (.iload_n 1, 1, 0, 0) from rfl) (hl251 1 _ rfl) ?_
      refine q_iconst (show mE (mtv 223) 1 = some (.iconst 0, 1, 0, 0) from rfl) kI_0 ?_
      refine q_aload_n (show mE (mtv 223) 2 = some (.aload_n 0, 1, 0, 0) from rfl) (hl251 0 _ rfl) ?_
      refine q_getI th (show mE (mtv 223) 3 = some (.getfield 120, 3, 9, 36) from rfl) (by decide) rfl ?_
      have r252 : I 85 36 = I 0 10 := hK.nd.symm
      rw [r252]; clear r252
      refine q_iconst (show mE (mtv 223) 6 = some (.iconst 1, 1, 0, 0) from rfl) kI_1 ?_
      refine q_isub (show mE (mtv 223) 7 = some (.isub, 1, 0, 0) from rfl) ?_
      refine q_staticP (show mE (mtv 223) 8 = some (.invokestatic 157, 3, 211, 0) from rfl) (by decide) rfl rfl rfl (fun _ g => sp_211 g) ?_
      refine q_ireturn (show mE (mtv 223) 11 = some (.ireturn, 1, 0, 0) from rfl) ?_
      refine qK_v ?_
      refine q_ifb_eq (t := 28) (show mE (mtv 271) 5 = some (.ifCond .eq 23, 3, 0, 0) from rfl) rfl (fun c253 => ?_) (fun c253 => ?_)
      · clear c253
        refine q_iconst (show mE (mtv 271) 28 = some (.iconst 0, 1, 0, 0) from rfl) kI_0 ?_
        refine q_istore (show mE (mtv 271) 29 = some (.istore 4, 2, 0, 0) from rfl) (Nat.le_of_ble_eq_true rfl) hl250 (fun lv256 (hl257 : qLs lv256 [some (.ref (85)), some (.int (a1)), some (.int (a2)), some (.int (a3)), some (.int ((0 : Int32))), none, none]) => ?_)
        refine q_aload_n (show mE (mtv 271) 31 = some (.aload_n 0, 1, 0, 0) from rfl) (hl257 0 _ rfl) ?_
        refine q_iload (show mE (mtv 271) 32 = some (.iload 4, 2, 0, 0) from rfl) (hl257 4 _ rfl) ?_
        refine q_iff (t := 41) (show mE (mtv 271) 34 = some (.ifCond .ne 7, 3, 0, 0) from rfl) (by decide) rfl ?_
        refine q_iconst (show mE (mtv 271) 37 = some (.iconst 1, 1, 0, 0) from rfl) kI_1 ?_
        refine q_goto (t := 72) (show mE (mtv 271) 38 = some (.goto 34, 3, 0, 0) from rfl) rfl ?_
        refine q_putI th (show mE (mtv 271) 72 = some (.putfield 138, 3, 9, 42) from rfl) (by decide) rfl (fun h258 t259 => ?_)
        refine q_aload_n (show mE (mtv 271) 75 = some (.aload_n 0, 1, 0, 0) from rfl) (hl257 0 _ rfl) ?_
        refine q_getIe t259 (show mE (mtv 271) 76 = some (.getfield 138, 3, 9, 42) from rfl) (by decide) rfl (upI_s) ?_
        refine q_iff (t := 84) (show mE (mtv 271) 79 = some (.ifCond .le 5, 3, 0, 0) from rfl) (by decide) rfl ?_
        refine q_iconst (show mE (mtv 271) 82 = some (.iconst 0, 1, 0, 0) from rfl) kI_0 ?_
        refine q_ireturn (show mE (mtv 271) 83 = some (.ireturn, 1, 0, 0) from rfl) ?_
        exact ⟨(1 : Int32), (0 : Int32), _, _, _, rfl, rfl, t259, upI_s, (fun e => absurd e (by decide)), (RK_t (1 : Int32) hK)⟩
      · exfalso
        have s254 := hK.bd
        unfold inR at s254
        have s255 := i32_sub1 (x := I 0 10) (by omega)
        simp only [s255, Int32.lt_iff_toInt_lt, Int32.le_iff_toInt_le, ← Int32.toInt_inj, kt_0, kt_1] at c3 c16 c253
        first | omega | contradiction
theorem ok_33 {h : sH} {I : Nat → Nat → Int32} {L : Nat → Nat → Int64} {R : Nat → Nat} (th : qH h I L R) (hK : RK I L R) (hG : RG I) {a1 : Int32} {a2 : Int32} {a3 : Int32} {r : sR} (gW : qGo 142 [.ref (0), .int (a1), .int (a2), .int (a3), .ref (117)] h r) : ∀ r2 : sR, qGo 271 [.ref (85), .int (a1), .int (a2), .int (a3)] r.2 r2 → opE r.1 r2.1 r2.2 RK := qp_33 th hK hG gW
  (fun c3 c16 c18 c36 _ _ _ _ _ _ _ _ _ _ _ _ _ _ _ _ h145 t146 N lv hl => by
    obtain ⟨a, ha, rfl⟩ := hK.gd c3 c16
    obtain ⟨b, hb, rfl⟩ := hK.gd c18 c36
    have hm := hK.mi
    have hdb := hm.db
    have hkb := hm.kb
    rw [ofN_clamp (show a < 2147483648 by omega), ofN_clamp (show b < 2147483648 by omega)] at t146
    have h0 := RK_t 0 hK
    refine qW_mono ?_ (fl_271 N _ _ _ _ lv h145 t146 hl)
    rintro r ⟨n, x, e, h1, rfl, q2⟩
    have s := sem_271 (I := upI I 85 42 (0 : Int32)) (nk := nkI I) (by omega) (by omega) ((upI_ne (by omega)).trans hm.k) hkb n _ 0 x (Nat.zero_le _) (fun k d _ => (if_neg (Nat.not_lt_zero k)).symm) (fun _ _ => rfl) (fun _ _ _ => rfl) e
    have J := RK_exOp (I := upI I 85 42 (0 : Int32)) (v := x.1) (J := x.2) h0 (by rw [ndI_t]; exact ha) (by rw [ndI_t]; exact hb) (by rw [nkI_t]; exact s)
    refine ⟨0, x.1, x.2, _, _, rfl, rfl, q2, (s.2.2.2.2.2 85 42 (by omega)).trans upI_s, fun _ => upL_s.trans (congrArg Int32.toInt64 ?_), RK_L J⟩
    have hr := J.rr a (by omega)
    have w := wish_cnt J (d := a) (by show a < (x.2 85 36).toNatClampNeg; rw [s.2.2.2.2.2 85 36 (by omega), upI_ne (by omega)]; exact ha)
    rw [s.1]
    refine Eq.trans ?_ w
    rw [s.2.2.2.2.2 _ 1 (by omega), upI_ne (by omega)])
set_option maxHeartbeats 4000000 in
theorem qp_35 {h : sH} {I : Nat → Nat → Int32} {L : Nat → Nat → Int64} {R : Nat → Nat} (th : qH h I L R) (hK : RK I L R) (hG : RG I) {a1 : Int32} {a2 : Int32} {a3 : Int32} {r : sR} (gW : qGo 148 [.ref (0), .int (a1), .int (a2), .int (a3), .ref (117)] h r)
    (p1 : ∀ (c3 : (1 : Int32) ≤ a1 ∧ a1 ≤ (10 : Int32)), ∀ (c7 : a1 ≤ 0), ∀ (c8 : ¬ ((0 : Int32) ≤ a2 ∧ a2 ≤ ((0 : Int32) - (1 : Int32)))), ∀ (c12 : (0 : Int32) ≤ a3 ∧ a3 ≤ (a1 - (1 : Int32))), ∀ (c18 : (0 : Int32) ≤ a2 ∧ a2 ≤ (9 : Int32)), ∀ (v28 : Int32), ∀ (j24 : Nat → Nat → Int32), ∀ (e27 : unsP I j24 v28), ∀ (c29 : v28 ≤ ((a2 * a1) + a3)), RK (upI j24 85 42 (2 : Int32)) L R)
    (p2 : ∀ (c3 : (1 : Int32) ≤ a1 ∧ a1 ≤ (10 : Int32)), ∀ (c7 : a1 ≤ 0), ∀ (c8 : ¬ ((0 : Int32) ≤ a2 ∧ a2 ≤ ((0 : Int32) - (1 : Int32)))), ∀ (c12 : (0 : Int32) ≤ a3 ∧ a3 ≤ (a1 - (1 : Int32))), ∀ (c18 : (0 : Int32) ≤ a2 ∧ a2 ≤ (9 : Int32)), ∀ (v28 : Int32), ∀ (j24 : Nat → Nat → Int32), ∀ (e27 : unsP I j24 v28), ∀ (c29 : ¬ v28 ≤ ((a2 * a1) + a3)), ∀ (h38 : sH), ∀ (t39 : qH h38 (upI j24 85 42 (0 : Int32)) L R), ∀ N lv, qLs lv [some (.ref (85)), none, none, none, none, some (.int ((a2 * a1) + a3)), some (.int ((16 : Int32))), none] → qW 273 N 88 lv [] h38 (fun r2 => opE (.inl (some (.int ((2 : Int32))))) r2.1 r2.2 RK))
    (p3 : ∀ (c3 : (1 : Int32) ≤ a1 ∧ a1 ≤ (10 : Int32)), ∀ (c7 : a1 ≤ 0), ∀ (c8 : (0 : Int32) ≤ a2 ∧ a2 ≤ ((0 : Int32) - (1 : Int32))), ∀ (c44 : (0 : Int32) ≤ a3 ∧ a3 ≤ (a1 - (1 : Int32))), ∀ (c47 : ¬ (G_150 I L R (((a2 * a1) + a3)) 0 ((I 0 10)).toNatClampNeg) = (-1 : Int32)), ∀ (bb48 : sIn (0 : Int32) 1 = true), ∀ (c55 : ¬ ((0 : Int32) ≤ a2 ∧ a2 ≤ (9 : Int32))), False)
    (p4 : ∀ (c3 : (1 : Int32) ≤ a1 ∧ a1 ≤ (10 : Int32)), ∀ (c7 : a1 ≤ 0), ∀ (c8 : (0 : Int32) ≤ a2 ∧ a2 ≤ ((0 : Int32) - (1 : Int32))), ∀ (c44 : (0 : Int32) ≤ a3 ∧ a3 ≤ (a1 - (1 : Int32))), ∀ (c47 : ¬ (G_150 I L R (((a2 * a1) + a3)) 0 ((I 0 10)).toNatClampNeg) = (-1 : Int32)), ∀ (bb48 : sIn (0 : Int32) 1 = true), ∀ (c55 : (0 : Int32) ≤ a2 ∧ a2 ≤ (9 : Int32)), ∀ (v65 : Int32), ∀ (j61 : Nat → Nat → Int32), ∀ (e64 : unsP I j61 v65), ∀ (c66 : v65 ≤ ((a2 * a1) + a3)), False)
    (p5 : ∀ (c3 : (1 : Int32) ≤ a1 ∧ a1 ≤ (10 : Int32)), ∀ (c7 : a1 ≤ 0), ∀ (c8 : (0 : Int32) ≤ a2 ∧ a2 ≤ ((0 : Int32) - (1 : Int32))), ∀ (c44 : (0 : Int32) ≤ a3 ∧ a3 ≤ (a1 - (1 : Int32))), ∀ (c47 : ¬ (G_150 I L R (((a2 * a1) + a3)) 0 ((I 0 10)).toNatClampNeg) = (-1 : Int32)), ∀ (bb48 : sIn (0 : Int32) 1 = true), ∀ (c55 : (0 : Int32) ≤ a2 ∧ a2 ≤ (9 : Int32)), ∀ (v65 : Int32), ∀ (j61 : Nat → Nat → Int32), ∀ (e64 : unsP I j61 v65), ∀ (c66 : ¬ v65 ≤ ((a2 * a1) + a3)), ∀ (h75 : sH), ∀ (t76 : qH h75 (upI j61 85 42 (0 : Int32)) (upL L 117 (((0 : Int32)).toNatClampNeg) ((G_150 I L R (((a2 * a1) + a3)) 0 ((I 0 10)).toNatClampNeg).toInt64)) R), ∀ N lv, qLs lv [some (.ref (85)), none, none, none, none, some (.int ((a2 * a1) + a3)), some (.int ((16 : Int32))), none] → qW 273 N 88 lv [] h75 (fun r2 => opE (.inl (some (.int ((0 : Int32))))) r2.1 r2.2 RK))
    (p6 : ∀ (c3 : (1 : Int32) ≤ a1 ∧ a1 ≤ (10 : Int32)), ∀ (c7 : a1 ≤ 0), ∀ (c8 : (0 : Int32) ≤ a2 ∧ a2 ≤ ((0 : Int32) - (1 : Int32))), ∀ (c44 : (0 : Int32) ≤ a3 ∧ a3 ≤ (a1 - (1 : Int32))), ∀ (c47 : (G_150 I L R (((a2 * a1) + a3)) 0 ((I 0 10)).toNatClampNeg) = (-1 : Int32)), ∀ (c85 : (0 : Int32) ≤ a2 ∧ a2 ≤ (9 : Int32)), ∀ (v95 : Int32), ∀ (j91 : Nat → Nat → Int32), ∀ (e94 : unsP I j91 v95), ∀ (c96 : v95 ≤ ((a2 * a1) + a3)), RK (upI j91 85 42 (2 : Int32)) L R)
    (p7 : ∀ (c3 : (1 : Int32) ≤ a1 ∧ a1 ≤ (10 : Int32)), ∀ (c7 : a1 ≤ 0), ∀ (c8 : (0 : Int32) ≤ a2 ∧ a2 ≤ ((0 : Int32) - (1 : Int32))), ∀ (c44 : (0 : Int32) ≤ a3 ∧ a3 ≤ (a1 - (1 : Int32))), ∀ (c47 : (G_150 I L R (((a2 * a1) + a3)) 0 ((I 0 10)).toNatClampNeg) = (-1 : Int32)), ∀ (c85 : (0 : Int32) ≤ a2 ∧ a2 ≤ (9 : Int32)), ∀ (v95 : Int32), ∀ (j91 : Nat → Nat → Int32), ∀ (e94 : unsP I j91 v95), ∀ (c96 : ¬ v95 ≤ ((a2 * a1) + a3)), ∀ (h105 : sH), ∀ (t106 : qH h105 (upI j91 85 42 (0 : Int32)) L R), ∀ N lv, qLs lv [some (.ref (85)), none, none, none, none, some (.int ((a2 * a1) + a3)), some (.int ((16 : Int32))), none] → qW 273 N 88 lv [] h105 (fun r2 => opE (.inl (some (.int ((2 : Int32))))) r2.1 r2.2 RK))
    (p8 : ∀ (c3 : (1 : Int32) ≤ a1 ∧ a1 ≤ (10 : Int32)), ∀ (c7 : ¬ a1 ≤ 0), ∀ (u120 : ¬ a1 = 0), ∀ (c121 : ¬ ((0 : Int32) ≤ a2 ∧ a2 ≤ (((((G_12 I L R 0 ((0 : Int32)) ((I 0 10)).toNatClampNeg) + a1) - (1 : Int32)) / a1) - (1 : Int32)))), ∀ (c125 : (0 : Int32) ≤ a3 ∧ a3 ≤ (a1 - (1 : Int32))), ∀ (c131 : (0 : Int32) ≤ a2 ∧ a2 ≤ (9 : Int32)), ∀ (v141 : Int32), ∀ (j137 : Nat → Nat → Int32), ∀ (e140 : unsP I j137 v141), ∀ (c142 : v141 ≤ ((a2 * a1) + a3)), RK (upI j137 85 42 (2 : Int32)) L R)
    (p9 : ∀ (c3 : (1 : Int32) ≤ a1 ∧ a1 ≤ (10 : Int32)), ∀ (c7 : ¬ a1 ≤ 0), ∀ (u120 : ¬ a1 = 0), ∀ (c121 : ¬ ((0 : Int32) ≤ a2 ∧ a2 ≤ (((((G_12 I L R 0 ((0 : Int32)) ((I 0 10)).toNatClampNeg) + a1) - (1 : Int32)) / a1) - (1 : Int32)))), ∀ (c125 : (0 : Int32) ≤ a3 ∧ a3 ≤ (a1 - (1 : Int32))), ∀ (c131 : (0 : Int32) ≤ a2 ∧ a2 ≤ (9 : Int32)), ∀ (v141 : Int32), ∀ (j137 : Nat → Nat → Int32), ∀ (e140 : unsP I j137 v141), ∀ (c142 : ¬ v141 ≤ ((a2 * a1) + a3)), ∀ (h151 : sH), ∀ (t152 : qH h151 (upI j137 85 42 (0 : Int32)) L R), ∀ N lv, qLs lv [some (.ref (85)), none, none, none, none, some (.int ((a2 * a1) + a3)), some (.int ((16 : Int32))), none] → qW 273 N 88 lv [] h151 (fun r2 => opE (.inl (some (.int ((2 : Int32))))) r2.1 r2.2 RK))
    (p10 : ∀ (c3 : (1 : Int32) ≤ a1 ∧ a1 ≤ (10 : Int32)), ∀ (c7 : ¬ a1 ≤ 0), ∀ (u120 : ¬ a1 = 0), ∀ (c121 : (0 : Int32) ≤ a2 ∧ a2 ≤ (((((G_12 I L R 0 ((0 : Int32)) ((I 0 10)).toNatClampNeg) + a1) - (1 : Int32)) / a1) - (1 : Int32))), ∀ (c157 : (0 : Int32) ≤ a3 ∧ a3 ≤ (a1 - (1 : Int32))), ∀ (c160 : ¬ (G_150 I L R (((a2 * a1) + a3)) 0 ((I 0 10)).toNatClampNeg) = (-1 : Int32)), ∀ (bb161 : sIn (0 : Int32) 1 = true), ∀ (c168 : ¬ ((0 : Int32) ≤ a2 ∧ a2 ≤ (9 : Int32))), False)
    (p11 : ∀ (c3 : (1 : Int32) ≤ a1 ∧ a1 ≤ (10 : Int32)), ∀ (c7 : ¬ a1 ≤ 0), ∀ (u120 : ¬ a1 = 0), ∀ (c121 : (0 : Int32) ≤ a2 ∧ a2 ≤ (((((G_12 I L R 0 ((0 : Int32)) ((I 0 10)).toNatClampNeg) + a1) - (1 : Int32)) / a1) - (1 : Int32))), ∀ (c157 : (0 : Int32) ≤ a3 ∧ a3 ≤ (a1 - (1 : Int32))), ∀ (c160 : ¬ (G_150 I L R (((a2 * a1) + a3)) 0 ((I 0 10)).toNatClampNeg) = (-1 : Int32)), ∀ (bb161 : sIn (0 : Int32) 1 = true), ∀ (c168 : (0 : Int32) ≤ a2 ∧ a2 ≤ (9 : Int32)), ∀ (v178 : Int32), ∀ (j174 : Nat → Nat → Int32), ∀ (e177 : unsP I j174 v178), ∀ (c179 : v178 ≤ ((a2 * a1) + a3)), False)
    (p12 : ∀ (c3 : (1 : Int32) ≤ a1 ∧ a1 ≤ (10 : Int32)), ∀ (c7 : ¬ a1 ≤ 0), ∀ (u120 : ¬ a1 = 0), ∀ (c121 : (0 : Int32) ≤ a2 ∧ a2 ≤ (((((G_12 I L R 0 ((0 : Int32)) ((I 0 10)).toNatClampNeg) + a1) - (1 : Int32)) / a1) - (1 : Int32))), ∀ (c157 : (0 : Int32) ≤ a3 ∧ a3 ≤ (a1 - (1 : Int32))), ∀ (c160 : ¬ (G_150 I L R (((a2 * a1) + a3)) 0 ((I 0 10)).toNatClampNeg) = (-1 : Int32)), ∀ (bb161 : sIn (0 : Int32) 1 = true), ∀ (c168 : (0 : Int32) ≤ a2 ∧ a2 ≤ (9 : Int32)), ∀ (v178 : Int32), ∀ (j174 : Nat → Nat → Int32), ∀ (e177 : unsP I j174 v178), ∀ (c179 : ¬ v178 ≤ ((a2 * a1) + a3)), ∀ (h188 : sH), ∀ (t189 : qH h188 (upI j174 85 42 (0 : Int32)) (upL L 117 (((0 : Int32)).toNatClampNeg) ((G_150 I L R (((a2 * a1) + a3)) 0 ((I 0 10)).toNatClampNeg).toInt64)) R), ∀ N lv, qLs lv [some (.ref (85)), none, none, none, none, some (.int ((a2 * a1) + a3)), some (.int ((16 : Int32))), none] → qW 273 N 88 lv [] h188 (fun r2 => opE (.inl (some (.int ((0 : Int32))))) r2.1 r2.2 RK))
    (p13 : ∀ (c3 : (1 : Int32) ≤ a1 ∧ a1 ≤ (10 : Int32)), ∀ (c7 : ¬ a1 ≤ 0), ∀ (u120 : ¬ a1 = 0), ∀ (c121 : (0 : Int32) ≤ a2 ∧ a2 ≤ (((((G_12 I L R 0 ((0 : Int32)) ((I 0 10)).toNatClampNeg) + a1) - (1 : Int32)) / a1) - (1 : Int32))), ∀ (c157 : (0 : Int32) ≤ a3 ∧ a3 ≤ (a1 - (1 : Int32))), ∀ (c160 : (G_150 I L R (((a2 * a1) + a3)) 0 ((I 0 10)).toNatClampNeg) = (-1 : Int32)), ∀ (c198 : (0 : Int32) ≤ a2 ∧ a2 ≤ (9 : Int32)), ∀ (v208 : Int32), ∀ (j204 : Nat → Nat → Int32), ∀ (e207 : unsP I j204 v208), ∀ (c209 : v208 ≤ ((a2 * a1) + a3)), RK (upI j204 85 42 (2 : Int32)) L R)
    (p14 : ∀ (c3 : (1 : Int32) ≤ a1 ∧ a1 ≤ (10 : Int32)), ∀ (c7 : ¬ a1 ≤ 0), ∀ (u120 : ¬ a1 = 0), ∀ (c121 : (0 : Int32) ≤ a2 ∧ a2 ≤ (((((G_12 I L R 0 ((0 : Int32)) ((I 0 10)).toNatClampNeg) + a1) - (1 : Int32)) / a1) - (1 : Int32))), ∀ (c157 : (0 : Int32) ≤ a3 ∧ a3 ≤ (a1 - (1 : Int32))), ∀ (c160 : (G_150 I L R (((a2 * a1) + a3)) 0 ((I 0 10)).toNatClampNeg) = (-1 : Int32)), ∀ (c198 : (0 : Int32) ≤ a2 ∧ a2 ≤ (9 : Int32)), ∀ (v208 : Int32), ∀ (j204 : Nat → Nat → Int32), ∀ (e207 : unsP I j204 v208), ∀ (c209 : ¬ v208 ≤ ((a2 * a1) + a3)), ∀ (h218 : sH), ∀ (t219 : qH h218 (upI j204 85 42 (0 : Int32)) L R), ∀ N lv, qLs lv [some (.ref (85)), none, none, none, none, some (.int ((a2 * a1) + a3)), some (.int ((16 : Int32))), none] → qW 273 N 88 lv [] h218 (fun r2 => opE (.inl (some (.int ((2 : Int32))))) r2.1 r2.2 RK))
    (p15 : ∀ (c3 : ¬ ((1 : Int32) ≤ a1 ∧ a1 ≤ (10 : Int32))), ∀ (c236 : (0 : Int32) ≤ a3 ∧ a3 ≤ (a1 - (1 : Int32))), ∀ (c242 : (0 : Int32) ≤ a2 ∧ a2 ≤ (9 : Int32)), ∀ (v252 : Int32), ∀ (j248 : Nat → Nat → Int32), ∀ (e251 : unsP I j248 v252), ∀ (c253 : v252 ≤ ((a2 * a1) + a3)), RK (upI j248 85 42 (1 : Int32)) L R)
    (p16 : ∀ (c3 : ¬ ((1 : Int32) ≤ a1 ∧ a1 ≤ (10 : Int32))), ∀ (c236 : (0 : Int32) ≤ a3 ∧ a3 ≤ (a1 - (1 : Int32))), ∀ (c242 : (0 : Int32) ≤ a2 ∧ a2 ≤ (9 : Int32)), ∀ (v252 : Int32), ∀ (j248 : Nat → Nat → Int32), ∀ (e251 : unsP I j248 v252), ∀ (c253 : ¬ v252 ≤ ((a2 * a1) + a3)), RK (upI j248 85 42 (1 : Int32)) L R) : ∀ r2 : sR, qGo 273 [.ref (85), .int (a1), .int (a2), .int (a3)] r.2 r2 → opE r.1 r2.1 r2.2 RK := by
  refine qGo_w (Q := fun r => ∀ r2 : sR, qGo 273 [.ref (85), .int (a1), .int (a2), .int (a3)] r.2 r2 → opE r.1 r2.1 r2.2 RK) gW (fun N => ?_)
  have hl0 : qLs (lv_args 0 [.ref (0), .int (a1), .int (a2), .int (a3), .ref (117)]) [some (.ref (0)), some (.int (a1)), some (.int (a2)), some (.int (a3)), some (.ref (117)), none] := qLs_ar 1
  refine q_aload (show mE (mtv 148) 0 = some (.aload 4, 2, 0, 0) from rfl) (hl0 4 _ rfl) ?_
  refine q_iconst (show mE (mtv 148) 2 = some (.iconst 0, 1, 0, 0) from rfl) kI_0 ?_
  refine q_aload_n (show mE (mtv 148) 3 = some (.aload_n 0, 1, 0, 0) from rfl) (hl0 0 _ rfl) ?_
  refine q_iload_n (show mE (mtv 148) 4 = some (.iload_n 1, 1, 0, 0) from rfl) (hl0 1 _ rfl) ?_
  refine q_iload_n (show mE (mtv 148) 5 = some (.iload_n 2, 1, 0, 0) from rfl) (hl0 2 _ rfl) ?_
  refine q_iload_n (show mE (mtv 148) 6 = some (.iload_n 3, 1, 0, 0) from rfl) (hl0 3 _ rfl) ?_
  refine q_virtualIh (show mE (mtv 148) 7 = some (.invokevirtual 116, 3, 149, 8) from rfl) (by decide) rfl rfl rfl (fun _ => ?_)
  have hl1 : qLs (lv_args 0 [.ref (0), .int (a1), .int (a2), .int (a3)]) [some (.ref (0)), some (.int (a1)), some (.int (a2)), some (.int (a3)), none, none] := qLs_ar 2
  refine q_aload_n (show mE (mtv 149) 0 = some (.aload_n 0, 1, 0, 0) from rfl) (hl1 0 _ rfl) ?_
  refine q_iload_n (show mE (mtv 149) 1 = some (.iload_n 1, 1, 0, 0) from rfl) (hl1 1 _ rfl) ?_
  refine q_virtualI (show mE (mtv 149) 2 = some (.invokevirtual 354, 3, 146, 8) from rfl) (by decide) rfl rfl rfl (fun _ => ?_)
  have hl2 : qLs (lv_args 0 [.ref (0), .int (a1)]) [some (.ref (0)), some (.int (a1))] := qLs_ar 0
  refine q_iload_n (show mE (mtv 146) 0 = some (.iload_n 1, 1, 0, 0) from rfl) (hl2 1 _ rfl) ?_
  refine q_iconst (show mE (mtv 146) 1 = some (.iconst 1, 1, 0, 0) from rfl) kI_1 ?_
  refine q_bipush (show mE (mtv 146) 2 = some (.bipush 10, 2, 0, 0) from rfl) kB_10 ?_
  refine q_staticP (show mE (mtv 146) 4 = some (.invokestatic 77, 3, 47, 0) from rfl) (by decide) rfl rfl rfl (fun _ g => sp_47 g) ?_
  refine q_ifb_ne (t := 21) (show mE (mtv 146) 7 = some (.ifCond .ne 14, 3, 0, 0) from rfl) rfl (fun c3 => ?_) (fun c3 => ?_)
  · refine q_return_ (show mE (mtv 146) 21 = some (.return_, 1, 0, 0) from rfl) ?_
    refine qK_n ?_
    refine q_aload_n (show mE (mtv 149) 5 = some (.aload_n 0, 1, 0, 0) from rfl) (hl1 0 _ rfl) ?_
    refine q_virtualP (show mE (mtv 149) 6 = some (.invokevirtual 246, 3, 12, 8) from rfl) (by decide) rfl rfl rfl (fun _ g => sp_12 th g) ?_
    refine q_istore (show mE (mtv 149) 9 = some (.istore 4, 2, 0, 0) from rfl) (Nat.le_of_ble_eq_true rfl) hl1 (fun lv4 (hl5 : qLs lv4 [some (.ref (0)), some (.int (a1)), some (.int (a2)), some (.int (a3)), some (.int (G_12 I L R 0 ((0 : Int32)) ((I 0 10)).toNatClampNeg)), none]) => ?_)
    refine q_iload_n (show mE (mtv 149) 11 = some (.iload_n 2, 1, 0, 0) from rfl) (hl5 2 _ rfl) ?_
    refine q_iconst (show mE (mtv 149) 12 = some (.iconst 0, 1, 0, 0) from rfl) kI_0 ?_
    refine q_iload_n (show mE (mtv 149) 13 = some (.iload_n 1, 1, 0, 0) from rfl) (hl5 1 _ rfl) ?_
    refine q_iload (show mE (mtv 149) 14 = some (.iload 4, 2, 0, 0) from rfl) (hl5 4 _ rfl) ?_
    refine q_staticI (show mE (mtv 149) 16 = some (.invokestatic 357, 3, 147, 0) from rfl) (by decide) rfl rfl rfl (fun _ => ?_)
    have hl6 : qLs (lv_args 0 [.int (a1), .int (G_12 I L R 0 ((0 : Int32)) ((I 0 10)).toNatClampNeg)]) [some (.int (a1)), some (.int (G_12 I L R 0 ((0 : Int32)) ((I 0 10)).toNatClampNeg))] := qLs_ar 0
    refine q_iload_n (show mE (mtv 147) 0 = some (.iload_n 0, 1, 0, 0) from rfl) (hl6 0 _ rfl) ?_
    refine q_if_le (t := 14) (show mE (mtv 147) 1 = some (.ifCond .le 13, 3, 0, 0) from rfl) rfl (fun c7 => ?_) (fun c7 => ?_)
    · refine q_iconst (show mE (mtv 147) 14 = some (.iconst 0, 1, 0, 0) from rfl) kI_0 ?_
      refine q_ireturn (show mE (mtv 147) 15 = some (.ireturn, 1, 0, 0) from rfl) ?_
      refine qK_v ?_
      refine q_iconst (show mE (mtv 149) 19 = some (.iconst 1, 1, 0, 0) from rfl) kI_1 ?_
      refine q_isub (show mE (mtv 149) 20 = some (.isub, 1, 0, 0) from rfl) ?_
      refine q_staticP (show mE (mtv 149) 21 = some (.invokestatic 77, 3, 47, 0) from rfl) (by decide) rfl rfl rfl (fun _ g => sp_47 g) ?_
      refine q_ifb_eq (t := 38) (show mE (mtv 149) 24 = some (.ifCond .eq 14, 3, 0, 0) from rfl) rfl (fun c8 => ?_) (fun c8 => ?_)
      · refine q_throw (show mE (mtv 149) 38 = some (.new 360, 3, 1004, 0) from rfl) (by decide) ?_
        refine qKh_x (hp := 19) (c := (21, sDr 5 (lv_args 0 [.ref (0), .int (a1), .int (a2), .int (a3), .ref (117)]), [], h)) rfl (by decide) (fun _ _ => rfl) ?_
        refine q_iconst (show mE (mtv 148) 21 = some (.iconst 2, 1, 0, 0) from rfl) kI_2 ?_
        refine q_ireturn (show mE (mtv 148) 22 = some (.ireturn, 1, 0, 0) from rfl) ?_
        intro r9 g10
        have g10 : qGo 273 [.ref (85), .int (a1), .int (a2), .int (a3)] h r9 := g10
        refine qGo_w (Q := fun r2 => opE (.inl (some (.int ((2 : Int32))))) r2.1 r2.2 RK) g10 (fun _ => ?_)
        have hl11 : qLs (lv_args 0 [.ref (85), .int (a1), .int (a2), .int (a3)]) [some (.ref (85)), some (.int (a1)), some (.int (a2)), some (.int (a3)), none, none, none, none] := qLs_ar 4
        refine q_iload_n (show mE (mtv 273) 0 = some (.iload_n 3, 1, 0, 0) from rfl) (hl11 3 _ rfl) ?_
        refine q_iconst (show mE (mtv 273) 1 = some (.iconst 0, 1, 0, 0) from rfl) kI_0 ?_
        refine q_iload_n (show mE (mtv 273) 2 = some (.iload_n 1, 1, 0, 0) from rfl) (hl11 1 _ rfl) ?_
        refine q_iconst (show mE (mtv 273) 3 = some (.iconst 1, 1, 0, 0) from rfl) kI_1 ?_
        refine q_isub (show mE (mtv 273) 4 = some (.isub, 1, 0, 0) from rfl) ?_
        refine q_staticP (show mE (mtv 273) 5 = some (.invokestatic 157, 3, 211, 0) from rfl) (by decide) rfl rfl rfl (fun _ g => sp_211 g) ?_
        refine q_ifb_eq (t := 37) (show mE (mtv 273) 8 = some (.ifCond .eq 29, 3, 0, 0) from rfl) rfl (fun c12 => ?_) (fun c12 => ?_)
        · refine q_iconst (show mE (mtv 273) 37 = some (.iconst 0, 1, 0, 0) from rfl) kI_0 ?_
          refine q_istore (show mE (mtv 273) 38 = some (.istore 4, 2, 0, 0) from rfl) (Nat.le_of_ble_eq_true rfl) hl11 (fun lv13 (hl14 : qLs lv13 [some (.ref (85)), some (.int (a1)), some (.int (a2)), some (.int (a3)), some (.int ((0 : Int32))), none, none, none]) => ?_)
          refine q_aload_n (show mE (mtv 273) 40 = some (.aload_n 0, 1, 0, 0) from rfl) (hl14 0 _ rfl) ?_
          refine q_iload_n (show mE (mtv 273) 41 = some (.iload_n 1, 1, 0, 0) from rfl) (hl14 1 _ rfl) ?_
          refine q_iconst (show mE (mtv 273) 42 = some (.iconst 1, 1, 0, 0) from rfl) kI_1 ?_
          refine q_bipush (show mE (mtv 273) 43 = some (.bipush 10, 2, 0, 0) from rfl) kB_10 ?_
          refine q_staticP (show mE (mtv 273) 45 = some (.invokestatic 157, 3, 211, 0) from rfl) (by decide) rfl rfl rfl (fun _ g => sp_211 g) ?_
          refine q_ifb_ne (t := 55) (show mE (mtv 273) 48 = some (.ifCond .ne 7, 3, 0, 0) from rfl) rfl (fun c15 => ?_) (fun c15 => ?_)
          · clear c15
            refine q_iload (show mE (mtv 273) 55 = some (.iload 4, 2, 0, 0) from rfl) (hl14 4 _ rfl) ?_
            refine q_iff (t := 64) (show mE (mtv 273) 57 = some (.ifCond .ne 7, 3, 0, 0) from rfl) (by decide) rfl ?_
            refine q_iconst (show mE (mtv 273) 60 = some (.iconst 2, 1, 0, 0) from rfl) kI_2 ?_
            refine q_goto (t := 65) (show mE (mtv 273) 61 = some (.goto 4, 3, 0, 0) from rfl) rfl ?_
            refine q_putI th (show mE (mtv 273) 65 = some (.putfield 138, 3, 9, 42) from rfl) (by decide) rfl (fun h16 t17 => ?_)
            refine q_aload_n (show mE (mtv 273) 68 = some (.aload_n 0, 1, 0, 0) from rfl) (hl14 0 _ rfl) ?_
            refine q_getIe t17 (show mE (mtv 273) 69 = some (.getfield 138, 3, 9, 42) from rfl) (by decide) rfl (upI_s) ?_
            refine q_iff (t := 77) (show mE (mtv 273) 72 = some (.ifCond .le 5, 3, 0, 0) from rfl) (by decide) rfl ?_
            refine q_iconst (show mE (mtv 273) 75 = some (.iconst 0, 1, 0, 0) from rfl) kI_0 ?_
            refine q_ireturn (show mE (mtv 273) 76 = some (.ireturn, 1, 0, 0) from rfl) ?_
            exact ⟨(2 : Int32), (0 : Int32), _, _, _, rfl, rfl, t17, upI_s, (fun e => absurd e (by decide)), (RK_t (2 : Int32) hK)⟩
          · exact absurd c3 c15
        · refine q_iload_n (show mE (mtv 273) 11 = some (.iload_n 2, 1, 0, 0) from rfl) (hl11 2 _ rfl) ?_
          refine q_iconst (show mE (mtv 273) 12 = some (.iconst 0, 1, 0, 0) from rfl) kI_0 ?_
          refine q_bipush (show mE (mtv 273) 13 = some (.bipush 9, 2, 0, 0) from rfl) kB_9 ?_
          refine q_staticP (show mE (mtv 273) 15 = some (.invokestatic 157, 3, 211, 0) from rfl) (by decide) rfl rfl rfl (fun _ g => sp_211 g) ?_
          refine q_ifb_eq (t := 37) (show mE (mtv 273) 18 = some (.ifCond .eq 19, 3, 0, 0) from rfl) rfl (fun c18 => ?_) (fun c18 => ?_)
          · refine q_iconst (show mE (mtv 273) 37 = some (.iconst 0, 1, 0, 0) from rfl) kI_0 ?_
            refine q_istore (show mE (mtv 273) 38 = some (.istore 4, 2, 0, 0) from rfl) (Nat.le_of_ble_eq_true rfl) hl11 (fun lv19 (hl20 : qLs lv19 [some (.ref (85)), some (.int (a1)), some (.int (a2)), some (.int (a3)), some (.int ((0 : Int32))), none, none, none]) => ?_)
            refine q_aload_n (show mE (mtv 273) 40 = some (.aload_n 0, 1, 0, 0) from rfl) (hl20 0 _ rfl) ?_
            refine q_iload_n (show mE (mtv 273) 41 = some (.iload_n 1, 1, 0, 0) from rfl) (hl20 1 _ rfl) ?_
            refine q_iconst (show mE (mtv 273) 42 = some (.iconst 1, 1, 0, 0) from rfl) kI_1 ?_
            refine q_bipush (show mE (mtv 273) 43 = some (.bipush 10, 2, 0, 0) from rfl) kB_10 ?_
            refine q_staticP (show mE (mtv 273) 45 = some (.invokestatic 157, 3, 211, 0) from rfl) (by decide) rfl rfl rfl (fun _ g => sp_211 g) ?_
            refine q_ifb_ne (t := 55) (show mE (mtv 273) 48 = some (.ifCond .ne 7, 3, 0, 0) from rfl) rfl (fun c21 => ?_) (fun c21 => ?_)
            · clear c21
              refine q_iload (show mE (mtv 273) 55 = some (.iload 4, 2, 0, 0) from rfl) (hl20 4 _ rfl) ?_
              refine q_iff (t := 64) (show mE (mtv 273) 57 = some (.ifCond .ne 7, 3, 0, 0) from rfl) (by decide) rfl ?_
              refine q_iconst (show mE (mtv 273) 60 = some (.iconst 2, 1, 0, 0) from rfl) kI_2 ?_
              refine q_goto (t := 65) (show mE (mtv 273) 61 = some (.goto 4, 3, 0, 0) from rfl) rfl ?_
              refine q_putI th (show mE (mtv 273) 65 = some (.putfield 138, 3, 9, 42) from rfl) (by decide) rfl (fun h22 t23 => ?_)
              refine q_aload_n (show mE (mtv 273) 68 = some (.aload_n 0, 1, 0, 0) from rfl) (hl20 0 _ rfl) ?_
              refine q_getIe t23 (show mE (mtv 273) 69 = some (.getfield 138, 3, 9, 42) from rfl) (by decide) rfl (upI_s) ?_
              refine q_iff (t := 77) (show mE (mtv 273) 72 = some (.ifCond .le 5, 3, 0, 0) from rfl) (by decide) rfl ?_
              refine q_iconst (show mE (mtv 273) 75 = some (.iconst 0, 1, 0, 0) from rfl) kI_0 ?_
              refine q_ireturn (show mE (mtv 273) 76 = some (.ireturn, 1, 0, 0) from rfl) ?_
              exact ⟨(2 : Int32), (0 : Int32), _, _, _, rfl, rfl, t23, upI_s, (fun e => absurd e (by decide)), (RK_t (2 : Int32) hK)⟩
            · exact absurd c3 c21
          · refine q_iload_n (show mE (mtv 273) 21 = some (.iload_n 2, 1, 0, 0) from rfl) (hl11 2 _ rfl) ?_
            refine q_iload_n (show mE (mtv 273) 22 = some (.iload_n 1, 1, 0, 0) from rfl) (hl11 1 _ rfl) ?_
            refine q_imul (show mE (mtv 273) 23 = some (.imul, 1, 0, 0) from rfl) ?_
            refine q_iload_n (show mE (mtv 273) 24 = some (.iload_n 3, 1, 0, 0) from rfl) (hl11 3 _ rfl) ?_
            refine q_iadd (show mE (mtv 273) 25 = some (.iadd, 1, 0, 0) from rfl) ?_
            refine q_aload_n (show mE (mtv 273) 26 = some (.aload_n 0, 1, 0, 0) from rfl) (hl11 0 _ rfl) ?_
            refine q_virtualE (show mE (mtv 273) 27 = some (.invokevirtual 233, 3, 247, 9) from rfl) (by decide) rfl rfl rfl (fun _ g => sp_247 th g) ?_
            rintro _ ⟨v28, j24, h25, rfl, t26, e27⟩
            refine qK_v ?_
            refine q_ic_ge (t := 37) (show mE (mtv 273) 30 = some (.if_icmp .ge 7, 3, 0, 0) from rfl) rfl (fun c29 => ?_) (fun c29 => ?_)
            · refine q_iconst (show mE (mtv 273) 37 = some (.iconst 0, 1, 0, 0) from rfl) kI_0 ?_
              refine q_istore (show mE (mtv 273) 38 = some (.istore 4, 2, 0, 0) from rfl) (Nat.le_of_ble_eq_true rfl) hl11 (fun lv30 (hl31 : qLs lv30 [some (.ref (85)), some (.int (a1)), some (.int (a2)), some (.int (a3)), some (.int ((0 : Int32))), none, none, none]) => ?_)
              refine q_aload_n (show mE (mtv 273) 40 = some (.aload_n 0, 1, 0, 0) from rfl) (hl31 0 _ rfl) ?_
              refine q_iload_n (show mE (mtv 273) 41 = some (.iload_n 1, 1, 0, 0) from rfl) (hl31 1 _ rfl) ?_
              refine q_iconst (show mE (mtv 273) 42 = some (.iconst 1, 1, 0, 0) from rfl) kI_1 ?_
              refine q_bipush (show mE (mtv 273) 43 = some (.bipush 10, 2, 0, 0) from rfl) kB_10 ?_
              refine q_staticP (show mE (mtv 273) 45 = some (.invokestatic 157, 3, 211, 0) from rfl) (by decide) rfl rfl rfl (fun _ g => sp_211 g) ?_
              refine q_ifb_ne (t := 55) (show mE (mtv 273) 48 = some (.ifCond .ne 7, 3, 0, 0) from rfl) rfl (fun c32 => ?_) (fun c32 => ?_)
              · clear c32
                refine q_iload (show mE (mtv 273) 55 = some (.iload 4, 2, 0, 0) from rfl) (hl31 4 _ rfl) ?_
                refine q_iff (t := 64) (show mE (mtv 273) 57 = some (.ifCond .ne 7, 3, 0, 0) from rfl) (by decide) rfl ?_
                refine q_iconst (show mE (mtv 273) 60 = some (.iconst 2, 1, 0, 0) from rfl) kI_2 ?_
                refine q_goto (t := 65) (show mE (mtv 273) 61 = some (.goto 4, 3, 0, 0) from rfl) rfl ?_
                refine q_putI t26 (show mE (mtv 273) 65 = some (.putfield 138, 3, 9, 42) from rfl) (by decide) rfl (fun h33 t34 => ?_)
                refine q_aload_n (show mE (mtv 273) 68 = some (.aload_n 0, 1, 0, 0) from rfl) (hl31 0 _ rfl) ?_
                refine q_getIe t34 (show mE (mtv 273) 69 = some (.getfield 138, 3, 9, 42) from rfl) (by decide) rfl (upI_s) ?_
                refine q_iff (t := 77) (show mE (mtv 273) 72 = some (.ifCond .le 5, 3, 0, 0) from rfl) (by decide) rfl ?_
                refine q_iconst (show mE (mtv 273) 75 = some (.iconst 0, 1, 0, 0) from rfl) kI_0 ?_
                refine q_ireturn (show mE (mtv 273) 76 = some (.ireturn, 1, 0, 0) from rfl) ?_
                exact ⟨(2 : Int32), (0 : Int32), _, _, _, rfl, rfl, t34, upI_s, (fun e => absurd e (by decide)), p1 c3 c7 c8 c12 c18 v28 j24 e27 c29⟩
              · exact absurd c3 c32
            · refine q_iconst (show mE (mtv 273) 33 = some (.iconst 1, 1, 0, 0) from rfl) kI_1 ?_
              refine q_goto (t := 38) (show mE (mtv 273) 34 = some (.goto 4, 3, 0, 0) from rfl) rfl ?_
              refine q_istore (show mE (mtv 273) 38 = some (.istore 4, 2, 0, 0) from rfl) (Nat.le_of_ble_eq_true rfl) hl11 (fun lv35 (hl36 : qLs lv35 [some (.ref (85)), some (.int (a1)), some (.int (a2)), some (.int (a3)), some (.int ((1 : Int32))), none, none, none]) => ?_)
              refine q_aload_n (show mE (mtv 273) 40 = some (.aload_n 0, 1, 0, 0) from rfl) (hl36 0 _ rfl) ?_
              refine q_iload_n (show mE (mtv 273) 41 = some (.iload_n 1, 1, 0, 0) from rfl) (hl36 1 _ rfl) ?_
              refine q_iconst (show mE (mtv 273) 42 = some (.iconst 1, 1, 0, 0) from rfl) kI_1 ?_
              refine q_bipush (show mE (mtv 273) 43 = some (.bipush 10, 2, 0, 0) from rfl) kB_10 ?_
              refine q_staticP (show mE (mtv 273) 45 = some (.invokestatic 157, 3, 211, 0) from rfl) (by decide) rfl rfl rfl (fun _ g => sp_211 g) ?_
              refine q_ifb_ne (t := 55) (show mE (mtv 273) 48 = some (.ifCond .ne 7, 3, 0, 0) from rfl) rfl (fun c37 => ?_) (fun c37 => ?_)
              · clear c37
                refine q_iload (show mE (mtv 273) 55 = some (.iload 4, 2, 0, 0) from rfl) (hl36 4 _ rfl) ?_
                refine q_ift (t := 64) (show mE (mtv 273) 57 = some (.ifCond .ne 7, 3, 0, 0) from rfl) (by decide) rfl ?_
                refine q_iconst (show mE (mtv 273) 64 = some (.iconst 0, 1, 0, 0) from rfl) kI_0 ?_
                refine q_putI t26 (show mE (mtv 273) 65 = some (.putfield 138, 3, 9, 42) from rfl) (by decide) rfl (fun h38 t39 => ?_)
                refine q_aload_n (show mE (mtv 273) 68 = some (.aload_n 0, 1, 0, 0) from rfl) (hl36 0 _ rfl) ?_
                refine q_getIe t39 (show mE (mtv 273) 69 = some (.getfield 138, 3, 9, 42) from rfl) (by decide) rfl (upI_s) ?_
                refine q_ift (t := 77) (show mE (mtv 273) 72 = some (.ifCond .le 5, 3, 0, 0) from rfl) (by decide) rfl ?_
                refine q_iload_n (show mE (mtv 273) 77 = some (.iload_n 2, 1, 0, 0) from rfl) (hl36 2 _ rfl) ?_
                refine q_iload_n (show mE (mtv 273) 78 = some (.iload_n 1, 1, 0, 0) from rfl) (hl36 1 _ rfl) ?_
                refine q_imul (show mE (mtv 273) 79 = some (.imul, 1, 0, 0) from rfl) ?_
                refine q_iload_n (show mE (mtv 273) 80 = some (.iload_n 3, 1, 0, 0) from rfl) (hl36 3 _ rfl) ?_
                refine q_iadd (show mE (mtv 273) 81 = some (.iadd, 1, 0, 0) from rfl) ?_
                refine q_istore (show mE (mtv 273) 82 = some (.istore 5, 2, 0, 0) from rfl) (Nat.le_of_ble_eq_true rfl) hl36 (fun lv40 (hl41 : qLs lv40 [some (.ref (85)), some (.int (a1)), some (.int (a2)), some (.int (a3)), some (.int ((1 : Int32))), some (.int ((a2 * a1) + a3)), none, none]) => ?_)
                refine q_bipush (show mE (mtv 273) 84 = some (.bipush 16, 2, 0, 0) from rfl) kB_16 ?_
                refine q_istore (show mE (mtv 273) 86 = some (.istore 6, 2, 0, 0) from rfl) (Nat.le_of_ble_eq_true rfl) hl41 (fun lv42 (hl43 : qLs lv42 [some (.ref (85)), some (.int (a1)), some (.int (a2)), some (.int (a3)), some (.int ((1 : Int32))), some (.int ((a2 * a1) + a3)), some (.int ((16 : Int32))), none]) => ?_)
                exact p2 c3 c7 c8 c12 c18 v28 j24 e27 c29 h38 t39 _ lv42 (qLs_wk hl43 (⟨rfl, rfl, rfl, trivial⟩))
              · exact absurd c3 c37
      · refine q_iload_n (show mE (mtv 149) 27 = some (.iload_n 3, 1, 0, 0) from rfl) (hl5 3 _ rfl) ?_
        refine q_iconst (show mE (mtv 149) 28 = some (.iconst 0, 1, 0, 0) from rfl) kI_0 ?_
        refine q_iload_n (show mE (mtv 149) 29 = some (.iload_n 1, 1, 0, 0) from rfl) (hl5 1 _ rfl) ?_
        refine q_iconst (show mE (mtv 149) 30 = some (.iconst 1, 1, 0, 0) from rfl) kI_1 ?_
        refine q_isub (show mE (mtv 149) 31 = some (.isub, 1, 0, 0) from rfl) ?_
        refine q_staticP (show mE (mtv 149) 32 = some (.invokestatic 77, 3, 47, 0) from rfl) (by decide) rfl rfl rfl (fun _ g => sp_47 g) ?_
        refine q_ifb_ne (t := 49) (show mE (mtv 149) 35 = some (.ifCond .ne 14, 3, 0, 0) from rfl) rfl (fun c44 => ?_) (fun c44 => ?_)
        · refine q_aload_n (show mE (mtv 149) 49 = some (.aload_n 0, 1, 0, 0) from rfl) (hl5 0 _ rfl) ?_
          refine q_iload_n (show mE (mtv 149) 50 = some (.iload_n 2, 1, 0, 0) from rfl) (hl5 2 _ rfl) ?_
          refine q_iload_n (show mE (mtv 149) 51 = some (.iload_n 1, 1, 0, 0) from rfl) (hl5 1 _ rfl) ?_
          refine q_imul (show mE (mtv 149) 52 = some (.imul, 1, 0, 0) from rfl) ?_
          refine q_iload_n (show mE (mtv 149) 53 = some (.iload_n 3, 1, 0, 0) from rfl) (hl5 3 _ rfl) ?_
          refine q_iadd (show mE (mtv 149) 54 = some (.iadd, 1, 0, 0) from rfl) ?_
          refine q_virtualP (show mE (mtv 149) 55 = some (.invokevirtual 365, 3, 150, 8) from rfl) (by decide) rfl rfl rfl (fun _ g => sp_150 th g) ?_
          refine q_istore (show mE (mtv 149) 58 = some (.istore 5, 2, 0, 0) from rfl) (Nat.le_of_ble_eq_true rfl) hl5 (fun lv45 (hl46 : qLs lv45 [some (.ref (0)), some (.int (a1)), some (.int (a2)), some (.int (a3)), some (.int (G_12 I L R 0 ((0 : Int32)) ((I 0 10)).toNatClampNeg)), some (.int (G_150 I L R (((a2 * a1) + a3)) 0 ((I 0 10)).toNatClampNeg))]) => ?_)
          refine q_iload (show mE (mtv 149) 60 = some (.iload 5, 2, 0, 0) from rfl) (hl46 5 _ rfl) ?_
          refine q_iconst (show mE (mtv 149) 62 = some (.iconst (-1), 1, 0, 0) from rfl) kI_m1 ?_
          refine q_ic_ne (t := 77) (show mE (mtv 149) 63 = some (.if_icmp .ne 14, 3, 0, 0) from rfl) rfl (fun c47 => ?_) (fun c47 => ?_)
          · refine q_iload (show mE (mtv 149) 77 = some (.iload 5, 2, 0, 0) from rfl) (hl46 5 _ rfl) ?_
            refine q_ireturn (show mE (mtv 149) 79 = some (.ireturn, 1, 0, 0) from rfl) ?_
            refine qKh_v ?_
            refine q_i2l (show mE (mtv 148) 10 = some (.i2l, 1, 0, 0) from rfl) ?_
            refine q_lastore (n := 1) th (show mE (mtv 148) 11 = some (.lastore, 1, 0, 0) from rfl) (by decide) rfl (fun bb48 h49 t50 => ?_)
            refine q_goto (t := 23) (show mE (mtv 148) 12 = some (.goto 11, 3, 0, 0) from rfl) rfl ?_
            refine q_iconst (show mE (mtv 148) 23 = some (.iconst 0, 1, 0, 0) from rfl) kI_0 ?_
            refine q_ireturn (show mE (mtv 148) 24 = some (.ireturn, 1, 0, 0) from rfl) ?_
            intro r51 g52
            have g52 : qGo 273 [.ref (85), .int (a1), .int (a2), .int (a3)] h49 r51 := g52
            refine qGo_w (Q := fun r2 => opE (.inl (some (.int ((0 : Int32))))) r2.1 r2.2 RK) g52 (fun _ => ?_)
            have hl53 : qLs (lv_args 0 [.ref (85), .int (a1), .int (a2), .int (a3)]) [some (.ref (85)), some (.int (a1)), some (.int (a2)), some (.int (a3)), none, none, none, none] := qLs_ar 4
            refine q_iload_n (show mE (mtv 273) 0 = some (.iload_n 3, 1, 0, 0) from rfl) (hl53 3 _ rfl) ?_
            refine q_iconst (show mE (mtv 273) 1 = some (.iconst 0, 1, 0, 0) from rfl) kI_0 ?_
            refine q_iload_n (show mE (mtv 273) 2 = some (.iload_n 1, 1, 0, 0) from rfl) (hl53 1 _ rfl) ?_
            refine q_iconst (show mE (mtv 273) 3 = some (.iconst 1, 1, 0, 0) from rfl) kI_1 ?_
            refine q_isub (show mE (mtv 273) 4 = some (.isub, 1, 0, 0) from rfl) ?_
            refine q_staticP (show mE (mtv 273) 5 = some (.invokestatic 157, 3, 211, 0) from rfl) (by decide) rfl rfl rfl (fun _ g => sp_211 g) ?_
            refine q_ifb_eq (t := 37) (show mE (mtv 273) 8 = some (.ifCond .eq 29, 3, 0, 0) from rfl) rfl (fun c54 => ?_) (fun c54 => ?_)
            · exact absurd c44 c54
            · clear c54
              refine q_iload_n (show mE (mtv 273) 11 = some (.iload_n 2, 1, 0, 0) from rfl) (hl53 2 _ rfl) ?_
              refine q_iconst (show mE (mtv 273) 12 = some (.iconst 0, 1, 0, 0) from rfl) kI_0 ?_
              refine q_bipush (show mE (mtv 273) 13 = some (.bipush 9, 2, 0, 0) from rfl) kB_9 ?_
              refine q_staticP (show mE (mtv 273) 15 = some (.invokestatic 157, 3, 211, 0) from rfl) (by decide) rfl rfl rfl (fun _ g => sp_211 g) ?_
              refine q_ifb_eq (t := 37) (show mE (mtv 273) 18 = some (.ifCond .eq 19, 3, 0, 0) from rfl) rfl (fun c55 => ?_) (fun c55 => ?_)
              · refine q_iconst (show mE (mtv 273) 37 = some (.iconst 0, 1, 0, 0) from rfl) kI_0 ?_
                refine q_istore (show mE (mtv 273) 38 = some (.istore 4, 2, 0, 0) from rfl) (Nat.le_of_ble_eq_true rfl) hl53 (fun lv56 (hl57 : qLs lv56 [some (.ref (85)), some (.int (a1)), some (.int (a2)), some (.int (a3)), some (.int ((0 : Int32))), none, none, none]) => ?_)
                refine q_aload_n (show mE (mtv 273) 40 = some (.aload_n 0, 1, 0, 0) from rfl) (hl57 0 _ rfl) ?_
                refine q_iload_n (show mE (mtv 273) 41 = some (.iload_n 1, 1, 0, 0) from rfl) (hl57 1 _ rfl) ?_
                refine q_iconst (show mE (mtv 273) 42 = some (.iconst 1, 1, 0, 0) from rfl) kI_1 ?_
                refine q_bipush (show mE (mtv 273) 43 = some (.bipush 10, 2, 0, 0) from rfl) kB_10 ?_
                refine q_staticP (show mE (mtv 273) 45 = some (.invokestatic 157, 3, 211, 0) from rfl) (by decide) rfl rfl rfl (fun _ g => sp_211 g) ?_
                refine q_ifb_ne (t := 55) (show mE (mtv 273) 48 = some (.ifCond .ne 7, 3, 0, 0) from rfl) rfl (fun c58 => ?_) (fun c58 => ?_)
                · clear c58
                  refine q_iload (show mE (mtv 273) 55 = some (.iload 4, 2, 0, 0) from rfl) (hl57 4 _ rfl) ?_
                  refine q_iff (t := 64) (show mE (mtv 273) 57 = some (.ifCond .ne 7, 3, 0, 0) from rfl) (by decide) rfl ?_
                  refine q_iconst (show mE (mtv 273) 60 = some (.iconst 2, 1, 0, 0) from rfl) kI_2 ?_
                  refine q_goto (t := 65) (show mE (mtv 273) 61 = some (.goto 4, 3, 0, 0) from rfl) rfl ?_
                  refine q_putI t50 (show mE (mtv 273) 65 = some (.putfield 138, 3, 9, 42) from rfl) (by decide) rfl (fun h59 t60 => ?_)
                  refine q_aload_n (show mE (mtv 273) 68 = some (.aload_n 0, 1, 0, 0) from rfl) (hl57 0 _ rfl) ?_
                  refine q_getIe t60 (show mE (mtv 273) 69 = some (.getfield 138, 3, 9, 42) from rfl) (by decide) rfl (upI_s) ?_
                  refine q_iff (t := 77) (show mE (mtv 273) 72 = some (.ifCond .le 5, 3, 0, 0) from rfl) (by decide) rfl ?_
                  refine q_iconst (show mE (mtv 273) 75 = some (.iconst 0, 1, 0, 0) from rfl) kI_0 ?_
                  refine q_ireturn (show mE (mtv 273) 76 = some (.ireturn, 1, 0, 0) from rfl) ?_
                  exact (p3 c3 c7 c8 c44 c47 bb48 c55).elim
                · exact absurd c3 c58
              · refine q_iload_n (show mE (mtv 273) 21 = some (.iload_n 2, 1, 0, 0) from rfl) (hl53 2 _ rfl) ?_
                refine q_iload_n (show mE (mtv 273) 22 = some (.iload_n 1, 1, 0, 0) from rfl) (hl53 1 _ rfl) ?_
                refine q_imul (show mE (mtv 273) 23 = some (.imul, 1, 0, 0) from rfl) ?_
                refine q_iload_n (show mE (mtv 273) 24 = some (.iload_n 3, 1, 0, 0) from rfl) (hl53 3 _ rfl) ?_
                refine q_iadd (show mE (mtv 273) 25 = some (.iadd, 1, 0, 0) from rfl) ?_
                refine q_aload_n (show mE (mtv 273) 26 = some (.aload_n 0, 1, 0, 0) from rfl) (hl53 0 _ rfl) ?_
                refine q_virtualE (show mE (mtv 273) 27 = some (.invokevirtual 233, 3, 247, 9) from rfl) (by decide) rfl rfl rfl (fun _ g => sp_247 t50 g) ?_
                rintro _ ⟨v65, j61, h62, rfl, t63, e64⟩
                refine qK_v ?_
                refine q_ic_ge (t := 37) (show mE (mtv 273) 30 = some (.if_icmp .ge 7, 3, 0, 0) from rfl) rfl (fun c66 => ?_) (fun c66 => ?_)
                · refine q_iconst (show mE (mtv 273) 37 = some (.iconst 0, 1, 0, 0) from rfl) kI_0 ?_
                  refine q_istore (show mE (mtv 273) 38 = some (.istore 4, 2, 0, 0) from rfl) (Nat.le_of_ble_eq_true rfl) hl53 (fun lv67 (hl68 : qLs lv67 [some (.ref (85)), some (.int (a1)), some (.int (a2)), some (.int (a3)), some (.int ((0 : Int32))), none, none, none]) => ?_)
                  refine q_aload_n (show mE (mtv 273) 40 = some (.aload_n 0, 1, 0, 0) from rfl) (hl68 0 _ rfl) ?_
                  refine q_iload_n (show mE (mtv 273) 41 = some (.iload_n 1, 1, 0, 0) from rfl) (hl68 1 _ rfl) ?_
                  refine q_iconst (show mE (mtv 273) 42 = some (.iconst 1, 1, 0, 0) from rfl) kI_1 ?_
                  refine q_bipush (show mE (mtv 273) 43 = some (.bipush 10, 2, 0, 0) from rfl) kB_10 ?_
                  refine q_staticP (show mE (mtv 273) 45 = some (.invokestatic 157, 3, 211, 0) from rfl) (by decide) rfl rfl rfl (fun _ g => sp_211 g) ?_
                  refine q_ifb_ne (t := 55) (show mE (mtv 273) 48 = some (.ifCond .ne 7, 3, 0, 0) from rfl) rfl (fun c69 => ?_) (fun c69 => ?_)
                  · clear c69
                    refine q_iload (show mE (mtv 273) 55 = some (.iload 4, 2, 0, 0) from rfl) (hl68 4 _ rfl) ?_
                    refine q_iff (t := 64) (show mE (mtv 273) 57 = some (.ifCond .ne 7, 3, 0, 0) from rfl) (by decide) rfl ?_
                    refine q_iconst (show mE (mtv 273) 60 = some (.iconst 2, 1, 0, 0) from rfl) kI_2 ?_
                    refine q_goto (t := 65) (show mE (mtv 273) 61 = some (.goto 4, 3, 0, 0) from rfl) rfl ?_
                    refine q_putI t63 (show mE (mtv 273) 65 = some (.putfield 138, 3, 9, 42) from rfl) (by decide) rfl (fun h70 t71 => ?_)
                    refine q_aload_n (show mE (mtv 273) 68 = some (.aload_n 0, 1, 0, 0) from rfl) (hl68 0 _ rfl) ?_
                    refine q_getIe t71 (show mE (mtv 273) 69 = some (.getfield 138, 3, 9, 42) from rfl) (by decide) rfl (upI_s) ?_
                    refine q_iff (t := 77) (show mE (mtv 273) 72 = some (.ifCond .le 5, 3, 0, 0) from rfl) (by decide) rfl ?_
                    refine q_iconst (show mE (mtv 273) 75 = some (.iconst 0, 1, 0, 0) from rfl) kI_0 ?_
                    refine q_ireturn (show mE (mtv 273) 76 = some (.ireturn, 1, 0, 0) from rfl) ?_
                    exact (p4 c3 c7 c8 c44 c47 bb48 c55 v65 j61 e64 c66).elim
                  · exact absurd c3 c69
                · refine q_iconst (show mE (mtv 273) 33 = some (.iconst 1, 1, 0, 0) from rfl) kI_1 ?_
                  refine q_goto (t := 38) (show mE (mtv 273) 34 = some (.goto 4, 3, 0, 0) from rfl) rfl ?_
                  refine q_istore (show mE (mtv 273) 38 = some (.istore 4, 2, 0, 0) from rfl) (Nat.le_of_ble_eq_true rfl) hl53 (fun lv72 (hl73 : qLs lv72 [some (.ref (85)), some (.int (a1)), some (.int (a2)), some (.int (a3)), some (.int ((1 : Int32))), none, none, none]) => ?_)
                  refine q_aload_n (show mE (mtv 273) 40 = some (.aload_n 0, 1, 0, 0) from rfl) (hl73 0 _ rfl) ?_
                  refine q_iload_n (show mE (mtv 273) 41 = some (.iload_n 1, 1, 0, 0) from rfl) (hl73 1 _ rfl) ?_
                  refine q_iconst (show mE (mtv 273) 42 = some (.iconst 1, 1, 0, 0) from rfl) kI_1 ?_
                  refine q_bipush (show mE (mtv 273) 43 = some (.bipush 10, 2, 0, 0) from rfl) kB_10 ?_
                  refine q_staticP (show mE (mtv 273) 45 = some (.invokestatic 157, 3, 211, 0) from rfl) (by decide) rfl rfl rfl (fun _ g => sp_211 g) ?_
                  refine q_ifb_ne (t := 55) (show mE (mtv 273) 48 = some (.ifCond .ne 7, 3, 0, 0) from rfl) rfl (fun c74 => ?_) (fun c74 => ?_)
                  · clear c74
                    refine q_iload (show mE (mtv 273) 55 = some (.iload 4, 2, 0, 0) from rfl) (hl73 4 _ rfl) ?_
                    refine q_ift (t := 64) (show mE (mtv 273) 57 = some (.ifCond .ne 7, 3, 0, 0) from rfl) (by decide) rfl ?_
                    refine q_iconst (show mE (mtv 273) 64 = some (.iconst 0, 1, 0, 0) from rfl) kI_0 ?_
                    refine q_putI t63 (show mE (mtv 273) 65 = some (.putfield 138, 3, 9, 42) from rfl) (by decide) rfl (fun h75 t76 => ?_)
                    refine q_aload_n (show mE (mtv 273) 68 = some (.aload_n 0, 1, 0, 0) from rfl) (hl73 0 _ rfl) ?_
                    refine q_getIe t76 (show mE (mtv 273) 69 = some (.getfield 138, 3, 9, 42) from rfl) (by decide) rfl (upI_s) ?_
                    refine q_ift (t := 77) (show mE (mtv 273) 72 = some (.ifCond .le 5, 3, 0, 0) from rfl) (by decide) rfl ?_
                    refine q_iload_n (show mE (mtv 273) 77 = some (.iload_n 2, 1, 0, 0) from rfl) (hl73 2 _ rfl) ?_
                    refine q_iload_n (show mE (mtv 273) 78 = some (.iload_n 1, 1, 0, 0) from rfl) (hl73 1 _ rfl) ?_
                    refine q_imul (show mE (mtv 273) 79 = some (.imul, 1, 0, 0) from rfl) ?_
                    refine q_iload_n (show mE (mtv 273) 80 = some (.iload_n 3, 1, 0, 0) from rfl) (hl73 3 _ rfl) ?_
                    refine q_iadd (show mE (mtv 273) 81 = some (.iadd, 1, 0, 0) from rfl) ?_
                    refine q_istore (show mE (mtv 273) 82 = some (.istore 5, 2, 0, 0) from rfl) (Nat.le_of_ble_eq_true rfl) hl73 (fun lv77 (hl78 : qLs lv77 [some (.ref (85)), some (.int (a1)), some (.int (a2)), some (.int (a3)), some (.int ((1 : Int32))), some (.int ((a2 * a1) + a3)), none, none]) => ?_)
                    refine q_bipush (show mE (mtv 273) 84 = some (.bipush 16, 2, 0, 0) from rfl) kB_16 ?_
                    refine q_istore (show mE (mtv 273) 86 = some (.istore 6, 2, 0, 0) from rfl) (Nat.le_of_ble_eq_true rfl) hl78 (fun lv79 (hl80 : qLs lv79 [some (.ref (85)), some (.int (a1)), some (.int (a2)), some (.int (a3)), some (.int ((1 : Int32))), some (.int ((a2 * a1) + a3)), some (.int ((16 : Int32))), none]) => ?_)
                    exact p5 c3 c7 c8 c44 c47 bb48 c55 v65 j61 e64 c66 h75 t76 _ lv79 (qLs_wk hl80 (⟨rfl, rfl, rfl, trivial⟩))
                  · exact absurd c3 c74
          · refine q_throw (show mE (mtv 149) 66 = some (.new 360, 3, 1004, 0) from rfl) (by decide) ?_
            refine qKh_x (hp := 19) (c := (21, sDr 5 (lv_args 0 [.ref (0), .int (a1), .int (a2), .int (a3), .ref (117)]), [], h)) rfl (by decide) (fun _ _ => rfl) ?_
            refine q_iconst (show mE (mtv 148) 21 = some (.iconst 2, 1, 0, 0) from rfl) kI_2 ?_
            refine q_ireturn (show mE (mtv 148) 22 = some (.ireturn, 1, 0, 0) from rfl) ?_
            intro r81 g82
            have g82 : qGo 273 [.ref (85), .int (a1), .int (a2), .int (a3)] h r81 := g82
            refine qGo_w (Q := fun r2 => opE (.inl (some (.int ((2 : Int32))))) r2.1 r2.2 RK) g82 (fun _ => ?_)
            have hl83 : qLs (lv_args 0 [.ref (85), .int (a1), .int (a2), .int (a3)]) [some (.ref (85)), some (.int (a1)), some (.int (a2)), some (.int (a3)), none, none, none, none] := qLs_ar 4
            refine q_iload_n (show mE (mtv 273) 0 = some (.iload_n 3, 1, 0, 0) from rfl) (hl83 3 _ rfl) ?_
            refine q_iconst (show mE (mtv 273) 1 = some (.iconst 0, 1, 0, 0) from rfl) kI_0 ?_
            refine q_iload_n (show mE (mtv 273) 2 = some (.iload_n 1, 1, 0, 0) from rfl) (hl83 1 _ rfl) ?_
            refine q_iconst (show mE (mtv 273) 3 = some (.iconst 1, 1, 0, 0) from rfl) kI_1 ?_
            refine q_isub (show mE (mtv 273) 4 = some (.isub, 1, 0, 0) from rfl) ?_
            refine q_staticP (show mE (mtv 273) 5 = some (.invokestatic 157, 3, 211, 0) from rfl) (by decide) rfl rfl rfl (fun _ g => sp_211 g) ?_
            refine q_ifb_eq (t := 37) (show mE (mtv 273) 8 = some (.ifCond .eq 29, 3, 0, 0) from rfl) rfl (fun c84 => ?_) (fun c84 => ?_)
            · exact absurd c44 c84
            · clear c84
              refine q_iload_n (show mE (mtv 273) 11 = some (.iload_n 2, 1, 0, 0) from rfl) (hl83 2 _ rfl) ?_
              refine q_iconst (show mE (mtv 273) 12 = some (.iconst 0, 1, 0, 0) from rfl) kI_0 ?_
              refine q_bipush (show mE (mtv 273) 13 = some (.bipush 9, 2, 0, 0) from rfl) kB_9 ?_
              refine q_staticP (show mE (mtv 273) 15 = some (.invokestatic 157, 3, 211, 0) from rfl) (by decide) rfl rfl rfl (fun _ g => sp_211 g) ?_
              refine q_ifb_eq (t := 37) (show mE (mtv 273) 18 = some (.ifCond .eq 19, 3, 0, 0) from rfl) rfl (fun c85 => ?_) (fun c85 => ?_)
              · refine q_iconst (show mE (mtv 273) 37 = some (.iconst 0, 1, 0, 0) from rfl) kI_0 ?_
                refine q_istore (show mE (mtv 273) 38 = some (.istore 4, 2, 0, 0) from rfl) (Nat.le_of_ble_eq_true rfl) hl83 (fun lv86 (hl87 : qLs lv86 [some (.ref (85)), some (.int (a1)), some (.int (a2)), some (.int (a3)), some (.int ((0 : Int32))), none, none, none]) => ?_)
                refine q_aload_n (show mE (mtv 273) 40 = some (.aload_n 0, 1, 0, 0) from rfl) (hl87 0 _ rfl) ?_
                refine q_iload_n (show mE (mtv 273) 41 = some (.iload_n 1, 1, 0, 0) from rfl) (hl87 1 _ rfl) ?_
                refine q_iconst (show mE (mtv 273) 42 = some (.iconst 1, 1, 0, 0) from rfl) kI_1 ?_
                refine q_bipush (show mE (mtv 273) 43 = some (.bipush 10, 2, 0, 0) from rfl) kB_10 ?_
                refine q_staticP (show mE (mtv 273) 45 = some (.invokestatic 157, 3, 211, 0) from rfl) (by decide) rfl rfl rfl (fun _ g => sp_211 g) ?_
                refine q_ifb_ne (t := 55) (show mE (mtv 273) 48 = some (.ifCond .ne 7, 3, 0, 0) from rfl) rfl (fun c88 => ?_) (fun c88 => ?_)
                · clear c88
                  refine q_iload (show mE (mtv 273) 55 = some (.iload 4, 2, 0, 0) from rfl) (hl87 4 _ rfl) ?_
                  refine q_iff (t := 64) (show mE (mtv 273) 57 = some (.ifCond .ne 7, 3, 0, 0) from rfl) (by decide) rfl ?_
                  refine q_iconst (show mE (mtv 273) 60 = some (.iconst 2, 1, 0, 0) from rfl) kI_2 ?_
                  refine q_goto (t := 65) (show mE (mtv 273) 61 = some (.goto 4, 3, 0, 0) from rfl) rfl ?_
                  refine q_putI th (show mE (mtv 273) 65 = some (.putfield 138, 3, 9, 42) from rfl) (by decide) rfl (fun h89 t90 => ?_)
                  refine q_aload_n (show mE (mtv 273) 68 = some (.aload_n 0, 1, 0, 0) from rfl) (hl87 0 _ rfl) ?_
                  refine q_getIe t90 (show mE (mtv 273) 69 = some (.getfield 138, 3, 9, 42) from rfl) (by decide) rfl (upI_s) ?_
                  refine q_iff (t := 77) (show mE (mtv 273) 72 = some (.ifCond .le 5, 3, 0, 0) from rfl) (by decide) rfl ?_
                  refine q_iconst (show mE (mtv 273) 75 = some (.iconst 0, 1, 0, 0) from rfl) kI_0 ?_
                  refine q_ireturn (show mE (mtv 273) 76 = some (.ireturn, 1, 0, 0) from rfl) ?_
                  exact ⟨(2 : Int32), (0 : Int32), _, _, _, rfl, rfl, t90, upI_s, (fun e => absurd e (by decide)), (RK_t (2 : Int32) hK)⟩
                · exact absurd c3 c88
              · refine q_iload_n (show mE (mtv 273) 21 = some (.iload_n 2, 1, 0, 0) from rfl) (hl83 2 _ rfl) ?_
                refine q_iload_n (show mE (mtv 273) 22 = some (.iload_n 1, 1, 0, 0) from rfl) (hl83 1 _ rfl) ?_
                refine q_imul (show mE (mtv 273) 23 = some (.imul, 1, 0, 0) from rfl) ?_
                refine q_iload_n (show mE (mtv 273) 24 = some (.iload_n 3, 1, 0, 0) from rfl) (hl83 3 _ rfl) ?_
                refine q_iadd (show mE (mtv 273) 25 = some (.iadd, 1, 0, 0) from rfl) ?_
                refine q_aload_n (show mE (mtv 273) 26 = some (.aload_n 0, 1, 0, 0) from rfl) (hl83 0 _ rfl) ?_
                refine q_virtualE (show mE (mtv 273) 27 = some (.invokevirtual 233, 3, 247, 9) from rfl) (by decide) rfl rfl rfl (fun _ g => sp_247 th g) ?_
                rintro _ ⟨v95, j91, h92, rfl, t93, e94⟩
                refine qK_v ?_
                refine q_ic_ge (t := 37) (show mE (mtv 273) 30 = some (.if_icmp .ge 7, 3, 0, 0) from rfl) rfl (fun c96 => ?_) (fun c96 => ?_)
                · refine q_iconst (show mE (mtv 273) 37 = some (.iconst 0, 1, 0, 0) from rfl) kI_0 ?_
                  refine q_istore (show mE (mtv 273) 38 = some (.istore 4, 2, 0, 0) from rfl) (Nat.le_of_ble_eq_true rfl) hl83 (fun lv97 (hl98 : qLs lv97 [some (.ref (85)), some (.int (a1)), some (.int (a2)), some (.int (a3)), some (.int ((0 : Int32))), none, none, none]) => ?_)
                  refine q_aload_n (show mE (mtv 273) 40 = some (.aload_n 0, 1, 0, 0) from rfl) (hl98 0 _ rfl) ?_
                  refine q_iload_n (show mE (mtv 273) 41 = some (.iload_n 1, 1, 0, 0) from rfl) (hl98 1 _ rfl) ?_
                  refine q_iconst (show mE (mtv 273) 42 = some (.iconst 1, 1, 0, 0) from rfl) kI_1 ?_
                  refine q_bipush (show mE (mtv 273) 43 = some (.bipush 10, 2, 0, 0) from rfl) kB_10 ?_
                  refine q_staticP (show mE (mtv 273) 45 = some (.invokestatic 157, 3, 211, 0) from rfl) (by decide) rfl rfl rfl (fun _ g => sp_211 g) ?_
                  refine q_ifb_ne (t := 55) (show mE (mtv 273) 48 = some (.ifCond .ne 7, 3, 0, 0) from rfl) rfl (fun c99 => ?_) (fun c99 => ?_)
                  · clear c99
                    refine q_iload (show mE (mtv 273) 55 = some (.iload 4, 2, 0, 0) from rfl) (hl98 4 _ rfl) ?_
                    refine q_iff (t := 64) (show mE (mtv 273) 57 = some (.ifCond .ne 7, 3, 0, 0) from rfl) (by decide) rfl ?_
                    refine q_iconst (show mE (mtv 273) 60 = some (.iconst 2, 1, 0, 0) from rfl) kI_2 ?_
                    refine q_goto (t := 65) (show mE (mtv 273) 61 = some (.goto 4, 3, 0, 0) from rfl) rfl ?_
                    refine q_putI t93 (show mE (mtv 273) 65 = some (.putfield 138, 3, 9, 42) from rfl) (by decide) rfl (fun h100 t101 => ?_)
                    refine q_aload_n (show mE (mtv 273) 68 = some (.aload_n 0, 1, 0, 0) from rfl) (hl98 0 _ rfl) ?_
                    refine q_getIe t101 (show mE (mtv 273) 69 = some (.getfield 138, 3, 9, 42) from rfl) (by decide) rfl (upI_s) ?_
                    refine q_iff (t := 77) (show mE (mtv 273) 72 = some (.ifCond .le 5, 3, 0, 0) from rfl) (by decide) rfl ?_
                    refine q_iconst (show mE (mtv 273) 75 = some (.iconst 0, 1, 0, 0) from rfl) kI_0 ?_
                    refine q_ireturn (show mE (mtv 273) 76 = some (.ireturn, 1, 0, 0) from rfl) ?_
                    exact ⟨(2 : Int32), (0 : Int32), _, _, _, rfl, rfl, t101, upI_s, (fun e => absurd e (by decide)), p6 c3 c7 c8 c44 c47 c85 v95 j91 e94 c96⟩
                  · exact absurd c3 c99
                · refine q_iconst (show mE (mtv 273) 33 = some (.iconst 1, 1, 0, 0) from rfl) kI_1 ?_
                  refine q_goto (t := 38) (show mE (mtv 273) 34 = some (.goto 4, 3, 0, 0) from rfl) rfl ?_
                  refine q_istore (show mE (mtv 273) 38 = some (.istore 4, 2, 0, 0) from rfl) (Nat.le_of_ble_eq_true rfl) hl83 (fun lv102 (hl103 : qLs lv102 [some (.ref (85)), some (.int (a1)), some (.int (a2)), some (.int (a3)), some (.int ((1 : Int32))), none, none, none]) => ?_)
                  refine q_aload_n (show mE (mtv 273) 40 = some (.aload_n 0, 1, 0, 0) from rfl) (hl103 0 _ rfl) ?_
                  refine q_iload_n (show mE (mtv 273) 41 = some (.iload_n 1, 1, 0, 0) from rfl) (hl103 1 _ rfl) ?_
                  refine q_iconst (show mE (mtv 273) 42 = some (.iconst 1, 1, 0, 0) from rfl) kI_1 ?_
                  refine q_bipush (show mE (mtv 273) 43 = some (.bipush 10, 2, 0, 0) from rfl) kB_10 ?_
                  refine q_staticP (show mE (mtv 273) 45 = some (.invokestatic 157, 3, 211, 0) from rfl) (by decide) rfl rfl rfl (fun _ g => sp_211 g) ?_
                  refine q_ifb_ne (t := 55) (show mE (mtv 273) 48 = some (.ifCond .ne 7, 3, 0, 0) from rfl) rfl (fun c104 => ?_) (fun c104 => ?_)
                  · clear c104
                    refine q_iload (show mE (mtv 273) 55 = some (.iload 4, 2, 0, 0) from rfl) (hl103 4 _ rfl) ?_
                    refine q_ift (t := 64) (show mE (mtv 273) 57 = some (.ifCond .ne 7, 3, 0, 0) from rfl) (by decide) rfl ?_
                    refine q_iconst (show mE (mtv 273) 64 = some (.iconst 0, 1, 0, 0) from rfl) kI_0 ?_
                    refine q_putI t93 (show mE (mtv 273) 65 = some (.putfield 138, 3, 9, 42) from rfl) (by decide) rfl (fun h105 t106 => ?_)
                    refine q_aload_n (show mE (mtv 273) 68 = some (.aload_n 0, 1, 0, 0) from rfl) (hl103 0 _ rfl) ?_
                    refine q_getIe t106 (show mE (mtv 273) 69 = some (.getfield 138, 3, 9, 42) from rfl) (by decide) rfl (upI_s) ?_
                    refine q_ift (t := 77) (show mE (mtv 273) 72 = some (.ifCond .le 5, 3, 0, 0) from rfl) (by decide) rfl ?_
                    refine q_iload_n (show mE (mtv 273) 77 = some (.iload_n 2, 1, 0, 0) from rfl) (hl103 2 _ rfl) ?_
                    refine q_iload_n (show mE (mtv 273) 78 = some (.iload_n 1, 1, 0, 0) from rfl) (hl103 1 _ rfl) ?_
                    refine q_imul (show mE (mtv 273) 79 = some (.imul, 1, 0, 0) from rfl) ?_
                    refine q_iload_n (show mE (mtv 273) 80 = some (.iload_n 3, 1, 0, 0) from rfl) (hl103 3 _ rfl) ?_
                    refine q_iadd (show mE (mtv 273) 81 = some (.iadd, 1, 0, 0) from rfl) ?_
                    refine q_istore (show mE (mtv 273) 82 = some (.istore 5, 2, 0, 0) from rfl) (Nat.le_of_ble_eq_true rfl) hl103 (fun lv107 (hl108 : qLs lv107 [some (.ref (85)), some (.int (a1)), some (.int (a2)), some (.int (a3)), some (.int ((1 : Int32))), some (.int ((a2 * a1) + a3)), none, none]) => ?_)
                    refine q_bipush (show mE (mtv 273) 84 = some (.bipush 16, 2, 0, 0) from rfl) kB_16 ?_
                    refine q_istore (show mE (mtv 273) 86 = some (.istore 6, 2, 0, 0) from rfl) (Nat.le_of_ble_eq_true rfl) hl108 (fun lv109 (hl110 : qLs lv109 [some (.ref (85)), some (.int (a1)), some (.int (a2)), some (.int (a3)), some (.int ((1 : Int32))), some (.int ((a2 * a1) + a3)), some (.int ((16 : Int32))), none]) => ?_)
                    exact p7 c3 c7 c8 c44 c47 c85 v95 j91 e94 c96 h105 t106 _ lv109 (qLs_wk hl110 (⟨rfl, rfl, rfl, trivial⟩))
                  · exact absurd c3 c104
        · refine q_throw (show mE (mtv 149) 38 = some (.new 360, 3, 1004, 0) from rfl) (by decide) ?_
          refine qKh_x (hp := 19) (c := (21, sDr 5 (lv_args 0 [.ref (0), .int (a1), .int (a2), .int (a3), .ref (117)]), [], h)) rfl (by decide) (fun _ _ => rfl) ?_
          refine q_iconst (show mE (mtv 148) 21 = some (.iconst 2, 1, 0, 0) from rfl) kI_2 ?_
          refine q_ireturn (show mE (mtv 148) 22 = some (.ireturn, 1, 0, 0) from rfl) ?_
          intro r111 g112
          have g112 : qGo 273 [.ref (85), .int (a1), .int (a2), .int (a3)] h r111 := g112
          refine qGo_w (Q := fun r2 => opE (.inl (some (.int ((2 : Int32))))) r2.1 r2.2 RK) g112 (fun _ => ?_)
          have hl113 : qLs (lv_args 0 [.ref (85), .int (a1), .int (a2), .int (a3)]) [some (.ref (85)), some (.int (a1)), some (.int (a2)), some (.int (a3)), none, none, none, none] := qLs_ar 4
          refine q_iload_n (show mE (mtv 273) 0 = some (.iload_n 3, 1, 0, 0) from rfl) (hl113 3 _ rfl) ?_
          refine q_iconst (show mE (mtv 273) 1 = some (.iconst 0, 1, 0, 0) from rfl) kI_0 ?_
          refine q_iload_n (show mE (mtv 273) 2 = some (.iload_n 1, 1, 0, 0) from rfl) (hl113 1 _ rfl) ?_
          refine q_iconst (show mE (mtv 273) 3 = some (.iconst 1, 1, 0, 0) from rfl) kI_1 ?_
          refine q_isub (show mE (mtv 273) 4 = some (.isub, 1, 0, 0) from rfl) ?_
          refine q_staticP (show mE (mtv 273) 5 = some (.invokestatic 157, 3, 211, 0) from rfl) (by decide) rfl rfl rfl (fun _ g => sp_211 g) ?_
          refine q_ifb_eq (t := 37) (show mE (mtv 273) 8 = some (.ifCond .eq 29, 3, 0, 0) from rfl) rfl (fun c114 => ?_) (fun c114 => ?_)
          · clear c114
            refine q_iconst (show mE (mtv 273) 37 = some (.iconst 0, 1, 0, 0) from rfl) kI_0 ?_
            refine q_istore (show mE (mtv 273) 38 = some (.istore 4, 2, 0, 0) from rfl) (Nat.le_of_ble_eq_true rfl) hl113 (fun lv115 (hl116 : qLs lv115 [some (.ref (85)), some (.int (a1)), some (.int (a2)), some (.int (a3)), some (.int ((0 : Int32))), none, none, none]) => ?_)
            refine q_aload_n (show mE (mtv 273) 40 = some (.aload_n 0, 1, 0, 0) from rfl) (hl116 0 _ rfl) ?_
            refine q_iload_n (show mE (mtv 273) 41 = some (.iload_n 1, 1, 0, 0) from rfl) (hl116 1 _ rfl) ?_
            refine q_iconst (show mE (mtv 273) 42 = some (.iconst 1, 1, 0, 0) from rfl) kI_1 ?_
            refine q_bipush (show mE (mtv 273) 43 = some (.bipush 10, 2, 0, 0) from rfl) kB_10 ?_
            refine q_staticP (show mE (mtv 273) 45 = some (.invokestatic 157, 3, 211, 0) from rfl) (by decide) rfl rfl rfl (fun _ g => sp_211 g) ?_
            refine q_ifb_ne (t := 55) (show mE (mtv 273) 48 = some (.ifCond .ne 7, 3, 0, 0) from rfl) rfl (fun c117 => ?_) (fun c117 => ?_)
            · clear c117
              refine q_iload (show mE (mtv 273) 55 = some (.iload 4, 2, 0, 0) from rfl) (hl116 4 _ rfl) ?_
              refine q_iff (t := 64) (show mE (mtv 273) 57 = some (.ifCond .ne 7, 3, 0, 0) from rfl) (by decide) rfl ?_
              refine q_iconst (show mE (mtv 273) 60 = some (.iconst 2, 1, 0, 0) from rfl) kI_2 ?_
              refine q_goto (t := 65) (show mE (mtv 273) 61 = some (.goto 4, 3, 0, 0) from rfl) rfl ?_
              refine q_putI th (show mE (mtv 273) 65 = some (.putfield 138, 3, 9, 42) from rfl) (by decide) rfl (fun h118 t119 => ?_)
              refine q_aload_n (show mE (mtv 273) 68 = some (.aload_n 0, 1, 0, 0) from rfl) (hl116 0 _ rfl) ?_
              refine q_getIe t119 (show mE (mtv 273) 69 = some (.getfield 138, 3, 9, 42) from rfl) (by decide) rfl (upI_s) ?_
              refine q_iff (t := 77) (show mE (mtv 273) 72 = some (.ifCond .le 5, 3, 0, 0) from rfl) (by decide) rfl ?_
              refine q_iconst (show mE (mtv 273) 75 = some (.iconst 0, 1, 0, 0) from rfl) kI_0 ?_
              refine q_ireturn (show mE (mtv 273) 76 = some (.ireturn, 1, 0, 0) from rfl) ?_
              exact ⟨(2 : Int32), (0 : Int32), _, _, _, rfl, rfl, t119, upI_s, (fun e => absurd e (by decide)), (RK_t (2 : Int32) hK)⟩
            · exact absurd c3 c117
          · exact absurd c114 c44
    · refine q_iload_n (show mE (mtv 147) 4 = some (.iload_n 1, 1, 0, 0) from rfl) (hl6 1 _ rfl) ?_
      refine q_iload_n (show mE (mtv 147) 5 = some (.iload_n 0, 1, 0, 0) from rfl) (hl6 0 _ rfl) ?_
      refine q_iadd (show mE (mtv 147) 6 = some (.iadd, 1, 0, 0) from rfl) ?_
      refine q_iconst (show mE (mtv 147) 7 = some (.iconst 1, 1, 0, 0) from rfl) kI_1 ?_
      refine q_isub (show mE (mtv 147) 8 = some (.isub, 1, 0, 0) from rfl) ?_
      refine q_iload_n (show mE (mtv 147) 9 = some (.iload_n 0, 1, 0, 0) from rfl) (hl6 0 _ rfl) ?_
      refine q_idiv (show mE (mtv 147) 10 = some (.idiv, 1, 0, 0) from rfl) (fun u120 => ?_)
      refine q_goto (t := 15) (show mE (mtv 147) 11 = some (.goto 4, 3, 0, 0) from rfl) rfl ?_
      refine q_ireturn (show mE (mtv 147) 15 = some (.ireturn, 1, 0, 0) from rfl) ?_
      refine qK_v ?_
      refine q_iconst (show mE (mtv 149) 19 = some (.iconst 1, 1, 0, 0) from rfl) kI_1 ?_
      refine q_isub (show mE (mtv 149) 20 = some (.isub, 1, 0, 0) from rfl) ?_
      refine q_staticP (show mE (mtv 149) 21 = some (.invokestatic 77, 3, 47, 0) from rfl) (by decide) rfl rfl rfl (fun _ g => sp_47 g) ?_
      refine q_ifb_eq (t := 38) (show mE (mtv 149) 24 = some (.ifCond .eq 14, 3, 0, 0) from rfl) rfl (fun c121 => ?_) (fun c121 => ?_)
      · refine q_throw (show mE (mtv 149) 38 = some (.new 360, 3, 1004, 0) from rfl) (by decide) ?_
        refine qKh_x (hp := 19) (c := (21, sDr 5 (lv_args 0 [.ref (0), .int (a1), .int (a2), .int (a3), .ref (117)]), [], h)) rfl (by decide) (fun _ _ => rfl) ?_
        refine q_iconst (show mE (mtv 148) 21 = some (.iconst 2, 1, 0, 0) from rfl) kI_2 ?_
        refine q_ireturn (show mE (mtv 148) 22 = some (.ireturn, 1, 0, 0) from rfl) ?_
        intro r122 g123
        have g123 : qGo 273 [.ref (85), .int (a1), .int (a2), .int (a3)] h r122 := g123
        refine qGo_w (Q := fun r2 => opE (.inl (some (.int ((2 : Int32))))) r2.1 r2.2 RK) g123 (fun _ => ?_)
        have hl124 : qLs (lv_args 0 [.ref (85), .int (a1), .int (a2), .int (a3)]) [some (.ref (85)), some (.int (a1)), some (.int (a2)), some (.int (a3)), none, none, none, none] := qLs_ar 4
        refine q_iload_n (show mE (mtv 273) 0 = some (.iload_n 3, 1, 0, 0) from rfl) (hl124 3 _ rfl) ?_
        refine q_iconst (show mE (mtv 273) 1 = some (.iconst 0, 1, 0, 0) from rfl) kI_0 ?_
        refine q_iload_n (show mE (mtv 273) 2 = some (.iload_n 1, 1, 0, 0) from rfl) (hl124 1 _ rfl) ?_
        refine q_iconst (show mE (mtv 273) 3 = some (.iconst 1, 1, 0, 0) from rfl) kI_1 ?_
        refine q_isub (show mE (mtv 273) 4 = some (.isub, 1, 0, 0) from rfl) ?_
        refine q_staticP (show mE (mtv 273) 5 = some (.invokestatic 157, 3, 211, 0) from rfl) (by decide) rfl rfl rfl (fun _ g => sp_211 g) ?_
        refine q_ifb_eq (t := 37) (show mE (mtv 273) 8 = some (.ifCond .eq 29, 3, 0, 0) from rfl) rfl (fun c125 => ?_) (fun c125 => ?_)
        · refine q_iconst (show mE (mtv 273) 37 = some (.iconst 0, 1, 0, 0) from rfl) kI_0 ?_
          refine q_istore (show mE (mtv 273) 38 = some (.istore 4, 2, 0, 0) from rfl) (Nat.le_of_ble_eq_true rfl) hl124 (fun lv126 (hl127 : qLs lv126 [some (.ref (85)), some (.int (a1)), some (.int (a2)), some (.int (a3)), some (.int ((0 : Int32))), none, none, none]) => ?_)
          refine q_aload_n (show mE (mtv 273) 40 = some (.aload_n 0, 1, 0, 0) from rfl) (hl127 0 _ rfl) ?_
          refine q_iload_n (show mE (mtv 273) 41 = some (.iload_n 1, 1, 0, 0) from rfl) (hl127 1 _ rfl) ?_
          refine q_iconst (show mE (mtv 273) 42 = some (.iconst 1, 1, 0, 0) from rfl) kI_1 ?_
          refine q_bipush (show mE (mtv 273) 43 = some (.bipush 10, 2, 0, 0) from rfl) kB_10 ?_
          refine q_staticP (show mE (mtv 273) 45 = some (.invokestatic 157, 3, 211, 0) from rfl) (by decide) rfl rfl rfl (fun _ g => sp_211 g) ?_
          refine q_ifb_ne (t := 55) (show mE (mtv 273) 48 = some (.ifCond .ne 7, 3, 0, 0) from rfl) rfl (fun c128 => ?_) (fun c128 => ?_)
          · clear c128
            refine q_iload (show mE (mtv 273) 55 = some (.iload 4, 2, 0, 0) from rfl) (hl127 4 _ rfl) ?_
            refine q_iff (t := 64) (show mE (mtv 273) 57 = some (.ifCond .ne 7, 3, 0, 0) from rfl) (by decide) rfl ?_
            refine q_iconst (show mE (mtv 273) 60 = some (.iconst 2, 1, 0, 0) from rfl) kI_2 ?_
            refine q_goto (t := 65) (show mE (mtv 273) 61 = some (.goto 4, 3, 0, 0) from rfl) rfl ?_
            refine q_putI th (show mE (mtv 273) 65 = some (.putfield 138, 3, 9, 42) from rfl) (by decide) rfl (fun h129 t130 => ?_)
            refine q_aload_n (show mE (mtv 273) 68 = some (.aload_n 0, 1, 0, 0) from rfl) (hl127 0 _ rfl) ?_
            refine q_getIe t130 (show mE (mtv 273) 69 = some (.getfield 138, 3, 9, 42) from rfl) (by decide) rfl (upI_s) ?_
            refine q_iff (t := 77) (show mE (mtv 273) 72 = some (.ifCond .le 5, 3, 0, 0) from rfl) (by decide) rfl ?_
            refine q_iconst (show mE (mtv 273) 75 = some (.iconst 0, 1, 0, 0) from rfl) kI_0 ?_
            refine q_ireturn (show mE (mtv 273) 76 = some (.ireturn, 1, 0, 0) from rfl) ?_
            exact ⟨(2 : Int32), (0 : Int32), _, _, _, rfl, rfl, t130, upI_s, (fun e => absurd e (by decide)), (RK_t (2 : Int32) hK)⟩
          · exact absurd c3 c128
        · refine q_iload_n (show mE (mtv 273) 11 = some (.iload_n 2, 1, 0, 0) from rfl) (hl124 2 _ rfl) ?_
          refine q_iconst (show mE (mtv 273) 12 = some (.iconst 0, 1, 0, 0) from rfl) kI_0 ?_
          refine q_bipush (show mE (mtv 273) 13 = some (.bipush 9, 2, 0, 0) from rfl) kB_9 ?_
          refine q_staticP (show mE (mtv 273) 15 = some (.invokestatic 157, 3, 211, 0) from rfl) (by decide) rfl rfl rfl (fun _ g => sp_211 g) ?_
          refine q_ifb_eq (t := 37) (show mE (mtv 273) 18 = some (.ifCond .eq 19, 3, 0, 0) from rfl) rfl (fun c131 => ?_) (fun c131 => ?_)
          · refine q_iconst (show mE (mtv 273) 37 = some (.iconst 0, 1, 0, 0) from rfl) kI_0 ?_
            refine q_istore (show mE (mtv 273) 38 = some (.istore 4, 2, 0, 0) from rfl) (Nat.le_of_ble_eq_true rfl) hl124 (fun lv132 (hl133 : qLs lv132 [some (.ref (85)), some (.int (a1)), some (.int (a2)), some (.int (a3)), some (.int ((0 : Int32))), none, none, none]) => ?_)
            refine q_aload_n (show mE (mtv 273) 40 = some (.aload_n 0, 1, 0, 0) from rfl) (hl133 0 _ rfl) ?_
            refine q_iload_n (show mE (mtv 273) 41 = some (.iload_n 1, 1, 0, 0) from rfl) (hl133 1 _ rfl) ?_
            refine q_iconst (show mE (mtv 273) 42 = some (.iconst 1, 1, 0, 0) from rfl) kI_1 ?_
            refine q_bipush (show mE (mtv 273) 43 = some (.bipush 10, 2, 0, 0) from rfl) kB_10 ?_
            refine q_staticP (show mE (mtv 273) 45 = some (.invokestatic 157, 3, 211, 0) from rfl) (by decide) rfl rfl rfl (fun _ g => sp_211 g) ?_
            refine q_ifb_ne (t := 55) (show mE (mtv 273) 48 = some (.ifCond .ne 7, 3, 0, 0) from rfl) rfl (fun c134 => ?_) (fun c134 => ?_)
            · clear c134
              refine q_iload (show mE (mtv 273) 55 = some (.iload 4, 2, 0, 0) from rfl) (hl133 4 _ rfl) ?_
              refine q_iff (t := 64) (show mE (mtv 273) 57 = some (.ifCond .ne 7, 3, 0, 0) from rfl) (by decide) rfl ?_
              refine q_iconst (show mE (mtv 273) 60 = some (.iconst 2, 1, 0, 0) from rfl) kI_2 ?_
              refine q_goto (t := 65) (show mE (mtv 273) 61 = some (.goto 4, 3, 0, 0) from rfl) rfl ?_
              refine q_putI th (show mE (mtv 273) 65 = some (.putfield 138, 3, 9, 42) from rfl) (by decide) rfl (fun h135 t136 => ?_)
              refine q_aload_n (show mE (mtv 273) 68 = some (.aload_n 0, 1, 0, 0) from rfl) (hl133 0 _ rfl) ?_
              refine q_getIe t136 (show mE (mtv 273) 69 = some (.getfield 138, 3, 9, 42) from rfl) (by decide) rfl (upI_s) ?_
              refine q_iff (t := 77) (show mE (mtv 273) 72 = some (.ifCond .le 5, 3, 0, 0) from rfl) (by decide) rfl ?_
              refine q_iconst (show mE (mtv 273) 75 = some (.iconst 0, 1, 0, 0) from rfl) kI_0 ?_
              refine q_ireturn (show mE (mtv 273) 76 = some (.ireturn, 1, 0, 0) from rfl) ?_
              exact ⟨(2 : Int32), (0 : Int32), _, _, _, rfl, rfl, t136, upI_s, (fun e => absurd e (by decide)), (RK_t (2 : Int32) hK)⟩
            · exact absurd c3 c134
          · refine q_iload_n (show mE (mtv 273) 21 = some (.iload_n 2, 1, 0, 0) from rfl) (hl124 2 _ rfl) ?_
            refine q_iload_n (show mE (mtv 273) 22 = some (.iload_n 1, 1, 0, 0) from rfl) (hl124 1 _ rfl) ?_
            refine q_imul (show mE (mtv 273) 23 = some (.imul, 1, 0, 0) from rfl) ?_
            refine q_iload_n (show mE (mtv 273) 24 = some (.iload_n 3, 1, 0, 0) from rfl) (hl124 3 _ rfl) ?_
            refine q_iadd (show mE (mtv 273) 25 = some (.iadd, 1, 0, 0) from rfl) ?_
            refine q_aload_n (show mE (mtv 273) 26 = some (.aload_n 0, 1, 0, 0) from rfl) (hl124 0 _ rfl) ?_
            refine q_virtualE (show mE (mtv 273) 27 = some (.invokevirtual 233, 3, 247, 9) from rfl) (by decide) rfl rfl rfl (fun _ g => sp_247 th g) ?_
            rintro _ ⟨v141, j137, h138, rfl, t139, e140⟩
            refine qK_v ?_
            refine q_ic_ge (t := 37) (show mE (mtv 273) 30 = some (.if_icmp .ge 7, 3, 0, 0) from rfl) rfl (fun c142 => ?_) (fun c142 => ?_)
            · refine q_iconst (show mE (mtv 273) 37 = some (.iconst 0, 1, 0, 0) from rfl) kI_0 ?_
              refine q_istore (show mE (mtv 273) 38 = some (.istore 4, 2, 0, 0) from rfl) (Nat.le_of_ble_eq_true rfl) hl124 (fun lv143 (hl144 : qLs lv143 [some (.ref (85)), some (.int (a1)), some (.int (a2)), some (.int (a3)), some (.int ((0 : Int32))), none, none, none]) => ?_)
              refine q_aload_n (show mE (mtv 273) 40 = some (.aload_n 0, 1, 0, 0) from rfl) (hl144 0 _ rfl) ?_
              refine q_iload_n (show mE (mtv 273) 41 = some (.iload_n 1, 1, 0, 0) from rfl) (hl144 1 _ rfl) ?_
              refine q_iconst (show mE (mtv 273) 42 = some (.iconst 1, 1, 0, 0) from rfl) kI_1 ?_
              refine q_bipush (show mE (mtv 273) 43 = some (.bipush 10, 2, 0, 0) from rfl) kB_10 ?_
              refine q_staticP (show mE (mtv 273) 45 = some (.invokestatic 157, 3, 211, 0) from rfl) (by decide) rfl rfl rfl (fun _ g => sp_211 g) ?_
              refine q_ifb_ne (t := 55) (show mE (mtv 273) 48 = some (.ifCond .ne 7, 3, 0, 0) from rfl) rfl (fun c145 => ?_) (fun c145 => ?_)
              · clear c145
                refine q_iload (show mE (mtv 273) 55 = some (.iload 4, 2, 0, 0) from rfl) (hl144 4 _ rfl) ?_
                refine q_iff (t := 64) (show mE (mtv 273) 57 = some (.ifCond .ne 7, 3, 0, 0) from rfl) (by decide) rfl ?_
                refine q_iconst (show mE (mtv 273) 60 = some (.iconst 2, 1, 0, 0) from rfl) kI_2 ?_
                refine q_goto (t := 65) (show mE (mtv 273) 61 = some (.goto 4, 3, 0, 0) from rfl) rfl ?_
                refine q_putI t139 (show mE (mtv 273) 65 = some (.putfield 138, 3, 9, 42) from rfl) (by decide) rfl (fun h146 t147 => ?_)
                refine q_aload_n (show mE (mtv 273) 68 = some (.aload_n 0, 1, 0, 0) from rfl) (hl144 0 _ rfl) ?_
                refine q_getIe t147 (show mE (mtv 273) 69 = some (.getfield 138, 3, 9, 42) from rfl) (by decide) rfl (upI_s) ?_
                refine q_iff (t := 77) (show mE (mtv 273) 72 = some (.ifCond .le 5, 3, 0, 0) from rfl) (by decide) rfl ?_
                refine q_iconst (show mE (mtv 273) 75 = some (.iconst 0, 1, 0, 0) from rfl) kI_0 ?_
                refine q_ireturn (show mE (mtv 273) 76 = some (.ireturn, 1, 0, 0) from rfl) ?_
                exact ⟨(2 : Int32), (0 : Int32), _, _, _, rfl, rfl, t147, upI_s, (fun e => absurd e (by decide)), p8 c3 c7 u120 c121 c125 c131 v141 j137 e140 c142⟩
              · exact absurd c3 c145
            · refine q_iconst (show mE (mtv 273) 33 = some (.iconst 1, 1, 0, 0) from rfl) kI_1 ?_
              refine q_goto (t := 38) (show mE (mtv 273) 34 = some (.goto 4, 3, 0, 0) from rfl) rfl ?_
              refine q_istore (show mE (mtv 273) 38 = some (.istore 4, 2, 0, 0) from rfl) (Nat.le_of_ble_eq_true rfl) hl124 (fun lv148 (hl149 : qLs lv148 [some (.ref (85)), some (.int (a1)), some (.int (a2)), some (.int (a3)), some (.int ((1 : Int32))), none, none, none]) => ?_)
              refine q_aload_n (show mE (mtv 273) 40 = some (.aload_n 0, 1, 0, 0) from rfl) (hl149 0 _ rfl) ?_
              refine q_iload_n (show mE (mtv 273) 41 = some (.iload_n 1, 1, 0, 0) from rfl) (hl149 1 _ rfl) ?_
              refine q_iconst (show mE (mtv 273) 42 = some (.iconst 1, 1, 0, 0) from rfl) kI_1 ?_
              refine q_bipush (show mE (mtv 273) 43 = some (.bipush 10, 2, 0, 0) from rfl) kB_10 ?_
              refine q_staticP (show mE (mtv 273) 45 = some (.invokestatic 157, 3, 211, 0) from rfl) (by decide) rfl rfl rfl (fun _ g => sp_211 g) ?_
              refine q_ifb_ne (t := 55) (show mE (mtv 273) 48 = some (.ifCond .ne 7, 3, 0, 0) from rfl) rfl (fun c150 => ?_) (fun c150 => ?_)
              · clear c150
                refine q_iload (show mE (mtv 273) 55 = some (.iload 4, 2, 0, 0) from rfl) (hl149 4 _ rfl) ?_
                refine q_ift (t := 64) (show mE (mtv 273) 57 = some (.ifCond .ne 7, 3, 0, 0) from rfl) (by decide) rfl ?_
                refine q_iconst (show mE (mtv 273) 64 = some (.iconst 0, 1, 0, 0) from rfl) kI_0 ?_
                refine q_putI t139 (show mE (mtv 273) 65 = some (.putfield 138, 3, 9, 42) from rfl) (by decide) rfl (fun h151 t152 => ?_)
                refine q_aload_n (show mE (mtv 273) 68 = some (.aload_n 0, 1, 0, 0) from rfl) (hl149 0 _ rfl) ?_
                refine q_getIe t152 (show mE (mtv 273) 69 = some (.getfield 138, 3, 9, 42) from rfl) (by decide) rfl (upI_s) ?_
                refine q_ift (t := 77) (show mE (mtv 273) 72 = some (.ifCond .le 5, 3, 0, 0) from rfl) (by decide) rfl ?_
                refine q_iload_n (show mE (mtv 273) 77 = some (.iload_n 2, 1, 0, 0) from rfl) (hl149 2 _ rfl) ?_
                refine q_iload_n (show mE (mtv 273) 78 = some (.iload_n 1, 1, 0, 0) from rfl) (hl149 1 _ rfl) ?_
                refine q_imul (show mE (mtv 273) 79 = some (.imul, 1, 0, 0) from rfl) ?_
                refine q_iload_n (show mE (mtv 273) 80 = some (.iload_n 3, 1, 0, 0) from rfl) (hl149 3 _ rfl) ?_
                refine q_iadd (show mE (mtv 273) 81 = some (.iadd, 1, 0, 0) from rfl) ?_
                refine q_istore (show mE (mtv 273) 82 = some (.istore 5, 2, 0, 0) from rfl) (Nat.le_of_ble_eq_true rfl) hl149 (fun lv153 (hl154 : qLs lv153 [some (.ref (85)), some (.int (a1)), some (.int (a2)), some (.int (a3)), some (.int ((1 : Int32))), some (.int ((a2 * a1) + a3)), none, none]) => ?_)
                refine q_bipush (show mE (mtv 273) 84 = some (.bipush 16, 2, 0, 0) from rfl) kB_16 ?_
                refine q_istore (show mE (mtv 273) 86 = some (.istore 6, 2, 0, 0) from rfl) (Nat.le_of_ble_eq_true rfl) hl154 (fun lv155 (hl156 : qLs lv155 [some (.ref (85)), some (.int (a1)), some (.int (a2)), some (.int (a3)), some (.int ((1 : Int32))), some (.int ((a2 * a1) + a3)), some (.int ((16 : Int32))), none]) => ?_)
                exact p9 c3 c7 u120 c121 c125 c131 v141 j137 e140 c142 h151 t152 _ lv155 (qLs_wk hl156 (⟨rfl, rfl, rfl, trivial⟩))
              · exact absurd c3 c150
      · refine q_iload_n (show mE (mtv 149) 27 = some (.iload_n 3, 1, 0, 0) from rfl) (hl5 3 _ rfl) ?_
        refine q_iconst (show mE (mtv 149) 28 = some (.iconst 0, 1, 0, 0) from rfl) kI_0 ?_
        refine q_iload_n (show mE (mtv 149) 29 = some (.iload_n 1, 1, 0, 0) from rfl) (hl5 1 _ rfl) ?_
        refine q_iconst (show mE (mtv 149) 30 = some (.iconst 1, 1, 0, 0) from rfl) kI_1 ?_
        refine q_isub (show mE (mtv 149) 31 = some (.isub, 1, 0, 0) from rfl) ?_
        refine q_staticP (show mE (mtv 149) 32 = some (.invokestatic 77, 3, 47, 0) from rfl) (by decide) rfl rfl rfl (fun _ g => sp_47 g) ?_
        refine q_ifb_ne (t := 49) (show mE (mtv 149) 35 = some (.ifCond .ne 14, 3, 0, 0) from rfl) rfl (fun c157 => ?_) (fun c157 => ?_)
        · refine q_aload_n (show mE (mtv 149) 49 = some (.aload_n 0, 1, 0, 0) from rfl) (hl5 0 _ rfl) ?_
          refine q_iload_n (show mE (mtv 149) 50 = some (.iload_n 2, 1, 0, 0) from rfl) (hl5 2 _ rfl) ?_
          refine q_iload_n (show mE (mtv 149) 51 = some (.iload_n 1, 1, 0, 0) from rfl) (hl5 1 _ rfl) ?_
          refine q_imul (show mE (mtv 149) 52 = some (.imul, 1, 0, 0) from rfl) ?_
          refine q_iload_n (show mE (mtv 149) 53 = some (.iload_n 3, 1, 0, 0) from rfl) (hl5 3 _ rfl) ?_
          refine q_iadd (show mE (mtv 149) 54 = some (.iadd, 1, 0, 0) from rfl) ?_
          refine q_virtualP (show mE (mtv 149) 55 = some (.invokevirtual 365, 3, 150, 8) from rfl) (by decide) rfl rfl rfl (fun _ g => sp_150 th g) ?_
          refine q_istore (show mE (mtv 149) 58 = some (.istore 5, 2, 0, 0) from rfl) (Nat.le_of_ble_eq_true rfl) hl5 (fun lv158 (hl159 : qLs lv158 [some (.ref (0)), some (.int (a1)), some (.int (a2)), some (.int (a3)), some (.int (G_12 I L R 0 ((0 : Int32)) ((I 0 10)).toNatClampNeg)), some (.int (G_150 I L R (((a2 * a1) + a3)) 0 ((I 0 10)).toNatClampNeg))]) => ?_)
          refine q_iload (show mE (mtv 149) 60 = some (.iload 5, 2, 0, 0) from rfl) (hl159 5 _ rfl) ?_
          refine q_iconst (show mE (mtv 149) 62 = some (.iconst (-1), 1, 0, 0) from rfl) kI_m1 ?_
          refine q_ic_ne (t := 77) (show mE (mtv 149) 63 = some (.if_icmp .ne 14, 3, 0, 0) from rfl) rfl (fun c160 => ?_) (fun c160 => ?_)
          · refine q_iload (show mE (mtv 149) 77 = some (.iload 5, 2, 0, 0) from rfl) (hl159 5 _ rfl) ?_
            refine q_ireturn (show mE (mtv 149) 79 = some (.ireturn, 1, 0, 0) from rfl) ?_
            refine qKh_v ?_
            refine q_i2l (show mE (mtv 148) 10 = some (.i2l, 1, 0, 0) from rfl) ?_
            refine q_lastore (n := 1) th (show mE (mtv 148) 11 = some (.lastore, 1, 0, 0) from rfl) (by decide) rfl (fun bb161 h162 t163 => ?_)
            refine q_goto (t := 23) (show mE (mtv 148) 12 = some (.goto 11, 3, 0, 0) from rfl) rfl ?_
            refine q_iconst (show mE (mtv 148) 23 = some (.iconst 0, 1, 0, 0) from rfl) kI_0 ?_
            refine q_ireturn (show mE (mtv 148) 24 = some (.ireturn, 1, 0, 0) from rfl) ?_
            intro r164 g165
            have g165 : qGo 273 [.ref (85), .int (a1), .int (a2), .int (a3)] h162 r164 := g165
            refine qGo_w (Q := fun r2 => opE (.inl (some (.int ((0 : Int32))))) r2.1 r2.2 RK) g165 (fun _ => ?_)
            have hl166 : qLs (lv_args 0 [.ref (85), .int (a1), .int (a2), .int (a3)]) [some (.ref (85)), some (.int (a1)), some (.int (a2)), some (.int (a3)), none, none, none, none] := qLs_ar 4
            refine q_iload_n (show mE (mtv 273) 0 = some (.iload_n 3, 1, 0, 0) from rfl) (hl166 3 _ rfl) ?_
            refine q_iconst (show mE (mtv 273) 1 = some (.iconst 0, 1, 0, 0) from rfl) kI_0 ?_
            refine q_iload_n (show mE (mtv 273) 2 = some (.iload_n 1, 1, 0, 0) from rfl) (hl166 1 _ rfl) ?_
            refine q_iconst (show mE (mtv 273) 3 = some (.iconst 1, 1, 0, 0) from rfl) kI_1 ?_
            refine q_isub (show mE (mtv 273) 4 = some (.isub, 1, 0, 0) from rfl) ?_
            refine q_staticP (show mE (mtv 273) 5 = some (.invokestatic 157, 3, 211, 0) from rfl) (by decide) rfl rfl rfl (fun _ g => sp_211 g) ?_
            refine q_ifb_eq (t := 37) (show mE (mtv 273) 8 = some (.ifCond .eq 29, 3, 0, 0) from rfl) rfl (fun c167 => ?_) (fun c167 => ?_)
            · exact absurd c157 c167
            · clear c167
              refine q_iload_n (show mE (mtv 273) 11 = some (.iload_n 2, 1, 0, 0) from rfl) (hl166 2 _ rfl) ?_
              refine q_iconst (show mE (mtv 273) 12 = some (.iconst 0, 1, 0, 0) from rfl) kI_0 ?_
              refine q_bipush (show mE (mtv 273) 13 = some (.bipush 9, 2, 0, 0) from rfl) kB_9 ?_
              refine q_staticP (show mE (mtv 273) 15 = some (.invokestatic 157, 3, 211, 0) from rfl) (by decide) rfl rfl rfl (fun _ g => sp_211 g) ?_
              refine q_ifb_eq (t := 37) (show mE (mtv 273) 18 = some (.ifCond .eq 19, 3, 0, 0) from rfl) rfl (fun c168 => ?_) (fun c168 => ?_)
              · refine q_iconst (show mE (mtv 273) 37 = some (.iconst 0, 1, 0, 0) from rfl) kI_0 ?_
                refine q_istore (show mE (mtv 273) 38 = some (.istore 4, 2, 0, 0) from rfl) (Nat.le_of_ble_eq_true rfl) hl166 (fun lv169 (hl170 : qLs lv169 [some (.ref (85)), some (.int (a1)), some (.int (a2)), some (.int (a3)), some (.int ((0 : Int32))), none, none, none]) => ?_)
                refine q_aload_n (show mE (mtv 273) 40 = some (.aload_n 0, 1, 0, 0) from rfl) (hl170 0 _ rfl) ?_
                refine q_iload_n (show mE (mtv 273) 41 = some (.iload_n 1, 1, 0, 0) from rfl) (hl170 1 _ rfl) ?_
                refine q_iconst (show mE (mtv 273) 42 = some (.iconst 1, 1, 0, 0) from rfl) kI_1 ?_
                refine q_bipush (show mE (mtv 273) 43 = some (.bipush 10, 2, 0, 0) from rfl) kB_10 ?_
                refine q_staticP (show mE (mtv 273) 45 = some (.invokestatic 157, 3, 211, 0) from rfl) (by decide) rfl rfl rfl (fun _ g => sp_211 g) ?_
                refine q_ifb_ne (t := 55) (show mE (mtv 273) 48 = some (.ifCond .ne 7, 3, 0, 0) from rfl) rfl (fun c171 => ?_) (fun c171 => ?_)
                · clear c171
                  refine q_iload (show mE (mtv 273) 55 = some (.iload 4, 2, 0, 0) from rfl) (hl170 4 _ rfl) ?_
                  refine q_iff (t := 64) (show mE (mtv 273) 57 = some (.ifCond .ne 7, 3, 0, 0) from rfl) (by decide) rfl ?_
                  refine q_iconst (show mE (mtv 273) 60 = some (.iconst 2, 1, 0, 0) from rfl) kI_2 ?_
                  refine q_goto (t := 65) (show mE (mtv 273) 61 = some (.goto 4, 3, 0, 0) from rfl) rfl ?_
                  refine q_putI t163 (show mE (mtv 273) 65 = some (.putfield 138, 3, 9, 42) from rfl) (by decide) rfl (fun h172 t173 => ?_)
                  refine q_aload_n (show mE (mtv 273) 68 = some (.aload_n 0, 1, 0, 0) from rfl) (hl170 0 _ rfl) ?_
                  refine q_getIe t173 (show mE (mtv 273) 69 = some (.getfield 138, 3, 9, 42) from rfl) (by decide) rfl (upI_s) ?_
                  refine q_iff (t := 77) (show mE (mtv 273) 72 = some (.ifCond .le 5, 3, 0, 0) from rfl) (by decide) rfl ?_
                  refine q_iconst (show mE (mtv 273) 75 = some (.iconst 0, 1, 0, 0) from rfl) kI_0 ?_
                  refine q_ireturn (show mE (mtv 273) 76 = some (.ireturn, 1, 0, 0) from rfl) ?_
                  exact (p10 c3 c7 u120 c121 c157 c160 bb161 c168).elim
                · exact absurd c3 c171
              · refine q_iload_n (show mE (mtv 273) 21 = some (.iload_n 2, 1, 0, 0) from rfl) (hl166 2 _ rfl) ?_
                refine q_iload_n (show mE (mtv 273) 22 = some (.iload_n 1, 1, 0, 0) from rfl) (hl166 1 _ rfl) ?_
                refine q_imul (show mE (mtv 273) 23 = some (.imul, 1, 0, 0) from rfl) ?_
                refine q_iload_n (show mE (mtv 273) 24 = some (.iload_n 3, 1, 0, 0) from rfl) (hl166 3 _ rfl) ?_
                refine q_iadd (show mE (mtv 273) 25 = some (.iadd, 1, 0, 0) from rfl) ?_
                refine q_aload_n (show mE (mtv 273) 26 = some (.aload_n 0, 1, 0, 0) from rfl) (hl166 0 _ rfl) ?_
                refine q_virtualE (show mE (mtv 273) 27 = some (.invokevirtual 233, 3, 247, 9) from rfl) (by decide) rfl rfl rfl (fun _ g => sp_247 t163 g) ?_
                rintro _ ⟨v178, j174, h175, rfl, t176, e177⟩
                refine qK_v ?_
                refine q_ic_ge (t := 37) (show mE (mtv 273) 30 = some (.if_icmp .ge 7, 3, 0, 0) from rfl) rfl (fun c179 => ?_) (fun c179 => ?_)
                · refine q_iconst (show mE (mtv 273) 37 = some (.iconst 0, 1, 0, 0) from rfl) kI_0 ?_
                  refine q_istore (show mE (mtv 273) 38 = some (.istore 4, 2, 0, 0) from rfl) (Nat.le_of_ble_eq_true rfl) hl166 (fun lv180 (hl181 : qLs lv180 [some (.ref (85)), some (.int (a1)), some (.int (a2)), some (.int (a3)), some (.int ((0 : Int32))), none, none, none]) => ?_)
                  refine q_aload_n (show mE (mtv 273) 40 = some (.aload_n 0, 1, 0, 0) from rfl) (hl181 0 _ rfl) ?_
                  refine q_iload_n (show mE (mtv 273) 41 = some (.iload_n 1, 1, 0, 0) from rfl) (hl181 1 _ rfl) ?_
                  refine q_iconst (show mE (mtv 273) 42 = some (.iconst 1, 1, 0, 0) from rfl) kI_1 ?_
                  refine q_bipush (show mE (mtv 273) 43 = some (.bipush 10, 2, 0, 0) from rfl) kB_10 ?_
                  refine q_staticP (show mE (mtv 273) 45 = some (.invokestatic 157, 3, 211, 0) from rfl) (by decide) rfl rfl rfl (fun _ g => sp_211 g) ?_
                  refine q_ifb_ne (t := 55) (show mE (mtv 273) 48 = some (.ifCond .ne 7, 3, 0, 0) from rfl) rfl (fun c182 => ?_) (fun c182 => ?_)
                  · clear c182
                    refine q_iload (show mE (mtv 273) 55 = some (.iload 4, 2, 0, 0) from rfl) (hl181 4 _ rfl) ?_
                    refine q_iff (t := 64) (show mE (mtv 273) 57 = some (.ifCond .ne 7, 3, 0, 0) from rfl) (by decide) rfl ?_
                    refine q_iconst (show mE (mtv 273) 60 = some (.iconst 2, 1, 0, 0) from rfl) kI_2 ?_
                    refine q_goto (t := 65) (show mE (mtv 273) 61 = some (.goto 4, 3, 0, 0) from rfl) rfl ?_
                    refine q_putI t176 (show mE (mtv 273) 65 = some (.putfield 138, 3, 9, 42) from rfl) (by decide) rfl (fun h183 t184 => ?_)
                    refine q_aload_n (show mE (mtv 273) 68 = some (.aload_n 0, 1, 0, 0) from rfl) (hl181 0 _ rfl) ?_
                    refine q_getIe t184 (show mE (mtv 273) 69 = some (.getfield 138, 3, 9, 42) from rfl) (by decide) rfl (upI_s) ?_
                    refine q_iff (t := 77) (show mE (mtv 273) 72 = some (.ifCond .le 5, 3, 0, 0) from rfl) (by decide) rfl ?_
                    refine q_iconst (show mE (mtv 273) 75 = some (.iconst 0, 1, 0, 0) from rfl) kI_0 ?_
                    refine q_ireturn (show mE (mtv 273) 76 = some (.ireturn, 1, 0, 0) from rfl) ?_
                    exact (p11 c3 c7 u120 c121 c157 c160 bb161 c168 v178 j174 e177 c179).elim
                  · exact absurd c3 c182
                · refine q_iconst (show mE (mtv 273) 33 = some (.iconst 1, 1, 0, 0) from rfl) kI_1 ?_
                  refine q_goto (t := 38) (show mE (mtv 273) 34 = some (.goto 4, 3, 0, 0) from rfl) rfl ?_
                  refine q_istore (show mE (mtv 273) 38 = some (.istore 4, 2, 0, 0) from rfl) (Nat.le_of_ble_eq_true rfl) hl166 (fun lv185 (hl186 : qLs lv185 [some (.ref (85)), some (.int (a1)), some (.int (a2)), some (.int (a3)), some (.int ((1 : Int32))), none, none, none]) => ?_)
                  refine q_aload_n (show mE (mtv 273) 40 = some (.aload_n 0, 1, 0, 0) from rfl) (hl186 0 _ rfl) ?_
                  refine q_iload_n (show mE (mtv 273) 41 = some (.iload_n 1, 1, 0, 0) from rfl) (hl186 1 _ rfl) ?_
                  refine q_iconst (show mE (mtv 273) 42 = some (.iconst 1, 1, 0, 0) from rfl) kI_1 ?_
                  refine q_bipush (show mE (mtv 273) 43 = some (.bipush 10, 2, 0, 0) from rfl) kB_10 ?_
                  refine q_staticP (show mE (mtv 273) 45 = some (.invokestatic 157, 3, 211, 0) from rfl) (by decide) rfl rfl rfl (fun _ g => sp_211 g) ?_
                  refine q_ifb_ne (t := 55) (show mE (mtv 273) 48 = some (.ifCond .ne 7, 3, 0, 0) from rfl) rfl (fun c187 => ?_) (fun c187 => ?_)
                  · clear c187
                    refine q_iload (show mE (mtv 273) 55 = some (.iload 4, 2, 0, 0) from rfl) (hl186 4 _ rfl) ?_
                    refine q_ift (t := 64) (show mE (mtv 273) 57 = some (.ifCond .ne 7, 3, 0, 0) from rfl) (by decide) rfl ?_
                    refine q_iconst (show mE (mtv 273) 64 = some (.iconst 0, 1, 0, 0) from rfl) kI_0 ?_
                    refine q_putI t176 (show mE (mtv 273) 65 = some (.putfield 138, 3, 9, 42) from rfl) (by decide) rfl (fun h188 t189 => ?_)
                    refine q_aload_n (show mE (mtv 273) 68 = some (.aload_n 0, 1, 0, 0) from rfl) (hl186 0 _ rfl) ?_
                    refine q_getIe t189 (show mE (mtv 273) 69 = some (.getfield 138, 3, 9, 42) from rfl) (by decide) rfl (upI_s) ?_
                    refine q_ift (t := 77) (show mE (mtv 273) 72 = some (.ifCond .le 5, 3, 0, 0) from rfl) (by decide) rfl ?_
                    refine q_iload_n (show mE (mtv 273) 77 = some (.iload_n 2, 1, 0, 0) from rfl) (hl186 2 _ rfl) ?_
                    refine q_iload_n (show mE (mtv 273) 78 = some (.iload_n 1, 1, 0, 0) from rfl) (hl186 1 _ rfl) ?_
                    refine q_imul (show mE (mtv 273) 79 = some (.imul, 1, 0, 0) from rfl) ?_
                    refine q_iload_n (show mE (mtv 273) 80 = some (.iload_n 3, 1, 0, 0) from rfl) (hl186 3 _ rfl) ?_
                    refine q_iadd (show mE (mtv 273) 81 = some (.iadd, 1, 0, 0) from rfl) ?_
                    refine q_istore (show mE (mtv 273) 82 = some (.istore 5, 2, 0, 0) from rfl) (Nat.le_of_ble_eq_true rfl) hl186 (fun lv190 (hl191 : qLs lv190 [some (.ref (85)), some (.int (a1)), some (.int (a2)), some (.int (a3)), some (.int ((1 : Int32))), some (.int ((a2 * a1) + a3)), none, none]) => ?_)
                    refine q_bipush (show mE (mtv 273) 84 = some (.bipush 16, 2, 0, 0) from rfl) kB_16 ?_
                    refine q_istore (show mE (mtv 273) 86 = some (.istore 6, 2, 0, 0) from rfl) (Nat.le_of_ble_eq_true rfl) hl191 (fun lv192 (hl193 : qLs lv192 [some (.ref (85)), some (.int (a1)), some (.int (a2)), some (.int (a3)), some (.int ((1 : Int32))), some (.int ((a2 * a1) + a3)), some (.int ((16 : Int32))), none]) => ?_)
                    exact p12 c3 c7 u120 c121 c157 c160 bb161 c168 v178 j174 e177 c179 h188 t189 _ lv192 (qLs_wk hl193 (⟨rfl, rfl, rfl, trivial⟩))
                  · exact absurd c3 c187
          · refine q_throw (show mE (mtv 149) 66 = some (.new 360, 3, 1004, 0) from rfl) (by decide) ?_
            refine qKh_x (hp := 19) (c := (21, sDr 5 (lv_args 0 [.ref (0), .int (a1), .int (a2), .int (a3), .ref (117)]), [], h)) rfl (by decide) (fun _ _ => rfl) ?_
            refine q_iconst (show mE (mtv 148) 21 = some (.iconst 2, 1, 0, 0) from rfl) kI_2 ?_
            refine q_ireturn (show mE (mtv 148) 22 = some (.ireturn, 1, 0, 0) from rfl) ?_
            intro r194 g195
            have g195 : qGo 273 [.ref (85), .int (a1), .int (a2), .int (a3)] h r194 := g195
            refine qGo_w (Q := fun r2 => opE (.inl (some (.int ((2 : Int32))))) r2.1 r2.2 RK) g195 (fun _ => ?_)
            have hl196 : qLs (lv_args 0 [.ref (85), .int (a1), .int (a2), .int (a3)]) [some (.ref (85)), some (.int (a1)), some (.int (a2)), some (.int (a3)), none, none, none, none] := qLs_ar 4
            refine q_iload_n (show mE (mtv 273) 0 = some (.iload_n 3, 1, 0, 0) from rfl) (hl196 3 _ rfl) ?_
            refine q_iconst (show mE (mtv 273) 1 = some (.iconst 0, 1, 0, 0) from rfl) kI_0 ?_
            refine q_iload_n (show mE (mtv 273) 2 = some (.iload_n 1, 1, 0, 0) from rfl) (hl196 1 _ rfl) ?_
            refine q_iconst (show mE (mtv 273) 3 = some (.iconst 1, 1, 0, 0) from rfl) kI_1 ?_
            refine q_isub (show mE (mtv 273) 4 = some (.isub, 1, 0, 0) from rfl) ?_
            refine q_staticP (show mE (mtv 273) 5 = some (.invokestatic 157, 3, 211, 0) from rfl) (by decide) rfl rfl rfl (fun _ g => sp_211 g) ?_
            refine q_ifb_eq (t := 37) (show mE (mtv 273) 8 = some (.ifCond .eq 29, 3, 0, 0) from rfl) rfl (fun c197 => ?_) (fun c197 => ?_)
            · exact absurd c157 c197
            · clear c197
              refine q_iload_n (show mE (mtv 273) 11 = some (.iload_n 2, 1, 0, 0) from rfl) (hl196 2 _ rfl) ?_
              refine q_iconst (show mE (mtv 273) 12 = some (.iconst 0, 1, 0, 0) from rfl) kI_0 ?_
              refine q_bipush (show mE (mtv 273) 13 = some (.bipush 9, 2, 0, 0) from rfl) kB_9 ?_
              refine q_staticP (show mE (mtv 273) 15 = some (.invokestatic 157, 3, 211, 0) from rfl) (by decide) rfl rfl rfl (fun _ g => sp_211 g) ?_
              refine q_ifb_eq (t := 37) (show mE (mtv 273) 18 = some (.ifCond .eq 19, 3, 0, 0) from rfl) rfl (fun c198 => ?_) (fun c198 => ?_)
              · refine q_iconst (show mE (mtv 273) 37 = some (.iconst 0, 1, 0, 0) from rfl) kI_0 ?_
                refine q_istore (show mE (mtv 273) 38 = some (.istore 4, 2, 0, 0) from rfl) (Nat.le_of_ble_eq_true rfl) hl196 (fun lv199 (hl200 : qLs lv199 [some (.ref (85)), some (.int (a1)), some (.int (a2)), some (.int (a3)), some (.int ((0 : Int32))), none, none, none]) => ?_)
                refine q_aload_n (show mE (mtv 273) 40 = some (.aload_n 0, 1, 0, 0) from rfl) (hl200 0 _ rfl) ?_
                refine q_iload_n (show mE (mtv 273) 41 = some (.iload_n 1, 1, 0, 0) from rfl) (hl200 1 _ rfl) ?_
                refine q_iconst (show mE (mtv 273) 42 = some (.iconst 1, 1, 0, 0) from rfl) kI_1 ?_
                refine q_bipush (show mE (mtv 273) 43 = some (.bipush 10, 2, 0, 0) from rfl) kB_10 ?_
                refine q_staticP (show mE (mtv 273) 45 = some (.invokestatic 157, 3, 211, 0) from rfl) (by decide) rfl rfl rfl (fun _ g => sp_211 g) ?_
                refine q_ifb_ne (t := 55) (show mE (mtv 273) 48 = some (.ifCond .ne 7, 3, 0, 0) from rfl) rfl (fun c201 => ?_) (fun c201 => ?_)
                · clear c201
                  refine q_iload (show mE (mtv 273) 55 = some (.iload 4, 2, 0, 0) from rfl) (hl200 4 _ rfl) ?_
                  refine q_iff (t := 64) (show mE (mtv 273) 57 = some (.ifCond .ne 7, 3, 0, 0) from rfl) (by decide) rfl ?_
                  refine q_iconst (show mE (mtv 273) 60 = some (.iconst 2, 1, 0, 0) from rfl) kI_2 ?_
                  refine q_goto (t := 65) (show mE (mtv 273) 61 = some (.goto 4, 3, 0, 0) from rfl) rfl ?_
                  refine q_putI th (show mE (mtv 273) 65 = some (.putfield 138, 3, 9, 42) from rfl) (by decide) rfl (fun h202 t203 => ?_)
                  refine q_aload_n (show mE (mtv 273) 68 = some (.aload_n 0, 1, 0, 0) from rfl) (hl200 0 _ rfl) ?_
                  refine q_getIe t203 (show mE (mtv 273) 69 = some (.getfield 138, 3, 9, 42) from rfl) (by decide) rfl (upI_s) ?_
                  refine q_iff (t := 77) (show mE (mtv 273) 72 = some (.ifCond .le 5, 3, 0, 0) from rfl) (by decide) rfl ?_
                  refine q_iconst (show mE (mtv 273) 75 = some (.iconst 0, 1, 0, 0) from rfl) kI_0 ?_
                  refine q_ireturn (show mE (mtv 273) 76 = some (.ireturn, 1, 0, 0) from rfl) ?_
                  exact ⟨(2 : Int32), (0 : Int32), _, _, _, rfl, rfl, t203, upI_s, (fun e => absurd e (by decide)), (RK_t (2 : Int32) hK)⟩
                · exact absurd c3 c201
              · refine q_iload_n (show mE (mtv 273) 21 = some (.iload_n 2, 1, 0, 0) from rfl) (hl196 2 _ rfl) ?_
                refine q_iload_n (show mE (mtv 273) 22 = some (.iload_n 1, 1, 0, 0) from rfl) (hl196 1 _ rfl) ?_
                refine q_imul (show mE (mtv 273) 23 = some (.imul, 1, 0, 0) from rfl) ?_
                refine q_iload_n (show mE (mtv 273) 24 = some (.iload_n 3, 1, 0, 0) from rfl) (hl196 3 _ rfl) ?_
                refine q_iadd (show mE (mtv 273) 25 = some (.iadd, 1, 0, 0) from rfl) ?_
                refine q_aload_n (show mE (mtv 273) 26 = some (.aload_n 0, 1, 0, 0) from rfl) (hl196 0 _ rfl) ?_
                refine q_virtualE (show mE (mtv 273) 27 = some (.invokevirtual 233, 3, 247, 9) from rfl) (by decide) rfl rfl rfl (fun _ g => sp_247 th g) ?_
                rintro _ ⟨v208, j204, h205, rfl, t206, e207⟩
                refine qK_v ?_
                refine q_ic_ge (t := 37) (show mE (mtv 273) 30 = some (.if_icmp .ge 7, 3, 0, 0) from rfl) rfl (fun c209 => ?_) (fun c209 => ?_)
                · refine q_iconst (show mE (mtv 273) 37 = some (.iconst 0, 1, 0, 0) from rfl) kI_0 ?_
                  refine q_istore (show mE (mtv 273) 38 = some (.istore 4, 2, 0, 0) from rfl) (Nat.le_of_ble_eq_true rfl) hl196 (fun lv210 (hl211 : qLs lv210 [some (.ref (85)), some (.int (a1)), some (.int (a2)), some (.int (a3)), some (.int ((0 : Int32))), none, none, none]) => ?_)
                  refine q_aload_n (show mE (mtv 273) 40 = some (.aload_n 0, 1, 0, 0) from rfl) (hl211 0 _ rfl) ?_
                  refine q_iload_n (show mE (mtv 273) 41 = some (.iload_n 1, 1, 0, 0) from rfl) (hl211 1 _ rfl) ?_
                  refine q_iconst (show mE (mtv 273) 42 = some (.iconst 1, 1, 0, 0) from rfl) kI_1 ?_
                  refine q_bipush (show mE (mtv 273) 43 = some (.bipush 10, 2, 0, 0) from rfl) kB_10 ?_
                  refine q_staticP (show mE (mtv 273) 45 = some (.invokestatic 157, 3, 211, 0) from rfl) (by decide) rfl rfl rfl (fun _ g => sp_211 g) ?_
                  refine q_ifb_ne (t := 55) (show mE (mtv 273) 48 = some (.ifCond .ne 7, 3, 0, 0) from rfl) rfl (fun c212 => ?_) (fun c212 => ?_)
                  · clear c212
                    refine q_iload (show mE (mtv 273) 55 = some (.iload 4, 2, 0, 0) from rfl) (hl211 4 _ rfl) ?_
                    refine q_iff (t := 64) (show mE (mtv 273) 57 = some (.ifCond .ne 7, 3, 0, 0) from rfl) (by decide) rfl ?_
                    refine q_iconst (show mE (mtv 273) 60 = some (.iconst 2, 1, 0, 0) from rfl) kI_2 ?_
                    refine q_goto (t := 65) (show mE (mtv 273) 61 = some (.goto 4, 3, 0, 0) from rfl) rfl ?_
                    refine q_putI t206 (show mE (mtv 273) 65 = some (.putfield 138, 3, 9, 42) from rfl) (by decide) rfl (fun h213 t214 => ?_)
                    refine q_aload_n (show mE (mtv 273) 68 = some (.aload_n 0, 1, 0, 0) from rfl) (hl211 0 _ rfl) ?_
                    refine q_getIe t214 (show mE (mtv 273) 69 = some (.getfield 138, 3, 9, 42) from rfl) (by decide) rfl (upI_s) ?_
                    refine q_iff (t := 77) (show mE (mtv 273) 72 = some (.ifCond .le 5, 3, 0, 0) from rfl) (by decide) rfl ?_
                    refine q_iconst (show mE (mtv 273) 75 = some (.iconst 0, 1, 0, 0) from rfl) kI_0 ?_
                    refine q_ireturn (show mE (mtv 273) 76 = some (.ireturn, 1, 0, 0) from rfl) ?_
                    exact ⟨(2 : Int32), (0 : Int32), _, _, _, rfl, rfl, t214, upI_s, (fun e => absurd e (by decide)), p13 c3 c7 u120 c121 c157 c160 c198 v208 j204 e207 c209⟩
                  · exact absurd c3 c212
                · refine q_iconst (show mE (mtv 273) 33 = some (.iconst 1, 1, 0, 0) from rfl) kI_1 ?_
                  refine q_goto (t := 38) (show mE (mtv 273) 34 = some (.goto 4, 3, 0, 0) from rfl) rfl ?_
                  refine q_istore (show mE (mtv 273) 38 = some (.istore 4, 2, 0, 0) from rfl) (Nat.le_of_ble_eq_true rfl) hl196 (fun lv215 (hl216 : qLs lv215 [some (.ref (85)), some (.int (a1)), some (.int (a2)), some (.int (a3)), some (.int ((1 : Int32))), none, none, none]) => ?_)
                  refine q_aload_n (show mE (mtv 273) 40 = some (.aload_n 0, 1, 0, 0) from rfl) (hl216 0 _ rfl) ?_
                  refine q_iload_n (show mE (mtv 273) 41 = some (.iload_n 1, 1, 0, 0) from rfl) (hl216 1 _ rfl) ?_
                  refine q_iconst (show mE (mtv 273) 42 = some (.iconst 1, 1, 0, 0) from rfl) kI_1 ?_
                  refine q_bipush (show mE (mtv 273) 43 = some (.bipush 10, 2, 0, 0) from rfl) kB_10 ?_
                  refine q_staticP (show mE (mtv 273) 45 = some (.invokestatic 157, 3, 211, 0) from rfl) (by decide) rfl rfl rfl (fun _ g => sp_211 g) ?_
                  refine q_ifb_ne (t := 55) (show mE (mtv 273) 48 = some (.ifCond .ne 7, 3, 0, 0) from rfl) rfl (fun c217 => ?_) (fun c217 => ?_)
                  · clear c217
                    refine q_iload (show mE (mtv 273) 55 = some (.iload 4, 2, 0, 0) from rfl) (hl216 4 _ rfl) ?_
                    refine q_ift (t := 64) (show mE (mtv 273) 57 = some (.ifCond .ne 7, 3, 0, 0) from rfl) (by decide) rfl ?_
                    refine q_iconst (show mE (mtv 273) 64 = some (.iconst 0, 1, 0, 0) from rfl) kI_0 ?_
                    refine q_putI t206 (show mE (mtv 273) 65 = some (.putfield 138, 3, 9, 42) from rfl) (by decide) rfl (fun h218 t219 => ?_)
                    refine q_aload_n (show mE (mtv 273) 68 = some (.aload_n 0, 1, 0, 0) from rfl) (hl216 0 _ rfl) ?_
                    refine q_getIe t219 (show mE (mtv 273) 69 = some (.getfield 138, 3, 9, 42) from rfl) (by decide) rfl (upI_s) ?_
                    refine q_ift (t := 77) (show mE (mtv 273) 72 = some (.ifCond .le 5, 3, 0, 0) from rfl) (by decide) rfl ?_
                    refine q_iload_n (show mE (mtv 273) 77 = some (.iload_n 2, 1, 0, 0) from rfl) (hl216 2 _ rfl) ?_
                    refine q_iload_n (show mE (mtv 273) 78 = some (.iload_n 1, 1, 0, 0) from rfl) (hl216 1 _ rfl) ?_
                    refine q_imul (show mE (mtv 273) 79 = some (.imul, 1, 0, 0) from rfl) ?_
                    refine q_iload_n (show mE (mtv 273) 80 = some (.iload_n 3, 1, 0, 0) from rfl) (hl216 3 _ rfl) ?_
                    refine q_iadd (show mE (mtv 273) 81 = some (.iadd, 1, 0, 0) from rfl) ?_
                    refine q_istore (show mE (mtv 273) 82 = some (.istore 5, 2, 0, 0) from rfl) (Nat.le_of_ble_eq_true rfl) hl216 (fun lv220 (hl221 : qLs lv220 [some (.ref (85)), some (.int (a1)), some (.int (a2)), some (.int (a3)), some (.int ((1 : Int32))), some (.int ((a2 * a1) + a3)), none, none]) => ?_)
                    refine q_bipush (show mE (mtv 273) 84 = some (.bipush 16, 2, 0, 0) from rfl) kB_16 ?_
                    refine q_istore (show mE (mtv 273) 86 = some (.istore 6, 2, 0, 0) from rfl) (Nat.le_of_ble_eq_true rfl) hl221 (fun lv222 (hl223 : qLs lv222 [some (.ref (85)), some (.int (a1)), some (.int (a2)), some (.int (a3)), some (.int ((1 : Int32))), some (.int ((a2 * a1) + a3)), some (.int ((16 : Int32))), none]) => ?_)
                    exact p14 c3 c7 u120 c121 c157 c160 c198 v208 j204 e207 c209 h218 t219 _ lv222 (qLs_wk hl223 (⟨rfl, rfl, rfl, trivial⟩))
                  · exact absurd c3 c217
        · refine q_throw (show mE (mtv 149) 38 = some (.new 360, 3, 1004, 0) from rfl) (by decide) ?_
          refine qKh_x (hp := 19) (c := (21, sDr 5 (lv_args 0 [.ref (0), .int (a1), .int (a2), .int (a3), .ref (117)]), [], h)) rfl (by decide) (fun _ _ => rfl) ?_
          refine q_iconst (show mE (mtv 148) 21 = some (.iconst 2, 1, 0, 0) from rfl) kI_2 ?_
          refine q_ireturn (show mE (mtv 148) 22 = some (.ireturn, 1, 0, 0) from rfl) ?_
          intro r224 g225
          have g225 : qGo 273 [.ref (85), .int (a1), .int (a2), .int (a3)] h r224 := g225
          refine qGo_w (Q := fun r2 => opE (.inl (some (.int ((2 : Int32))))) r2.1 r2.2 RK) g225 (fun _ => ?_)
          have hl226 : qLs (lv_args 0 [.ref (85), .int (a1), .int (a2), .int (a3)]) [some (.ref (85)), some (.int (a1)), some (.int (a2)), some (.int (a3)), none, none, none, none] := qLs_ar 4
          refine q_iload_n (show mE (mtv 273) 0 = some (.iload_n 3, 1, 0, 0) from rfl) (hl226 3 _ rfl) ?_
          refine q_iconst (show mE (mtv 273) 1 = some (.iconst 0, 1, 0, 0) from rfl) kI_0 ?_
          refine q_iload_n (show mE (mtv 273) 2 = some (.iload_n 1, 1, 0, 0) from rfl) (hl226 1 _ rfl) ?_
          refine q_iconst (show mE (mtv 273) 3 = some (.iconst 1, 1, 0, 0) from rfl) kI_1 ?_
          refine q_isub (show mE (mtv 273) 4 = some (.isub, 1, 0, 0) from rfl) ?_
          refine q_staticP (show mE (mtv 273) 5 = some (.invokestatic 157, 3, 211, 0) from rfl) (by decide) rfl rfl rfl (fun _ g => sp_211 g) ?_
          refine q_ifb_eq (t := 37) (show mE (mtv 273) 8 = some (.ifCond .eq 29, 3, 0, 0) from rfl) rfl (fun c227 => ?_) (fun c227 => ?_)
          · clear c227
            refine q_iconst (show mE (mtv 273) 37 = some (.iconst 0, 1, 0, 0) from rfl) kI_0 ?_
            refine q_istore (show mE (mtv 273) 38 = some (.istore 4, 2, 0, 0) from rfl) (Nat.le_of_ble_eq_true rfl) hl226 (fun lv228 (hl229 : qLs lv228 [some (.ref (85)), some (.int (a1)), some (.int (a2)), some (.int (a3)), some (.int ((0 : Int32))), none, none, none]) => ?_)
            refine q_aload_n (show mE (mtv 273) 40 = some (.aload_n 0, 1, 0, 0) from rfl) (hl229 0 _ rfl) ?_
            refine q_iload_n (show mE (mtv 273) 41 = some (.iload_n 1, 1, 0, 0) from rfl) (hl229 1 _ rfl) ?_
            refine q_iconst (show mE (mtv 273) 42 = some (.iconst 1, 1, 0, 0) from rfl) kI_1 ?_
            refine q_bipush (show mE (mtv 273) 43 = some (.bipush 10, 2, 0, 0) from rfl) kB_10 ?_
            refine q_staticP (show mE (mtv 273) 45 = some (.invokestatic 157, 3, 211, 0) from rfl) (by decide) rfl rfl rfl (fun _ g => sp_211 g) ?_
            refine q_ifb_ne (t := 55) (show mE (mtv 273) 48 = some (.ifCond .ne 7, 3, 0, 0) from rfl) rfl (fun c230 => ?_) (fun c230 => ?_)
            · clear c230
              refine q_iload (show mE (mtv 273) 55 = some (.iload 4, 2, 0, 0) from rfl) (hl229 4 _ rfl) ?_
              refine q_iff (t := 64) (show mE (mtv 273) 57 = some (.ifCond .ne 7, 3, 0, 0) from rfl) (by decide) rfl ?_
              refine q_iconst (show mE (mtv 273) 60 = some (.iconst 2, 1, 0, 0) from rfl) kI_2 ?_
              refine q_goto (t := 65) (show mE (mtv 273) 61 = some (.goto 4, 3, 0, 0) from rfl) rfl ?_
              refine q_putI th (show mE (mtv 273) 65 = some (.putfield 138, 3, 9, 42) from rfl) (by decide) rfl (fun h231 t232 => ?_)
              refine q_aload_n (show mE (mtv 273) 68 = some (.aload_n 0, 1, 0, 0) from rfl) (hl229 0 _ rfl) ?_
              refine q_getIe t232 (show mE (mtv 273) 69 = some (.getfield 138, 3, 9, 42) from rfl) (by decide) rfl (upI_s) ?_
              refine q_iff (t := 77) (show mE (mtv 273) 72 = some (.ifCond .le 5, 3, 0, 0) from rfl) (by decide) rfl ?_
              refine q_iconst (show mE (mtv 273) 75 = some (.iconst 0, 1, 0, 0) from rfl) kI_0 ?_
              refine q_ireturn (show mE (mtv 273) 76 = some (.ireturn, 1, 0, 0) from rfl) ?_
              exact ⟨(2 : Int32), (0 : Int32), _, _, _, rfl, rfl, t232, upI_s, (fun e => absurd e (by decide)), (RK_t (2 : Int32) hK)⟩
            · exact absurd c3 c230
          · exact absurd c227 c157
  · refine q_throw (show mE (mtv 146) 10 = some (.new 81, 3, 1000, 0) from rfl) (by decide) ?_
    refine qK_x ?_
    refine qKh_x (hp := 15) (c := (17, sDr 5 (lv_args 0 [.ref (0), .int (a1), .int (a2), .int (a3), .ref (117)]), [], h)) rfl (by decide) (fun _ _ => rfl) ?_
    refine q_iconst (show mE (mtv 148) 17 = some (.iconst 1, 1, 0, 0) from rfl) kI_1 ?_
    refine q_ireturn (show mE (mtv 148) 18 = some (.ireturn, 1, 0, 0) from rfl) ?_
    intro r233 g234
    have g234 : qGo 273 [.ref (85), .int (a1), .int (a2), .int (a3)] h r233 := g234
    refine qGo_w (Q := fun r2 => opE (.inl (some (.int ((1 : Int32))))) r2.1 r2.2 RK) g234 (fun _ => ?_)
    have hl235 : qLs (lv_args 0 [.ref (85), .int (a1), .int (a2), .int (a3)]) [some (.ref (85)), some (.int (a1)), some (.int (a2)), some (.int (a3)), none, none, none, none] := qLs_ar 4
    refine q_iload_n (show mE (mtv 273) 0 = some (.iload_n 3, 1, 0, 0) from rfl) (hl235 3 _ rfl) ?_
    refine q_iconst (show mE (mtv 273) 1 = some (.iconst 0, 1, 0, 0) from rfl) kI_0 ?_
    refine q_iload_n (show mE (mtv 273) 2 = some (.iload_n 1, 1, 0, 0) from rfl) (hl235 1 _ rfl) ?_
    refine q_iconst (show mE (mtv 273) 3 = some (.iconst 1, 1, 0, 0) from rfl) kI_1 ?_
    refine q_isub (show mE (mtv 273) 4 = some (.isub, 1, 0, 0) from rfl) ?_
    refine q_staticP (show mE (mtv 273) 5 = some (.invokestatic 157, 3, 211, 0) from rfl) (by decide) rfl rfl rfl (fun _ g => sp_211 g) ?_
    refine q_ifb_eq (t := 37) (show mE (mtv 273) 8 = some (.ifCond .eq 29, 3, 0, 0) from rfl) rfl (fun c236 => ?_) (fun c236 => ?_)
    · refine q_iconst (show mE (mtv 273) 37 = some (.iconst 0, 1, 0, 0) from rfl) kI_0 ?_
      refine q_istore (show mE (mtv 273) 38 = some (.istore 4, 2, 0, 0) from rfl) (Nat.le_of_ble_eq_true rfl) hl235 (fun lv237 (hl238 : qLs lv237 [some (.ref (85)), some (.int (a1)), some (.int (a2)), some (.int (a3)), some (.int ((0 : Int32))), none, none, none]) => ?_)
      refine q_aload_n (show mE (mtv 273) 40 = some (.aload_n 0, 1, 0, 0) from rfl) (hl238 0 _ rfl) ?_
      refine q_iload_n (show mE (mtv 273) 41 = some (.iload_n 1, 1, 0, 0) from rfl) (hl238 1 _ rfl) ?_
      refine q_iconst (show mE (mtv 273) 42 = some (.iconst 1, 1, 0, 0) from rfl) kI_1 ?_
      refine q_bipush (show mE (mtv 273) 43 = some (.bipush 10, 2, 0, 0) from rfl) kB_10 ?_
      refine q_staticP (show mE (mtv 273) 45 = some (.invokestatic 157, 3, 211, 0) from rfl) (by decide) rfl rfl rfl (fun _ g => sp_211 g) ?_
      refine q_ifb_ne (t := 55) (show mE (mtv 273) 48 = some (.ifCond .ne 7, 3, 0, 0) from rfl) rfl (fun c239 => ?_) (fun c239 => ?_)
      · exact absurd c239 c3
      · clear c239
        refine q_iconst (show mE (mtv 273) 51 = some (.iconst 1, 1, 0, 0) from rfl) kI_1 ?_
        refine q_goto (t := 65) (show mE (mtv 273) 52 = some (.goto 13, 3, 0, 0) from rfl) rfl ?_
        refine q_putI th (show mE (mtv 273) 65 = some (.putfield 138, 3, 9, 42) from rfl) (by decide) rfl (fun h240 t241 => ?_)
        refine q_aload_n (show mE (mtv 273) 68 = some (.aload_n 0, 1, 0, 0) from rfl) (hl238 0 _ rfl) ?_
        refine q_getIe t241 (show mE (mtv 273) 69 = some (.getfield 138, 3, 9, 42) from rfl) (by decide) rfl (upI_s) ?_
        refine q_iff (t := 77) (show mE (mtv 273) 72 = some (.ifCond .le 5, 3, 0, 0) from rfl) (by decide) rfl ?_
        refine q_iconst (show mE (mtv 273) 75 = some (.iconst 0, 1, 0, 0) from rfl) kI_0 ?_
        refine q_ireturn (show mE (mtv 273) 76 = some (.ireturn, 1, 0, 0) from rfl) ?_
        exact ⟨(1 : Int32), (0 : Int32), _, _, _, rfl, rfl, t241, upI_s, (fun e => absurd e (by decide)), (RK_t (1 : Int32) hK)⟩
    · refine q_iload_n (show mE (mtv 273) 11 = some (.iload_n 2, 1, 0, 0) from rfl) (hl235 2 _ rfl) ?_
      refine q_iconst (show mE (mtv 273) 12 = some (.iconst 0, 1, 0, 0) from rfl) kI_0 ?_
      refine q_bipush (show mE (mtv 273) 13 = some (.bipush 9, 2, 0, 0) from rfl) kB_9 ?_
      refine q_staticP (show mE (mtv 273) 15 = some (.invokestatic 157, 3, 211, 0) from rfl) (by decide) rfl rfl rfl (fun _ g => sp_211 g) ?_
      refine q_ifb_eq (t := 37) (show mE (mtv 273) 18 = some (.ifCond .eq 19, 3, 0, 0) from rfl) rfl (fun c242 => ?_) (fun c242 => ?_)
      · refine q_iconst (show mE (mtv 273) 37 = some (.iconst 0, 1, 0, 0) from rfl) kI_0 ?_
        refine q_istore (show mE (mtv 273) 38 = some (.istore 4, 2, 0, 0) from rfl) (Nat.le_of_ble_eq_true rfl) hl235 (fun lv243 (hl244 : qLs lv243 [some (.ref (85)), some (.int (a1)), some (.int (a2)), some (.int (a3)), some (.int ((0 : Int32))), none, none, none]) => ?_)
        refine q_aload_n (show mE (mtv 273) 40 = some (.aload_n 0, 1, 0, 0) from rfl) (hl244 0 _ rfl) ?_
        refine q_iload_n (show mE (mtv 273) 41 = some (.iload_n 1, 1, 0, 0) from rfl) (hl244 1 _ rfl) ?_
        refine q_iconst (show mE (mtv 273) 42 = some (.iconst 1, 1, 0, 0) from rfl) kI_1 ?_
        refine q_bipush (show mE (mtv 273) 43 = some (.bipush 10, 2, 0, 0) from rfl) kB_10 ?_
        refine q_staticP (show mE (mtv 273) 45 = some (.invokestatic 157, 3, 211, 0) from rfl) (by decide) rfl rfl rfl (fun _ g => sp_211 g) ?_
        refine q_ifb_ne (t := 55) (show mE (mtv 273) 48 = some (.ifCond .ne 7, 3, 0, 0) from rfl) rfl (fun c245 => ?_) (fun c245 => ?_)
        · exact absurd c245 c3
        · clear c245
          refine q_iconst (show mE (mtv 273) 51 = some (.iconst 1, 1, 0, 0) from rfl) kI_1 ?_
          refine q_goto (t := 65) (show mE (mtv 273) 52 = some (.goto 13, 3, 0, 0) from rfl) rfl ?_
          refine q_putI th (show mE (mtv 273) 65 = some (.putfield 138, 3, 9, 42) from rfl) (by decide) rfl (fun h246 t247 => ?_)
          refine q_aload_n (show mE (mtv 273) 68 = some (.aload_n 0, 1, 0, 0) from rfl) (hl244 0 _ rfl) ?_
          refine q_getIe t247 (show mE (mtv 273) 69 = some (.getfield 138, 3, 9, 42) from rfl) (by decide) rfl (upI_s) ?_
          refine q_iff (t := 77) (show mE (mtv 273) 72 = some (.ifCond .le 5, 3, 0, 0) from rfl) (by decide) rfl ?_
          refine q_iconst (show mE (mtv 273) 75 = some (.iconst 0, 1, 0, 0) from rfl) kI_0 ?_
          refine q_ireturn (show mE (mtv 273) 76 = some (.ireturn, 1, 0, 0) from rfl) ?_
          exact ⟨(1 : Int32), (0 : Int32), _, _, _, rfl, rfl, t247, upI_s, (fun e => absurd e (by decide)), (RK_t (1 : Int32) hK)⟩
      · refine q_iload_n (show mE (mtv 273) 21 = some (.iload_n 2, 1, 0, 0) from rfl) (hl235 2 _ rfl) ?_
        refine q_iload_n (show mE (mtv 273) 22 = some (.iload_n 1, 1, 0, 0) from rfl) (hl235 1 _ rfl) ?_
        refine q_imul (show mE (mtv 273) 23 = some (.imul, 1, 0, 0) from rfl) ?_
        refine q_iload_n (show mE (mtv 273) 24 = some (.iload_n 3, 1, 0, 0) from rfl) (hl235 3 _ rfl) ?_
        refine q_iadd (show mE (mtv 273) 25 = some (.iadd, 1, 0, 0) from rfl) ?_
        refine q_aload_n (show mE (mtv 273) 26 = some (.aload_n 0, 1, 0, 0) from rfl) (hl235 0 _ rfl) ?_
        refine q_virtualE (show mE (mtv 273) 27 = some (.invokevirtual 233, 3, 247, 9) from rfl) (by decide) rfl rfl rfl (fun _ g => sp_247 th g) ?_
        rintro _ ⟨v252, j248, h249, rfl, t250, e251⟩
        refine qK_v ?_
        refine q_ic_ge (t := 37) (show mE (mtv 273) 30 = some (.if_icmp .ge 7, 3, 0, 0) from rfl) rfl (fun c253 => ?_) (fun c253 => ?_)
        · refine q_iconst (show mE (mtv 273) 37 = some (.iconst 0, 1, 0, 0) from rfl) kI_0 ?_
          refine q_istore (show mE (mtv 273) 38 = some (.istore 4, 2, 0, 0) from rfl) (Nat.le_of_ble_eq_true rfl) hl235 (fun lv254 (hl255 : qLs lv254 [some (.ref (85)), some (.int (a1)), some (.int (a2)), some (.int (a3)), some (.int ((0 : Int32))), none, none, none]) => ?_)
          refine q_aload_n (show mE (mtv 273) 40 = some (.aload_n 0, 1, 0, 0) from rfl) (hl255 0 _ rfl) ?_
          refine q_iload_n (show mE (mtv 273) 41 = some (.iload_n 1, 1, 0, 0) from rfl) (hl255 1 _ rfl) ?_
          refine q_iconst (show mE (mtv 273) 42 = some (.iconst 1, 1, 0, 0) from rfl) kI_1 ?_
          refine q_bipush (show mE (mtv 273) 43 = some (.bipush 10, 2, 0, 0) from rfl) kB_10 ?_
          refine q_staticP (show mE (mtv 273) 45 = some (.invokestatic 157, 3, 211, 0) from rfl) (by decide) rfl rfl rfl (fun _ g => sp_211 g) ?_
          refine q_ifb_ne (t := 55) (show mE (mtv 273) 48 = some (.ifCond .ne 7, 3, 0, 0) from rfl) rfl (fun c256 => ?_) (fun c256 => ?_)
          · exact absurd c256 c3
          · clear c256
            refine q_iconst (show mE (mtv 273) 51 = some (.iconst 1, 1, 0, 0) from rfl) kI_1 ?_
            refine q_goto (t := 65) (show mE (mtv 273) 52 = some (.goto 13, 3, 0, 0) from rfl) rfl ?_
            refine q_putI t250 (show mE (mtv 273) 65 = some (.putfield 138, 3, 9, 42) from rfl) (by decide) rfl (fun h257 t258 => ?_)
            refine q_aload_n (show mE (mtv 273) 68 = some (.aload_n 0, 1, 0, 0) from rfl) (hl255 0 _ rfl) ?_
            refine q_getIe t258 (show mE (mtv 273) 69 = some (.getfield 138, 3, 9, 42) from rfl) (by decide) rfl (upI_s) ?_
            refine q_iff (t := 77) (show mE (mtv 273) 72 = some (.ifCond .le 5, 3, 0, 0) from rfl) (by decide) rfl ?_
            refine q_iconst (show mE (mtv 273) 75 = some (.iconst 0, 1, 0, 0) from rfl) kI_0 ?_
            refine q_ireturn (show mE (mtv 273) 76 = some (.ireturn, 1, 0, 0) from rfl) ?_
            exact ⟨(1 : Int32), (0 : Int32), _, _, _, rfl, rfl, t258, upI_s, (fun e => absurd e (by decide)), p15 c3 c236 c242 v252 j248 e251 c253⟩
        · refine q_iconst (show mE (mtv 273) 33 = some (.iconst 1, 1, 0, 0) from rfl) kI_1 ?_
          refine q_goto (t := 38) (show mE (mtv 273) 34 = some (.goto 4, 3, 0, 0) from rfl) rfl ?_
          refine q_istore (show mE (mtv 273) 38 = some (.istore 4, 2, 0, 0) from rfl) (Nat.le_of_ble_eq_true rfl) hl235 (fun lv259 (hl260 : qLs lv259 [some (.ref (85)), some (.int (a1)), some (.int (a2)), some (.int (a3)), some (.int ((1 : Int32))), none, none, none]) => ?_)
          refine q_aload_n (show mE (mtv 273) 40 = some (.aload_n 0, 1, 0, 0) from rfl) (hl260 0 _ rfl) ?_
          refine q_iload_n (show mE (mtv 273) 41 = some (.iload_n 1, 1, 0, 0) from rfl) (hl260 1 _ rfl) ?_
          refine q_iconst (show mE (mtv 273) 42 = some (.iconst 1, 1, 0, 0) from rfl) kI_1 ?_
          refine q_bipush (show mE (mtv 273) 43 = some (.bipush 10, 2, 0, 0) from rfl) kB_10 ?_
          refine q_staticP (show mE (mtv 273) 45 = some (.invokestatic 157, 3, 211, 0) from rfl) (by decide) rfl rfl rfl (fun _ g => sp_211 g) ?_
          refine q_ifb_ne (t := 55) (show mE (mtv 273) 48 = some (.ifCond .ne 7, 3, 0, 0) from rfl) rfl (fun c261 => ?_) (fun c261 => ?_)
          · exact absurd c261 c3
          · clear c261
            refine q_iconst (show mE (mtv 273) 51 = some (.iconst 1, 1, 0, 0) from rfl) kI_1 ?_
            refine q_goto (t := 65) (show mE (mtv 273) 52 = some (.goto 13, 3, 0, 0) from rfl) rfl ?_
            refine q_putI t250 (show mE (mtv 273) 65 = some (.putfield 138, 3, 9, 42) from rfl) (by decide) rfl (fun h262 t263 => ?_)
            refine q_aload_n (show mE (mtv 273) 68 = some (.aload_n 0, 1, 0, 0) from rfl) (hl260 0 _ rfl) ?_
            refine q_getIe t263 (show mE (mtv 273) 69 = some (.getfield 138, 3, 9, 42) from rfl) (by decide) rfl (upI_s) ?_
            refine q_iff (t := 77) (show mE (mtv 273) 72 = some (.ifCond .le 5, 3, 0, 0) from rfl) (by decide) rfl ?_
            refine q_iconst (show mE (mtv 273) 75 = some (.iconst 0, 1, 0, 0) from rfl) kI_0 ?_
            refine q_ireturn (show mE (mtv 273) 76 = some (.ireturn, 1, 0, 0) from rfl) ?_
            exact ⟨(1 : Int32), (0 : Int32), _, _, _, rfl, rfl, t263, upI_s, (fun e => absurd e (by decide)), p16 c3 c236 c242 v252 j248 e251 c253⟩
theorem ok_35 {h : sH} {I : Nat → Nat → Int32} {L : Nat → Nat → Int64} {R : Nat → Nat} (th : qH h I L R) (hK : RK I L R) (hG : RG I) {a1 : Int32} {a2 : Int32} {a3 : Int32} {r : sR} (gW : qGo 148 [.ref (0), .int (a1), .int (a2), .int (a3), .ref (117)] h r) : ∀ r2 : sR, qGo 273 [.ref (85), .int (a1), .int (a2), .int (a3)] r.2 r2 → opE r.1 r2.1 r2.2 RK := qp_35 th hK hG gW
  (fun c3 c7 _ _ _ _ _ _ _ => (i32_no c3.1 c7).elim)
  (fun c3 c7 _ _ _ _ _ _ _ _ _ _ _ _ => (i32_no c3.1 c7).elim)
  (fun c3 c7 _ _ _ _ _ => (i32_no c3.1 c7).elim)
  (fun c3 c7 _ _ _ _ _ _ _ _ _ => (i32_no c3.1 c7).elim)
  (fun c3 c7 _ _ _ _ _ _ _ _ _ _ _ _ _ _ => (i32_no c3.1 c7).elim)
  (fun c3 c7 _ _ _ _ _ _ _ _ => (i32_no c3.1 c7).elim)
  (fun c3 c7 _ _ _ _ _ _ _ _ _ _ _ _ _ => (i32_no c3.1 c7).elim)
  (fun _ _ _ _ _ _ v141 j137 e140 _ => RK_t 2 (uns_R hK e140).2.2)
  (fun c3 _ _ c121 c125 c131 v141 j137 e140 c142 _ _ _ _ _ => by
    obtain ⟨p, q, s, p1, p2, q2, s1, rfl, rfl, rfl, er, b⟩ := plan_N c3 c131 c125
    obtain ⟨d1, d2⟩ := days_N hK p1 p2
    have u := (uns_N hK.mi).2
    rw [d1, rng_iff (by omega) (by omega)] at c121
    rw [(uns_R hK e140).1, er, oN_le (by omega) (by omega)] at c142
    exfalso
    have := (Nat.div_lt_iff_lt_mul p1).mp (show (unsN (loN I) (ndI I) + p - 1) / p < q + 1 by omega)
    rw [Nat.succ_mul] at this
    omega)
  (fun c3 _ _ c121 c157 _ _ c168 => by
    obtain ⟨p, p1, p2, rfl⟩ := rg_b (a := 1) (b := 10) rfl rfl (by omega) (by omega) c3
    obtain ⟨d1, d2⟩ := days_N hK p1 p2
    have e := i32_clamp (d := a2) (by have := c121.1; rw [Int32.le_iff_toInt_le] at this; exact this)
    rw [d1, e, rng_iff (nn_lt a2) (by omega)] at c121
    refine c168 ?_
    rw [e]
    exact ⟨(oN_le (a := 0) (by omega) (nn_lt a2)).mpr (Nat.zero_le _), (oN_le (b := 9) (nn_lt a2) (by omega)).mpr (by omega)⟩)
  (fun c3 _ _ c121 c157 c160 _ c168 v178 j174 e177 c179 => by
    obtain ⟨p, q, s, p1, p2, q2, s1, rfl, rfl, rfl, er, b⟩ := plan_N c3 c168 c157
    have u := (uns_N hK.mi).2
    rw [(uns_R hK e177).1, er, oN_le (by omega) (by omega)] at c179
    rw [er, hK.n10] at c160
    rcases cnt_150 hK (x := Int32.ofNat (q * p + s)) (ndI I) 0 (Nat.zero_add _) with ⟨d, _, hd, hl, e1, _⟩ | ⟨g, _⟩
    · have := rk_uns hd hl
      have := (oN_inj (by omega) (by omega)).mp e1
      omega
    · exact c160 g)
  (fun c3 _ _ c121 c157 c160 _ c168 v178 j174 e177 c179 h188 t189 N lv hl => by
    obtain ⟨p, q, s, p1, p2, q2, s1, rfl, rfl, rfl, er, b⟩ := plan_N c3 c168 c157
    have u := (uns_N hK.mi).2
    obtain ⟨u1, u2, u3⟩ := uns_R hK e177
    rw [u1, er, oN_le (by omega) (by omega)] at c179
    rw [er, hK.n10] at c160
    rw [er, hK.n10] at t189
    rw [er] at hl
    have aS := agS_up (x := (0 : Int32)) scr_t (agS_r u2)
    have h0 := RK_t 0 u3
    have ld := loN_f aS
    have nd := ndI_S aS
    have v0 : vis (loN (upI j174 85 42 (0 : Int32))) (ndI (upI j174 85 42 (0 : Int32))) 16 0 = 0 := vis_top (fun d => (lost_N h0.mi d).2)
    refine qW_mono ?_ ((lk_273 h0.mi (r0 := q * p + s) (by rw [ld, nd]; omega) N).1 _ 16 lv h188 t189 (fun _ _ _ => rfl) (Nat.le_refl 16) (by rw [v0]; omega) (by rw [v0]; exact hl))
    rintro r ⟨d, J, h1, rfl, w1, w2, w3, w4, w5⟩
    rw [ld, nd] at w5
    rw [nd] at w3
    rw [ld] at w4
    rcases cnt_150 hK (x := Int32.ofNat (q * p + s)) (ndI I) 0 (Nat.zero_add _) with ⟨d', _, hd, hl', e1, e2⟩ | ⟨g, _⟩
    · have hdb := hK.mi.db
      have := rk_uns hd hl'
      have e3 := (oN_inj (by omega) (by omega)).mp e1
      have : d = d' := rk_inj (l := loN I) (n := ndI I) w3 hd (w5.trans e3.symm)
      subst this
      exact ⟨0, Int32.ofNat d, J, _, R, rfl, rfl, w1, (w2 85 42 (by decide)).trans upI_s, fun _ => upL_s.trans (congrArg Int32.toInt64 e2), RK_L (RK_s h0 (agS_r w2) (fun _ _ => rfl) rfl (fun _ => rfl))⟩
    · exact absurd g c160)
  (fun _ _ _ _ _ _ _ v208 j204 e207 _ => RK_t 2 (uns_R hK e207).2.2)
  (fun c3 _ _ c121 c157 c160 c198 v208 j204 e207 c209 h218 t219 N lv hl => by
    obtain ⟨p, q, s, p1, p2, q2, s1, rfl, rfl, rfl, er, b⟩ := plan_N c3 c198 c157
    have u := (uns_N hK.mi).2
    obtain ⟨u1, u2, u3⟩ := uns_R hK e207
    rw [u1, er, oN_le (by omega) (by omega)] at c209
    rw [er, hK.n10] at c160
    rw [er] at hl
    have aS := agS_up (x := (0 : Int32)) scr_t (agS_r u2)
    have h0 := RK_t 0 u3
    have ld := loN_f aS
    have nd := ndI_S aS
    have v0 : vis (loN (upI j204 85 42 (0 : Int32))) (ndI (upI j204 85 42 (0 : Int32))) 16 0 = 0 := vis_top (fun d => (lost_N h0.mi d).2)
    refine qW_mono ?_ ((lk_273 h0.mi (r0 := q * p + s) (by rw [ld, nd]; omega) N).1 _ 16 lv h218 t219 (fun _ _ _ => rfl) (Nat.le_refl 16) (by rw [v0]; omega) (by rw [v0]; exact hl))
    rintro r ⟨d, J, h1, rfl, w1, w2, w3, w4, w5⟩
    exfalso
    rw [ld, nd] at w5
    rw [nd] at w3
    rw [ld] at w4
    rcases cnt_150 hK (x := Int32.ofNat (q * p + s)) (ndI I) 0 (Nat.zero_add _) with ⟨d', _, hd, _, _, e2⟩ | ⟨_, g⟩
    · have hdb := hK.mi.db
      rw [c160] at e2
      have := congrArg Int32.toInt e2
      rw [ofN_toInt (by omega), show (-1 : Int32).toInt = -1 by decide] at this
      omega
    · exact g d (Nat.zero_le _) w3 w4 (by rw [w5]))
  (fun _ _ _ v252 j248 e251 _ => RK_t 1 (uns_R hK e251).2.2)
  (fun _ _ _ v252 j248 e251 _ => RK_t 1 (uns_R hK e251).2.2)
