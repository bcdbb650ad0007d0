/-! part 56: how many keys pins let in, on both sides -/
def cwP (I : Nat → Nat → Int32) (x : Int64) (lim : Int32) (J : Nat → Nat → Int32) (v : Int32) : Prop := ∀ m nc, (I 1 2).toNatClampNeg = m → I 1 1 = Int32.ofNat nc → m ≤ 6 → nc ≤ 6 → 1 ≤ nc → agW J I ∧ wayC x lim m nc 0 J ∧ v = jS (fun d => bj (lP x 0 d) * wU (lP x) (lA lim) m (nc - 1) 0 d) m
theorem sp_34 {h : sH} {r : sR} {x : Int64} {lim : Int32} {I : Nat → Nat → Int32} {L : Nat → Nat → Int64} {R : Nat → Nat} (th : qH h I L R) (g : qGo 34 [.ref (1), .long x, .int lim] h r) : ∃ v J h1, r = (.inl (some (.int v)), h1) ∧ qH h1 J L R ∧ cwP I x lim J v := by
  refine qg_34 (Q := fun r => ∃ v J h1, r = (.inl (some (.int v)), h1) ∧ qH h1 J L R ∧ cwP I x lim J v) th g (fun N lv hl => ?_)
  refine qW_mono ?_ ((fl_34 N).1 I x lim (I 1 1 - 1) 0 lv h th hl)
  intro r ⟨n, z, e, h1, q1, q2⟩
  refine ⟨z.1, z.2, h1, q1, q2, ?_⟩
  intro m nc em ec bm bc b1
  rw [ec] at e
  exact (sem_34 em ec bm bc b1 n).1 I nc 0 z (fun _ _ _ => rfl) (Nat.le_refl _) (fun c d h1 h2 _ => absurd h2 (by omega)) e
theorem wU_ext {P P' A A' : Nat → Nat → Bool} {m C : Nat} (hP : ∀ c d, c ≤ C → d < m → P c d = P' c d) (hA : ∀ e d, e < m → d < m → A e d = A' e d) : ∀ j c d, c + j ≤ C → d < m → wU P A m j c d = wU P' A' m j c d
  | 0, _, _, _, _ => rfl
  | j + 1, c, d, h, hd => by
    show jS (fun e => bj (A e d) * (bj (P (c + 1) e) * wU P A m j (c + 1) e)) m = jS (fun e => bj (A' e d) * (bj (P' (c + 1) e) * wU P' A' m j (c + 1) e)) m
    apply jS_ext
    intro e he
    rw [hA e d he hd, hP (c + 1) e (by omega) he, wU_ext hP hA j (c + 1) e (by omega) he]
theorem lP_lb {x : Int64} {c d : Nat} (hc : c < 8) (hd : d < 8) : lP x c d = lb x (8 * c + d) := by
  unfold lP
  cases g : lb x (8 * c + d) with
  | true =>
    apply decide_eq_true
    intro h
    have := congrArg (fun z => lb z (8 * c + d)) h
    simp only [lb_and, lb_bit hc hd, lb_0, g, decide_true, Bool.and_self] at this
    cases this
  | false =>
    apply decide_eq_false
    intro h
    apply h
    apply lb_ext
    intro n _
    rw [lb_and, lb_bit hc hd, lb_0]
    by_cases e : n = 8 * c + d
    · rw [e, g]; rfl
    · rw [decide_eq_false e, Bool.and_false]
theorem lA_cA (I : Nat → Nat → Int32) (e d : Nat) : lA (I 85 33) e d = cA I e d := by
  unfold lA cA adjL T_213
  simp only [Int32.zero_sub]
/-- the counts of both sides -/
theorem cnt_CM {I J K K2 : Nat → Nat → Int32} {x : Int64} {lim v w : Int32} {m nc : Nat} (em : (I 1 2).toNatClampNeg = m) (ec : I 1 1 = Int32.ofNat nc) (bm : m ≤ 6) (bc : nc ≤ 6) (b1 : 1 ≤ nc)
    (hc : J 85 31 = I 1 1) (hm : J 85 32 = I 1 2) (ha : J 85 33 = lim) (hp : ∀ c e, c < nc → e < m → lb x (8 * c + e) = tb (J 106 c) e) (hv : cwP I x lim K v) (hw : cntP J K2 w) : v = w := by
  have h1 := (hv m nc em ec bm bc b1).2.2
  have h2 := (hw m nc (by rw [hm]; exact em) (by rw [hc, ec]; exact ofN_clamp (by omega)) bm bc b1).2
  rw [h1, h2, ← w_both (P := cP J) (adj := cA J) (m := m) (nc - 1)]
  have hP : ∀ c d, c ≤ nc - 1 → d < m → lP x c d = cP J c d := fun c d h3 h4 => by
    rw [lP_lb (by omega) (by omega), hp c d (by omega) h4]
    unfold cP hs tb
    rw [shD_nat (by omega)]
  have hA : ∀ e d, e < m → d < m → lA lim e d = cA J e d := fun e d _ _ => by
    rw [← ha]
    exact lA_cA J e d
  apply jS_ext
  intro d hd
  rw [hP 0 d (Nat.zero_le _) hd, wU_ext hP hA (nc - 1) 0 d (by omega) hd]
/-- all depths -/
theorem sem_49 {I : Nat → Nat → Int32} {m nc : Nat} (em : (I 1 2).toNatClampNeg = m) (ec : (I 1 1).toNatClampNeg = nc) (bm : m ≤ 6) (bc : nc ≤ 6) :
    ∀ n, (∀ x c y r, c ≤ nc → (∀ c' d, d < 8 → lb x (8 * c' + d) = decide (c' < c ∧ d < m)) → F_49 I n 4 x (Int32.ofNat c) y = some r → ∀ c' d, d < 8 → lb r (8 * c' + d) = decide (c' < nc ∧ d < m)) ∧
      (∀ x c e r, c < nc → e ≤ m → (∀ c' d, d < 8 → lb x (8 * c' + d) = decide (c' < c ∧ d < m ∨ c' = c ∧ d < e)) → F_49 I n 15 x (Int32.ofNat c) (Int32.ofNat e) = some r → ∀ c' d, d < 8 → lb r (8 * c' + d) = decide (c' < nc ∧ d < m))
  | 0 => ⟨fun _ _ _ _ _ _ h => (by cases h), fun _ _ _ _ _ _ _ h => (by cases h)⟩
  | n + 1 => by
    obtain ⟨ih1, ih2⟩ := sem_49 em ec bm bc n
    refine ⟨?_, ?_⟩
    · intro x c y r hc hx h
      simp only [F_49, reduceIte] at h
      by_cases g : I 1 1 ≤ Int32.ofNat c
      · rw [if_pos g] at h
        have := (le_oN (by omega)).mp g
        cases h
        have e : c = nc := by omega
        subst e
        exact hx
      · rw [if_neg g] at h
        have := mt (le_oN (by omega)).mpr g
        refine ih2 x c 0 r (by omega) (Nat.zero_le _) (fun c' d hd => ?_) h
        rw [hx c' d hd]
        exact decide_eq_decide.mpr ⟨fun q => .inl q, fun q => q.elim id (fun z => absurd z.2 (Nat.not_lt_zero _))⟩
    · intro x c e r hc he hx h
      simp only [F_49, Nat.reduceEqDiff, reduceIte] at h
      by_cases g : I 1 2 ≤ Int32.ofNat e
      · rw [if_pos g, oN_s] at h
        have := (le_oN (by omega)).mp g
        refine ih1 x (c + 1) _ r hc (fun c' d hd => ?_) h
        rw [hx c' d hd]
        apply decide_eq_decide.mpr
        omega
      · rw [if_neg g, oN_s] at h
        have := mt (le_oN (by omega)).mpr g
        refine ih2 _ c (e + 1) r hc (by omega) (fun c' d hd => ?_) h
        rw [lb_or, hx c' d hd, lb_bit (by omega) (by omega)]
        rw [← Bool.decide_or]
        apply decide_eq_decide.mpr
        omega
