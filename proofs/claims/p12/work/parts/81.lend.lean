/-! part 81: keys lent and brought -/
theorem kS_200 : (Int16.ofInt (200)).toInt32 = (200 : Int32) := by decide
theorem kt_200 : (200 : Int32).toInt = 200 := by decide
/-- deputies are persons, or none -/
noncomputable def RD (I : Nat → Nat → Int32) : Prop := ∀ p, p < 8 → I (57 + p) 1 = -1 ∨ ∃ q, q < (I 0 13).toNatClampNeg ∧ I (57 + p) 1 = Int32.ofNat q
noncomputable def tkP (I : Nat → Nat → Int32) (a v : Int32) : Prop := ∀ n c, I 0 13 = Int32.ofNat n → n ≤ 8 → RD I → (∀ p, p < 8 → I 94 p = I (57 + p) 0 ∧ I 99 p = I (57 + p) 1) → a = Int32.ofNat c → c < n → v = G_167 I 0 a n
noncomputable def cntB (m : Int32) (n : Nat) : Nat := nS (fun i => bn (tb m i)) n
theorem cntB_le {m : Int32} : ∀ n, cntB m n ≤ n
  | 0 => Nat.le_refl _
  | n + 1 => by
    have := cntB_le (m := m) n
    show cntB m n + bn (tb m n) ≤ n + 1
    cases tb m n
    · show _ + 0 ≤ _; omega
    · show _ + 1 ≤ _; omega
theorem cntB_or {m : Int32} {c : Nat} (hc : c < 32) (hn : tb m c = false) : ∀ n, cntB (m ||| ((1 : Int32) <<< (Int32.ofNat c &&& 31))) n = cntB m n + (if c < n then 1 else 0)
  | 0 => rfl
  | n + 1 => by
    show cntB _ n + bn (tb _ n) = cntB m n + bn (tb m n) + _
    rw [cntB_or hc hn n, tb_or, tb_1shl hc]
    by_cases e : n = c
    · subst e
      rw [hn, decide_eq_true rfl, if_neg (Nat.lt_irrefl n), if_pos (Nat.lt_succ_self n)]; rfl
    · rw [decide_eq_false e, Bool.or_false]
      by_cases g : c < n
      · rw [if_pos g, if_pos (by omega)]; omega
      · rw [if_neg g, if_neg (by omega)]; omega
theorem cntB_lt {m : Int32} {c : Nat} (hc : tb m c = false) : ∀ n, c < n → cntB m n < n
  | 0, h => absurd h (Nat.not_lt_zero c)
  | n + 1, h => by
    show cntB m n + bn (tb m n) < n + 1
    by_cases e : n = c
    · subst e
      have := cntB_le (m := m) n
      rw [hc]; show _ + 0 < _; omega
    · have := cntB_lt hc n (by omega)
      cases tb m n
      · show _ + 0 < _; omega
      · show _ + 1 < _; omega
/-- in a closed set of people who are away nobody takes it -/
theorem G167_no {I : Nat → Nat → Int32} {S : Nat → Prop} {n : Nat} (en : I 0 13 = Int32.ofNat n) (hn : n ≤ 8) (h : ∀ i, S i → i < n ∧ ¬ I (57 + i) 0 = 0 ∧ ∃ q, S q ∧ I (57 + i) 1 = Int32.ofNat q) : ∀ m j c, S c → G_167 I j (Int32.ofNat c) m = -1
  | 0, _, _, _ => rfl
  | m + 1, j, c, hc => by
    obtain ⟨h1, h2, q, h3, h4⟩ := h c hc
    show (if _ then _ else (if _ then (if _ then _ else _) else _)) = _
    rw [ofN_clamp (by omega), en, if_neg (fun z => by
      rw [Int32.lt_iff_toInt_lt, ofN_toInt (by omega), show (0 : Int32).toInt = 0 from rfl] at z
      omega), if_pos ((oN_lt (by omega) (by omega)).mpr h1), if_neg h2, h4]
    exact G167_no en hn h m (j + 1) q h3
theorem sem_282 {I : Nat → Nat → Int32} {n : Nat} (en : I 0 13 = Int32.ofNat n) (hn : n ≤ 8) (hD : RD I) (hp : ∀ p, p < 8 → I 94 p = I (57 + p) 0 ∧ I 99 p = I (57 + p) 1) : ∀ N c m mask j r, c < n → tb mask c = false → (∀ i, tb mask i = true → i < n ∧ ¬ I (57 + i) 0 = 0 ∧ ∃ q, (tb mask q = true ∨ q = c) ∧ I (57 + i) 1 = Int32.ofNat q) → n ≤ m + cntB mask n → F_282 I N 4 (Int32.ofNat c) mask = some r → r = G_167 I j (Int32.ofNat c) m
  | 0, _, _, _, _, _, _, _, _, _, h => by cases h
  | N + 1, c, m, mask, j, r, hc, hm, hS, hcnt, h => by
    have lt := cntB_lt hm n hc
    obtain ⟨m', rfl⟩ : ∃ m', m = m' + 1 := ⟨m - 1, by omega⟩
    obtain ⟨p0, p1⟩ := hp c (by omega)
    have ec : (Int32.ofNat c).toNatClampNeg = c := ofN_clamp (by omega)
    have no1 : ¬ Int32.ofNat c = -1 := fun z => by
      have := congrArg Int32.toInt z
      rw [ofN_toInt (by omega), show (-1 : Int32).toInt = -1 by decide] at this
      omega
    have n0 : ¬ Int32.ofNat c < 0 := fun z => by
      rw [Int32.lt_iff_toInt_lt, ofN_toInt (by omega), show (0 : Int32).toInt = 0 from rfl] at z
      omega
    have g : G_167 I j (Int32.ofNat c) (m' + 1) = if I (57 + c) 0 = 0 then Int32.ofNat c else G_167 I (j + 1) (I (57 + c) 1) m' := by
      show (if _ then _ else (if _ then (if _ then _ else _) else _)) = _
      rw [ec, en, if_neg n0, if_pos ((oN_lt (by omega) (by omega)).mpr hc)]
    rw [g]
    simp only [F_282, reduceIte] at h
    rw [if_neg no1, ec, p0, p1] at h
    by_cases g0 : I (57 + c) 0 = 0
    · rw [if_pos g0] at h ⊢
      cases h; rfl
    · rw [if_neg g0] at h ⊢
      rcases hD c (by omega) with d | ⟨q, dq, d⟩
      · rw [if_pos d, d] at h
        rw [d]
        have e1 : r = -1 := by
          cases N with
          | zero => cases h
          | succ N =>
            simp only [F_282, reduceIte] at h
            cases h; rfl
        rw [e1]
        cases m' with
        | zero => rfl
        | succ m' => exact (if_pos (by decide)).symm
      · have dq : q < n := by rw [en, ofN_clamp (by omega)] at dq; exact dq
        have nq : ¬ Int32.ofNat q = -1 := fun z => by
          have := congrArg Int32.toInt z
          rw [ofN_toInt (by omega), show (-1 : Int32).toInt = -1 by decide] at this
          omega
        rw [d, if_neg nq, hs_oN (by omega), tb_or, tb_1shl (by omega)] at h
        rw [d]
        have hS' : ∀ i, (tb mask i = true ∨ i = c) → i < n ∧ ¬ I (57 + i) 0 = 0 ∧ ∃ y, ((tb mask y = true ∨ y = c) ∨ y = q) ∧ I (57 + i) 1 = Int32.ofNat y := fun i hi => by
          rcases hi with hi | hi
          · obtain ⟨z1, z2, y, z3, z4⟩ := hS i hi
            exact ⟨z1, z2, y, .inl z3, z4⟩
          · subst hi
            exact ⟨hc, g0, q, .inr rfl, d⟩
        by_cases v : (tb mask q || decide (q = c)) = true
        · rw [if_pos v] at h
          cases h
          have vq : tb mask q = true ∨ q = c := by
            rw [Bool.or_eq_true, decide_eq_true_eq] at v
            exact v
          refine (G167_no (S := fun i => tb mask i = true ∨ i = c) en hn (fun i hi => ?_) m' (j + 1) q vq).symm
          obtain ⟨z1, z2, y, z3, z4⟩ := hS' i hi
          exact ⟨z1, z2, y, z3.elim id (fun z => z ▸ vq), z4⟩
        · rw [if_neg v] at h
          have nv : ¬ (tb mask q = true ∨ q = c) := fun z => v (by rw [Bool.or_eq_true, decide_eq_true_eq]; exact z)
          have tm : ∀ i, tb (mask ||| ((1 : Int32) <<< (Int32.ofNat c &&& 31))) i = true ↔ (tb mask i = true ∨ i = c) := fun i => by
            rw [tb_or, tb_1shl (by omega), Bool.or_eq_true, decide_eq_true_eq]
          refine sem_282 en hn hD hp N q m' _ (j + 1) r dq (Bool.eq_false_iff.mpr (fun z => nv ((tm q).mp z))) (fun i hi => ?_) ?_ h
          · obtain ⟨z1, z2, y, z3, z4⟩ := hS' i ((tm i).mp hi)
            exact ⟨z1, z2, y, z3.imp (fun z => (tm y).mpr z) id, z4⟩
          · rw [cntB_or (by omega) hm, if_pos hc]; omega
theorem cntB_0 : ∀ n, cntB 0 n = 0
  | 0 => rfl
  | n + 1 => by
    show cntB 0 n + bn (tb 0 n) = 0
    rw [cntB_0 n, tb_0]; rfl
theorem sp_282 {h : sH} {r : sR} {a : Int32} {I : Nat → Nat → Int32} {L : Nat → Nat → Int64} {R : Nat → Nat} (th : qH h I L R) (g : qGo 282 [.ref (85), .int a] h r) : ∃ v, r = (.inl (some (.int v)), h) ∧ tkP I a v := by
  refine qg_282 (Q := fun r => ∃ v, r = (.inl (some (.int v)), h) ∧ tkP I a v) g (fun N lv hl => ?_)
  refine qW_mono ?_ (fl_282 N a 0 lv h th hl)
  rintro r ⟨n, x, e, rfl⟩
  refine ⟨x, rfl, fun k c en hk hD hp ea hc => ?_⟩
  subst ea
  exact sem_282 en hk hD hp n c k 0 0 x hc (tb_0 c) (fun i hi => by rw [tb_0] at hi; cases hi) (by omega) e
/-! a ring is given -/
noncomputable def grP (I : Nat → Nat → Int32) (x p d : Int32) (J : Nat → Nat → Int32) : Prop := ∀ nk, I 0 9 = Int32.ofNat nk → nk ≤ 16 → (∀ k, k < nk → tb x k = true → I (19 + k) 2 = 0 → J (19 + k) 4 = p ∧ J (19 + k) 5 = d) ∧ ∀ a b, ¬ (∃ k, k < nk ∧ tb x k = true ∧ I (19 + k) 2 = 0 ∧ a = 19 + k ∧ (b = 4 ∨ b = 5)) → J a b = I a b
theorem sem_169 {I : Nat → Nat → Int32} {x p d : Int32} {nk : Nat} (ek : I 0 9 = Int32.ofNat nk) (hk : nk ≤ 16) : ∀ n J j r, j ≤ nk → (∀ k, k < j → tb x k = true → I (19 + k) 2 = 0 → J (19 + k) 4 = p ∧ J (19 + k) 5 = d) → (∀ a b, ¬ (∃ k, k < j ∧ tb x k = true ∧ I (19 + k) 2 = 0 ∧ a = 19 + k ∧ (b = 4 ∨ b = 5)) → J a b = I a b) → F_169 n 3 J x p d (Int32.ofNat j) = some r → (∀ k, k < nk → tb x k = true → I (19 + k) 2 = 0 → r.2 (19 + k) 4 = p ∧ r.2 (19 + k) 5 = d) ∧ ∀ a b, ¬ (∃ k, k < nk ∧ tb x k = true ∧ I (19 + k) 2 = 0 ∧ a = 19 + k ∧ (b = 4 ∨ b = 5)) → r.2 a b = I a b
  | 0, _, _, _, _, _, _, h => by cases h
  | n + 1, J, j, r, hj, hd, ha, h => by
    have e0 : ∀ a b, ¬ (b = 4 ∨ b = 5) → J a b = I a b := fun a b q => ha a b (fun ⟨_, _, _, _, _, z⟩ => q z)
    simp only [F_169, reduceIte] at h
    rw [e0 0 9 (by omega), ek] at h
    by_cases g : Int32.ofNat nk ≤ Int32.ofNat j
    · have := (oN_le (by omega) (by omega)).mp g
      have ej : j = nk := by omega
      subst ej
      rw [if_pos g] at h
      cases h
      exact ⟨hd, ha⟩
    · have gj := mt (oN_le (by omega) (by omega)).mpr g
      rw [if_neg g, hs_oN (by omega), ofN_clamp (by omega), e0 (19 + j) 2 (by omega), oN_s] at h
      have skip : ¬ (tb x j = true ∧ I (19 + j) 2 = 0) → F_169 n 3 J x p d (Int32.ofNat (j + 1)) = some r → (∀ k, k < nk → tb x k = true → I (19 + k) 2 = 0 → r.2 (19 + k) 4 = p ∧ r.2 (19 + k) 5 = d) ∧ ∀ a b, ¬ (∃ k, k < nk ∧ tb x k = true ∧ I (19 + k) 2 = 0 ∧ a = 19 + k ∧ (b = 4 ∨ b = 5)) → r.2 a b = I a b := fun ns h => by
        refine sem_169 ek hk n J (j + 1) r (by omega) (fun k h1 h2 h3 => ?_) (fun a b hn => ?_) h
        · by_cases e : k = j
          · subst e; exact absurd ⟨h2, h3⟩ ns
          · exact hd k (by omega) h2 h3
        · exact ha a b (fun ⟨k, z1, z⟩ => hn ⟨k, by omega, z⟩)
      by_cases c : tb x j = true
      · rw [if_pos c] at h
        by_cases c2 : I (19 + j) 2 = 0
        · rw [if_pos c2] at h
          refine sem_169 ek hk n _ (j + 1) r (by omega) (fun k h1 h2 h3 => ?_) (fun a b hn => ?_) h
          · by_cases e : k = j
            · subst e
              rw [upI_ne (by omega), upI_s, upI_s]
              exact ⟨rfl, rfl⟩
            · rw [upI_ne (by omega), upI_ne (by omega), upI_ne (by omega), upI_ne (by omega)]
              exact hd k (by omega) h2 h3
          · rw [upI_ne (fun z => hn ⟨j, by omega, c, c2, z.1, .inr z.2⟩), upI_ne (fun z => hn ⟨j, by omega, c, c2, z.1, .inl z.2⟩)]
            exact ha a b (fun ⟨k, z1, z⟩ => hn ⟨k, by omega, z⟩)
        · rw [if_neg c2] at h
          exact skip (fun z => c2 z.2) h
      · rw [if_neg c] at h
        exact skip (fun z => c z.1) h
theorem sp_169 {h : sH} {r : sR} {x p d : Int32} {I : Nat → Nat → Int32} {L : Nat → Nat → Int64} {R : Nat → Nat} (th : qH h I L R) (g : qGo 169 [.ref (0), .int x, .int p, .int d] h r) : ∃ J h1, r = (.inl none, h1) ∧ qH h1 J L R ∧ grP I x p d J := by
  refine qg_169 (Q := fun r => ∃ J h1, r = (.inl none, h1) ∧ qH h1 J L R ∧ grP I x p d J) g (fun N lv hl => ?_)
  refine qW_mono ?_ (fl_169 N I x p d 0 lv h th hl)
  rintro r ⟨n, y, e, h1, q1, q2⟩
  exact ⟨y.2, h1, q1, q2, fun nk ek hk => sem_169 ek hk n I 0 y (Nat.zero_le _) (fun k hk' => absurd hk' (Nat.not_lt_zero k)) (fun _ _ _ => rfl) e⟩
/-! a key is lent -/
noncomputable def lentM (I : Nat → Nat → Int32) (a i : Nat) : Prop := I 96 i = I 96 a ∧ I 92 i = 0 ∧ ¬ I 89 i = -1
theorem ex_s {P : Nat → Prop} {j m : Nat} : (∃ i, j ≤ i ∧ i < j + (m + 1) ∧ P i) ↔ P j ∨ ∃ i, j + 1 ≤ i ∧ i < j + 1 + m ∧ P i := by
  constructor
  · rintro ⟨i, h1, h2, h3⟩
    by_cases e : i = j
    · exact .inl (e ▸ h3)
    · exact .inr ⟨i, by omega, by omega, h3⟩
  · rintro (h3 | ⟨i, h1, h2, h3⟩)
    · exact ⟨j, Nat.le_refl j, by omega, h3⟩
    · exact ⟨i, by omega, by omega, h3⟩
theorem cnt_168 {I : Nat → Nat → Int32} {x : Int32} : ∀ m j, j + m ≤ 32 → (G_168 I x j m = true ↔ ∃ i, j ≤ i ∧ i < j + m ∧ tb x i = true ∧ I (19 + i) 2 = 0 ∧ ¬ I (19 + i) 4 = -1)
  | 0, j, _ => ⟨fun z => (by cases z), fun ⟨i, h1, h2, _⟩ => absurd h2 (by omega)⟩
  | m + 1, j, hj => by
    have ih := cnt_168 (I := I) (x := x) m (j + 1) (by omega)
    rw [ex_s, ← ih]
    show (if _ then (if _ then _ else (if _ then _ else _)) else _) = true ↔ _
    rw [hs_oN (by omega), ofN_clamp (by omega)]
    by_cases c : tb x j = true
    · rw [if_pos c]
      by_cases g1 : I (19 + j) 4 = -1
      · rw [if_pos g1]; exact ⟨.inr, fun z => z.elim (fun z => absurd g1 z.2.2) id⟩
      · rw [if_neg g1]
        by_cases g2 : I (19 + j) 2 = 0
        · rw [if_pos g2]; exact ⟨fun _ => .inl ⟨c, g2, g1⟩, fun _ => rfl⟩
        · rw [if_neg g2]; exact ⟨.inr, fun z => z.elim (fun z => absurd z.2.1 g2) id⟩
    · rw [if_neg c]; exact ⟨.inr, fun z => z.elim (fun z => absurd z.1 c) id⟩
theorem cnt_281 {I : Nat → Nat → Int32} {a : Nat} (ha : a < 32) : ∀ m j, j + m ≤ 32 → (G_281 I (Int32.ofNat a) j m = true ↔ ∃ i, j ≤ i ∧ i < j + m ∧ lentM I a i)
  | 0, j, _ => ⟨fun z => (by cases z), fun ⟨i, h1, h2, _⟩ => absurd h2 (by omega)⟩
  | m + 1, j, hj => by
    have ih := cnt_281 (I := I) ha m (j + 1) (by omega)
    rw [ex_s, ← ih]
    show (if _ then (if _ then (if _ then _ else _) else _) else _) = true ↔ _
    rw [ofN_clamp (show j < 2147483648 by omega), ofN_clamp (show a < 2147483648 by omega)]
    unfold lentM
    by_cases c : I 96 j = I 96 a
    · rw [if_pos c]
      by_cases g2 : I 92 j = 0
      · rw [if_pos g2]
        by_cases g1 : I 89 j = (-1 : Int32)
        · rw [if_pos g1]; exact ⟨.inr, fun z => z.elim (fun z => absurd g1 z.2.2) id⟩
        · rw [if_neg g1]; exact ⟨fun _ => .inl ⟨c, g2, g1⟩, fun _ => rfl⟩
      · rw [if_neg g2]; exact ⟨.inr, fun z => z.elim (fun z => absurd z.2.1 g2) id⟩
    · rw [if_neg c]; exact ⟨.inr, fun z => z.elim (fun z => absurd z.1 c) id⟩
theorem lent_C {I : Nat → Nat → Int32} {L : Nat → Nat → Int64} {R : Nat → Nat} (h : RK I L R) {a : Nat} (ha : a < nkI I) : G_168 I (I (19 + a) 3) 0 (I 0 9).toNatClampNeg = true ↔ ∃ i, i < nkI I ∧ lentM I a i := by
  have hkb := h.mi.kb
  rw [h.n9, cnt_168 (nkI I) 0 (by omega)]
  unfold lentM
  constructor
  · rintro ⟨i, _, h2, h3, h4, h5⟩
    have := (h.kr a i ha (by omega)).mp h3
    exact ⟨i, by omega, this.2, by rw [h.kl i (by omega)]; exact h4, by rw [h.kh i (by omega)]; exact h5⟩
  · rintro ⟨i, h2, h3, h4, h5⟩
    rw [h.kl i (by omega)] at h4
    rw [h.kh i (by omega)] at h5
    exact ⟨i, Nat.zero_le _, by omega, (h.kr a i ha (by omega)).mpr ⟨h2, h3⟩, h4, h5⟩
theorem lent_M {I J : Nat → Nat → Int32} (hm : MI I) (e : ∀ a b, 85 ≤ a → a ≤ 96 → ¬ (a = 85 ∧ b = 42) → J a b = I a b) {a : Nat} (ha : a < nkI I) : G_281 J (Int32.ofNat a) 0 (J 85 35).toNatClampNeg = true ↔ ∃ i, i < nkI I ∧ lentM I a i := by
  have hkb := hm.kb
  rw [e 85 35 (by omega) (by omega) (by omega), show (I 85 35).toNatClampNeg = nkI I from rfl, cnt_281 (by omega) (nkI I) 0 (by omega)]
  unfold lentM
  have q : ∀ i, (J 96 i = J 96 a ∧ J 92 i = 0 ∧ ¬ J 89 i = -1) ↔ (I 96 i = I 96 a ∧ I 92 i = 0 ∧ ¬ I 89 i = -1) := fun i => by
    rw [e 96 i (by omega) (by omega) (by omega), e 96 a (by omega) (by omega) (by omega), e 92 i (by omega) (by omega) (by omega), e 89 i (by omega) (by omega) (by omega)]
  constructor
  · rintro ⟨i, _, h2, h3⟩; exact ⟨i, by omega, (q i).mp h3⟩
  · rintro ⟨i, h2, h3⟩; exact ⟨i, Nat.zero_le _, by omega, (q i).mpr h3⟩
theorem G167_cg {I J : Nat → Nat → Int32} {n : Nat} (en : I 0 13 = Int32.ofNat n) (hn : n ≤ 8) (e : ∀ p b, p < 8 → J (57 + p) b = I (57 + p) b) (e2 : J 0 13 = I 0 13) : ∀ m j x, G_167 J j x m = G_167 I j x m
  | 0, _, _ => rfl
  | m + 1, j, x => by
    unfold G_167
    rw [e2]
    by_cases h1 : x < 0
    · rw [if_pos h1, if_pos h1]
    · rw [if_neg h1, if_neg h1]
      by_cases h2 : x < I 0 13
      · obtain ⟨q, hq, eq⟩ := rg_n en (by omega) h1 h2
        subst eq
        rw [if_pos h2, if_pos h2, ofN_clamp (by omega), e q 0 (by omega), e q 1 (by omega), G167_cg en hn e e2 m]
      · rw [if_neg h2, if_neg h2]
noncomputable def lenR (I : Nat → Nat → Int32) (a nk : Nat) (t d : Int32) (J : Nat → Nat → Int32) (v : Int32) : Prop := v = J 90 a ∧ (∀ k, k < nk → J 89 k = if I 96 k = I 96 a ∧ I 92 k = 0 then t else I 89 k) ∧ (∀ k, k < nk → J 90 k = if I 96 k = I 96 a ∧ I 92 k = 0 then d else I 90 k) ∧ ∀ c b, ¬ ((c = 89 ∨ c = 90) ∧ b < nk) → J c b = I c b
theorem qg_280 {h : sH} {r : sR} {Q : sR → Prop} {a0 : Int32} {a1 : Int32} {a2 : Int32} {I : Nat → Nat → Int32} {L : Nat → Nat → Int64} {R : Nat → Nat} (th : qH h I L R) (g : qGo 280 [.ref (85), .int (a0), .int (a1), .int (a2)] h r)
    (p1 : ∀ (c2 : ¬ ((0 : Int32) ≤ a0 ∧ a0 ≤ ((I 85 35) - (1 : Int32)))), ∀ (h5 : sH), ∀ (t6 : qH h5 (upI I 85 42 (1 : Int32)) L R), Q (.inl (some (.int ((0 : Int32)))), h5))
    (p2 : ∀ (c2 : (0 : Int32) ≤ a0 ∧ a0 ≤ ((I 85 35) - (1 : Int32))), ∀ (c8 : ¬ ((0 : Int32) ≤ a1 ∧ a1 ≤ ((I 85 37) - (1 : Int32)))), ∀ (h11 : sH), ∀ (t12 : qH h11 (upI I 85 42 (1 : Int32)) L R), Q (.inl (some (.int ((0 : Int32)))), h11))
    (p3 : ∀ (c2 : (0 : Int32) ≤ a0 ∧ a0 ≤ ((I 85 35) - (1 : Int32))), ∀ (c8 : (0 : Int32) ≤ a1 ∧ a1 ≤ ((I 85 37) - (1 : Int32))), ∀ (c15 : (1 : Int32) ≤ a2 ∧ a2 ≤ (200 : Int32)), ∀ (bb16 : sIn a0 16 = true), ∀ (c17 : ¬ (I 92 ((a0).toNatClampNeg)) = 0), ∀ (h18 : sH), ∀ (t19 : qH h18 (upI I 85 42 (3 : Int32)) L R), Q (.inl (some (.int ((0 : Int32)))), h18))
    (p4 : ∀ (c2 : (0 : Int32) ≤ a0 ∧ a0 ≤ ((I 85 35) - (1 : Int32))), ∀ (c8 : (0 : Int32) ≤ a1 ∧ a1 ≤ ((I 85 37) - (1 : Int32))), ∀ (c15 : (1 : Int32) ≤ a2 ∧ a2 ≤ (200 : Int32)), ∀ (bb16 : sIn a0 16 = true), ∀ (c17 : (I 92 ((a0).toNatClampNeg)) = 0), ∀ (c20 : G_281 I (a0) 0 ((I 85 35)).toNatClampNeg = true), ∀ (h21 : sH), ∀ (t22 : qH h21 (upI I 85 42 (3 : Int32)) L R), Q (.inl (some (.int ((0 : Int32)))), h21))
    (p5 : ∀ (c2 : (0 : Int32) ≤ a0 ∧ a0 ≤ ((I 85 35) - (1 : Int32))), ∀ (c8 : (0 : Int32) ≤ a1 ∧ a1 ≤ ((I 85 37) - (1 : Int32))), ∀ (c15 : (1 : Int32) ≤ a2 ∧ a2 ≤ (200 : Int32)), ∀ (bb16 : sIn a0 16 = true), ∀ (c17 : (I 92 ((a0).toNatClampNeg)) = 0), ∀ (c20 : ¬ (G_281 I (a0) 0 ((I 85 35)).toNatClampNeg = true)), ∀ (v23 : Int32), ∀ (e24 : tkP I a1 v23), ∀ (c25 : ¬ v23 = (-1 : Int32)), ∀ (h26 : sH), ∀ (t27 : qH h26 (upI I 85 42 (0 : Int32)) L R), ∀ N lv, qLs lv [some (.ref (85)), some (.int (a0)), some (.int (a1)), some (.int (a2)), none, some (.int ((0 : Int32)))] → qW 280 N 94 lv [] h26 Q)
    (p6 : ∀ (c2 : (0 : Int32) ≤ a0 ∧ a0 ≤ ((I 85 35) - (1 : Int32))), ∀ (c8 : (0 : Int32) ≤ a1 ∧ a1 ≤ ((I 85 37) - (1 : Int32))), ∀ (c15 : (1 : Int32) ≤ a2 ∧ a2 ≤ (200 : Int32)), ∀ (bb16 : sIn a0 16 = true), ∀ (c17 : (I 92 ((a0).toNatClampNeg)) = 0), ∀ (c20 : ¬ (G_281 I (a0) 0 ((I 85 35)).toNatClampNeg = true)), ∀ (v23 : Int32), ∀ (e24 : tkP I a1 v23), ∀ (c25 : v23 = (-1 : Int32)), ∀ (h30 : sH), ∀ (t31 : qH h30 (upI I 85 42 (3 : Int32)) L R), Q (.inl (some (.int ((0 : Int32)))), h30))
    (p7 : ∀ (c2 : (0 : Int32) ≤ a0 ∧ a0 ≤ ((I 85 35) - (1 : Int32))), ∀ (c8 : (0 : Int32) ≤ a1 ∧ a1 ≤ ((I 85 37) - (1 : Int32))), ∀ (c15 : ¬ ((1 : Int32) ≤ a2 ∧ a2 ≤ (200 : Int32))), ∀ (h32 : sH), ∀ (t33 : qH h32 (upI I 85 42 (2 : Int32)) L R), Q (.inl (some (.int ((0 : Int32)))), h32)) : Q r := by
  refine qGo_w g (fun N => ?_)
  have hl0 : qLs (lv_args 0 [.ref (85), .int (a0), .int (a1), .int (a2)]) [some (.ref (85)), some (.int (a0)), some (.int (a1)), some (.int (a2)), none, none] := qLs_ar 2
  refine q_aload_n (show mE (mtv 280) 0 = some (.aload_n 0, 1, 0, 0) from rfl) (hl0 0 _ rfl) ?_
  refine q_iload_n (show mE (mtv 280) 1 = some (.iload_n 1, 1, 0, 0) from rfl) (hl0 1 _ rfl) ?_
  refine q_virtualI (show mE (mtv 280) 2 = some (.invokevirtual 175, 3, 220, 9) from rfl) (by decide) rfl rfl rfl (fun _ => ?_)
  have hl1 : qLs (lv_args 0 [.ref (85), .int (a0)]) [some (.ref (85)), some (.int (a0))] := qLs_ar 0
  refine q_iload_n (show mE (mtv 220) 0 = some (.iload_n 1, 1, 0, 0) from rfl) (hl1 1 _ rfl) ?_
  refine q_iconst (show mE (mtv 220) 1 = some (.iconst 0, 1, 0, 0) from rfl) kI_0 ?_
  refine q_aload_n (show mE (mtv 220) 2 = some (.aload_n 0, 1, 0, 0) from rfl) (hl1 0 _ rfl) ?_
  refine q_getI th (show mE (mtv 220) 3 = some (.getfield 117, 3, 9, 35) from rfl) (by decide) rfl ?_
  refine q_iconst (show mE (mtv 220) 6 = some (.iconst 1, 1, 0, 0) from rfl) kI_1 ?_
  refine q_isub (show mE (mtv 220) 7 = some (.isub, 1, 0, 0) from rfl) ?_
  refine q_staticP (show mE (mtv 220) 8 = some (.invokestatic 157, 3, 211, 0) from rfl) (by decide) rfl rfl rfl (fun _ g => sp_211 g) ?_
  refine q_ireturn (show mE (mtv 220) 11 = some (.ireturn, 1, 0, 0) from rfl) ?_
  refine qK_v ?_
  refine q_ifb_eq (t := 20) (show mE (mtv 280) 5 = some (.ifCond .eq 15, 3, 0, 0) from rfl) rfl (fun c2 => ?_) (fun c2 => ?_)
  · refine q_iconst (show mE (mtv 280) 20 = some (.iconst 0, 1, 0, 0) from rfl) kI_0 ?_
    refine q_istore (show mE (mtv 280) 21 = some (.istore 4, 2, 0, 0) from rfl) (Nat.le_of_ble_eq_true rfl) hl0 (fun lv3 (hl4 : qLs lv3 [some (.ref (85)), some (.int (a0)), some (.int (a1)), some (.int (a2)), some (.int ((0 : Int32))), none]) => ?_)
    refine q_aload_n (show mE (mtv 280) 23 = some (.aload_n 0, 1, 0, 0) from rfl) (hl4 0 _ rfl) ?_
    refine q_iload (show mE (mtv 280) 24 = some (.iload 4, 2, 0, 0) from rfl) (hl4 4 _ rfl) ?_
    refine q_iff (t := 33) (show mE (mtv 280) 26 = some (.ifCond .ne 7, 3, 0, 0) from rfl) (by decide) rfl ?_
    refine q_iconst (show mE (mtv 280) 29 = some (.iconst 1, 1, 0, 0) from rfl) kI_1 ?_
    refine q_goto (t := 79) (show mE (mtv 280) 30 = some (.goto 49, 3, 0, 0) from rfl) rfl ?_
    refine q_putI th (show mE (mtv 280) 79 = some (.putfield 138, 3, 9, 42) from rfl) (by decide) rfl (fun h5 t6 => ?_)
    refine q_aload_n (show mE (mtv 280) 82 = some (.aload_n 0, 1, 0, 0) from rfl) (hl4 0 _ rfl) ?_
    refine q_getIe t6 (show mE (mtv 280) 83 = some (.getfield 138, 3, 9, 42) from rfl) (by decide) rfl (upI_s) ?_
    refine q_iff (t := 91) (show mE (mtv 280) 86 = some (.ifCond .le 5, 3, 0, 0) from rfl) (by decide) rfl ?_
    refine q_iconst (show mE (mtv 280) 89 = some (.iconst 0, 1, 0, 0) from rfl) kI_0 ?_
    refine q_ireturn (show mE (mtv 280) 90 = some (.ireturn, 1, 0, 0) from rfl) ?_
    exact p1 c2 h5 t6
  · refine q_aload_n (show mE (mtv 280) 8 = some (.aload_n 0, 1, 0, 0) from rfl) (hl0 0 _ rfl) ?_
    refine q_iload_n (show mE (mtv 280) 9 = some (.iload_n 2, 1, 0, 0) from rfl) (hl0 2 _ rfl) ?_
    refine q_virtualI (show mE (mtv 280) 10 = some (.invokevirtual 250, 3, 276, 9) from rfl) (by decide) rfl rfl rfl (fun _ => ?_)
    have hl7 : qLs (lv_args 0 [.ref (85), .int (a1)]) [some (.ref (85)), some (.int (a1))] := qLs_ar 0
    refine q_iload_n (show mE (mtv 276) 0 = some (.iload_n 1, 1, 0, 0) from rfl) (hl7 1 _ rfl) ?_
    refine q_iconst (show mE (mtv 276) 1 = some (.iconst 0, 1, 0, 0) from rfl) kI_0 ?_
    refine q_aload_n (show mE (mtv 276) 2 = some (.aload_n 0, 1, 0, 0) from rfl) (hl7 0 _ rfl) ?_
    refine q_getI th (show mE (mtv 276) 3 = some (.getfield 123, 3, 9, 37) from rfl) (by decide) rfl ?_
    refine q_iconst (show mE (mtv 276) 6 = some (.iconst 1, 1, 0, 0) from rfl) kI_1 ?_
    refine q_isub (show mE (mtv 276) 7 = some (.isub, 1, 0, 0) from rfl) ?_
    refine q_staticP (show mE (mtv 276) 8 = some (.invokestatic 157, 3, 211, 0) from rfl) (by decide) rfl rfl rfl (fun _ g => sp_211 g) ?_
    refine q_ireturn (show mE (mtv 276) 11 = some (.ireturn, 1, 0, 0) from rfl) ?_
    refine qK_v ?_
    refine q_ifb_eq (t := 20) (show mE (mtv 280) 13 = some (.ifCond .eq 7, 3, 0, 0) from rfl) rfl (fun c8 => ?_) (fun c8 => ?_)
    · refine q_iconst (show mE (mtv 280) 20 = some (.iconst 0, 1, 0, 0) from rfl) kI_0 ?_
      refine q_istore (show mE (mtv 280) 21 = some (.istore 4, 2, 0, 0) from rfl) (Nat.le_of_ble_eq_true rfl) hl0 (fun lv9 (hl10 : qLs lv9 [some (.ref (85)), some (.int (a0)), some (.int (a1)), some (.int (a2)), some (.int ((0 : Int32))), none]) => ?_)
      refine q_aload_n (show mE (mtv 280) 23 = some (.aload_n 0, 1, 0, 0) from rfl) (hl10 0 _ rfl) ?_
      refine q_iload (show mE (mtv 280) 24 = some (.iload 4, 2, 0, 0) from rfl) (hl10 4 _ rfl) ?_
      refine q_iff (t := 33) (show mE (mtv 280) 26 = some (.ifCond .ne 7, 3, 0, 0) from rfl) (by decide) rfl ?_
      refine q_iconst (show mE (mtv 280) 29 = some (.iconst 1, 1, 0, 0) from rfl) kI_1 ?_
      refine q_goto (t := 79) (show mE (mtv 280) 30 = some (.goto 49, 3, 0, 0) from rfl) rfl ?_
      refine q_putI th (show mE (mtv 280) 79 = some (.putfield 138, 3, 9, 42) from rfl) (by decide) rfl (fun h11 t12 => ?_)
      refine q_aload_n (show mE (mtv 280) 82 = some (.aload_n 0, 1, 0, 0) from rfl) (hl10 0 _ rfl) ?_
      refine q_getIe t12 (show mE (mtv 280) 83 = some (.getfield 138, 3, 9, 42) from rfl) (by decide) rfl (upI_s) ?_
      refine q_iff (t := 91) (show mE (mtv 280) 86 = some (.ifCond .le 5, 3, 0, 0) from rfl) (by decide) rfl ?_
      refine q_iconst (show mE (mtv 280) 89 = some (.iconst 0, 1, 0, 0) from rfl) kI_0 ?_
      refine q_ireturn (show mE (mtv 280) 90 = some (.ireturn, 1, 0, 0) from rfl) ?_
      exact p2 c2 c8 h11 t12
    · refine q_iconst (show mE (mtv 280) 16 = some (.iconst 1, 1, 0, 0) from rfl) kI_1 ?_
      refine q_goto (t := 21) (show mE (mtv 280) 17 = some (.goto 4, 3, 0, 0) from rfl) rfl ?_
      refine q_istore (show mE (mtv 280) 21 = some (.istore 4, 2, 0, 0) from rfl) (Nat.le_of_ble_eq_true rfl) hl0 (fun lv13 (hl14 : qLs lv13 [some (.ref (85)), some (.int (a0)), some (.int (a1)), some (.int (a2)), some (.int ((1 : Int32))), none]) => ?_)
      refine q_aload_n (show mE (mtv 280) 23 = some (.aload_n 0, 1, 0, 0) from rfl) (hl14 0 _ rfl) ?_
      refine q_iload (show mE (mtv 280) 24 = some (.iload 4, 2, 0, 0) from rfl) (hl14 4 _ rfl) ?_
      refine q_ift (t := 33) (show mE (mtv 280) 26 = some (.ifCond .ne 7, 3, 0, 0) from rfl) (by decide) rfl ?_
      refine q_iload_n (show mE (mtv 280) 33 = some (.iload_n 3, 1, 0, 0) from rfl) (hl14 3 _ rfl) ?_
      refine q_iconst (show mE (mtv 280) 34 = some (.iconst 1, 1, 0, 0) from rfl) kI_1 ?_
      refine q_sipush (show mE (mtv 280) 35 = some (.sipush 200, 3, 0, 0) from rfl) kS_200 ?_
      refine q_staticP (show mE (mtv 280) 38 = some (.invokestatic 157, 3, 211, 0) from rfl) (by decide) rfl rfl rfl (fun _ g => sp_211 g) ?_
      refine q_ifb_ne (t := 48) (show mE (mtv 280) 41 = some (.ifCond .ne 7, 3, 0, 0) from rfl) rfl (fun c15 => ?_) (fun c15 => ?_)
      · refine q_aload_n (show mE (mtv 280) 48 = some (.aload_n 0, 1, 0, 0) from rfl) (hl14 0 _ rfl) ?_
        refine q_getR (m := 92) th (show mE (mtv 280) 49 = some (.getfield 28, 3, 9, 6) from rfl) (by decide) rfl rfl ?_
        refine q_iload_n (show mE (mtv 280) 52 = some (.iload_n 1, 1, 0, 0) from rfl) (hl14 1 _ rfl) ?_
        refine q_baload (n := 16) th (show mE (mtv 280) 53 = some (.baload, 1, 0, 0) from rfl) (by decide) rfl (fun bb16 => ?_)
        refine q_if_ne (t := 74) (show mE (mtv 280) 54 = some (.ifCond .ne 20, 3, 0, 0) from rfl) rfl (fun c17 => ?_) (fun c17 => ?_)
        · refine q_iconst (show mE (mtv 280) 74 = some (.iconst 3, 1, 0, 0) from rfl) kI_3 ?_
          refine q_goto (t := 79) (show mE (mtv 280) 75 = some (.goto 4, 3, 0, 0) from rfl) rfl ?_
          refine q_putI th (show mE (mtv 280) 79 = some (.putfield 138, 3, 9, 42) from rfl) (by decide) rfl (fun h18 t19 => ?_)
          refine q_aload_n (show mE (mtv 280) 82 = some (.aload_n 0, 1, 0, 0) from rfl) (hl14 0 _ rfl) ?_
          refine q_getIe t19 (show mE (mtv 280) 83 = some (.getfield 138, 3, 9, 42) from rfl) (by decide) rfl (upI_s) ?_
          refine q_iff (t := 91) (show mE (mtv 280) 86 = some (.ifCond .le 5, 3, 0, 0) from rfl) (by decide) rfl ?_
          refine q_iconst (show mE (mtv 280) 89 = some (.iconst 0, 1, 0, 0) from rfl) kI_0 ?_
          refine q_ireturn (show mE (mtv 280) 90 = some (.ireturn, 1, 0, 0) from rfl) ?_
          exact p3 c2 c8 c15 bb16 c17 h18 t19
        · refine q_aload_n (show mE (mtv 280) 57 = some (.aload_n 0, 1, 0, 0) from rfl) (hl14 0 _ rfl) ?_
          refine q_iload_n (show mE (mtv 280) 58 = some (.iload_n 1, 1, 0, 0) from rfl) (hl14 1 _ rfl) ?_
          refine q_virtualP (show mE (mtv 280) 59 = some (.invokevirtual 253, 3, 281, 9) from rfl) (by decide) rfl rfl rfl (fun _ g => sp_281 th g) ?_
          refine q_ifb_ne (t := 74) (show mE (mtv 280) 62 = some (.ifCond .ne 12, 3, 0, 0) from rfl) rfl (fun c20 => ?_) (fun c20 => ?_)
          · refine q_iconst (show mE (mtv 280) 74 = some (.iconst 3, 1, 0, 0) from rfl) kI_3 ?_
            refine q_goto (t := 79) (show mE (mtv 280) 75 = some (.goto 4, 3, 0, 0) from rfl) rfl ?_
            refine q_putI th (show mE (mtv 280) 79 = some (.putfield 138, 3, 9, 42) from rfl) (by decide) rfl (fun h21 t22 => ?_)
            refine q_aload_n (show mE (mtv 280) 82 = some (.aload_n 0, 1, 0, 0) from rfl) (hl14 0 _ rfl) ?_
            refine q_getIe t22 (show mE (mtv 280) 83 = some (.getfield 138, 3, 9, 42) from rfl) (by decide) rfl (upI_s) ?_
            refine q_iff (t := 91) (show mE (mtv 280) 86 = some (.ifCond .le 5, 3, 0, 0) from rfl) (by decide) rfl ?_
            refine q_iconst (show mE (mtv 280) 89 = some (.iconst 0, 1, 0, 0) from rfl) kI_0 ?_
            refine q_ireturn (show mE (mtv 280) 90 = some (.ireturn, 1, 0, 0) from rfl) ?_
            exact p4 c2 c8 c15 bb16 c17 c20 h21 t22
          · refine q_aload_n (show mE (mtv 280) 65 = some (.aload_n 0, 1, 0, 0) from rfl) (hl14 0 _ rfl) ?_
            refine q_iload_n (show mE (mtv 280) 66 = some (.iload_n 2, 1, 0, 0) from rfl) (hl14 2 _ rfl) ?_
            refine q_virtualE (show mE (mtv 280) 67 = some (.invokevirtual 256, 3, 282, 9) from rfl) (by decide) rfl rfl rfl (fun _ g => sp_282 th g) ?_
            rintro _ ⟨v23, rfl, e24⟩
            refine qK_v ?_
            refine q_iconst (show mE (mtv 280) 70 = some (.iconst (-1), 1, 0, 0) from rfl) kI_m1 ?_
            refine q_ic_ne (t := 78) (show mE (mtv 280) 71 = some (.if_icmp .ne 7, 3, 0, 0) from rfl) rfl (fun c25 => ?_) (fun c25 => ?_)
            · refine q_iconst (show mE (mtv 280) 78 = some (.iconst 0, 1, 0, 0) from rfl) kI_0 ?_
              refine q_putI th (show mE (mtv 280) 79 = some (.putfield 138, 3, 9, 42) from rfl) (by decide) rfl (fun h26 t27 => ?_)
              refine q_aload_n (show mE (mtv 280) 82 = some (.aload_n 0, 1, 0, 0) from rfl) (hl14 0 _ rfl) ?_
              refine q_getIe t27 (show mE (mtv 280) 83 = some (.getfield 138, 3, 9, 42) from rfl) (by decide) rfl (upI_s) ?_
              refine q_ift (t := 91) (show mE (mtv 280) 86 = some (.ifCond .le 5, 3, 0, 0) from rfl) (by decide) rfl ?_
              refine q_iconst (show mE (mtv 280) 91 = some (.iconst 0, 1, 0, 0) from rfl) kI_0 ?_
              refine q_istore (show mE (mtv 280) 92 = some (.istore 5, 2, 0, 0) from rfl) (Nat.le_of_ble_eq_true rfl) hl14 (fun lv28 (hl29 : qLs lv28 [some (.ref (85)), some (.int (a0)), some (.int (a1)), some (.int (a2)), some (.int ((1 : Int32))), some (.int ((0 : Int32)))]) => ?_)
              exact p5 c2 c8 c15 bb16 c17 c20 v23 e24 c25 h26 t27 _ lv28 (qLs_wk hl29 (⟨rfl, rfl, rfl, rfl, rfl, trivial⟩))
            · refine q_iconst (show mE (mtv 280) 74 = some (.iconst 3, 1, 0, 0) from rfl) kI_3 ?_
              refine q_goto (t := 79) (show mE (mtv 280) 75 = some (.goto 4, 3, 0, 0) from rfl) rfl ?_
              refine q_putI th (show mE (mtv 280) 79 = some (.putfield 138, 3, 9, 42) from rfl) (by decide) rfl (fun h30 t31 => ?_)
              refine q_aload_n (show mE (mtv 280) 82 = some (.aload_n 0, 1, 0, 0) from rfl) (hl14 0 _ rfl) ?_
              refine q_getIe t31 (show mE (mtv 280) 83 = some (.getfield 138, 3, 9, 42) from rfl) (by decide) rfl (upI_s) ?_
              refine q_iff (t := 91) (show mE (mtv 280) 86 = some (.ifCond .le 5, 3, 0, 0) from rfl) (by decide) rfl ?_
              refine q_iconst (show mE (mtv 280) 89 = some (.iconst 0, 1, 0, 0) from rfl) kI_0 ?_
              refine q_ireturn (show mE (mtv 280) 90 = some (.ireturn, 1, 0, 0) from rfl) ?_
              exact p6 c2 c8 c15 bb16 c17 c20 v23 e24 c25 h30 t31
      · refine q_iconst (show mE (mtv 280) 44 = some (.iconst 2, 1, 0, 0) from rfl) kI_2 ?_
        refine q_goto (t := 79) (show mE (mtv 280) 45 = some (.goto 34, 3, 0, 0) from rfl) rfl ?_
        refine q_putI th (show mE (mtv 280) 79 = some (.putfield 138, 3, 9, 42) from rfl) (by decide) rfl (fun h32 t33 => ?_)
        refine q_aload_n (show mE (mtv 280) 82 = some (.aload_n 0, 1, 0, 0) from rfl) (hl14 0 _ rfl) ?_
        refine q_getIe t33 (show mE (mtv 280) 83 = some (.getfield 138, 3, 9, 42) from rfl) (by decide) rfl (upI_s) ?_
        refine q_iff (t := 91) (show mE (mtv 280) 86 = some (.ifCond .le 5, 3, 0, 0) from rfl) (by decide) rfl ?_
        refine q_iconst (show mE (mtv 280) 89 = some (.iconst 0, 1, 0, 0) from rfl) kI_0 ?_
        refine q_ireturn (show mE (mtv 280) 90 = some (.ireturn, 1, 0, 0) from rfl) ?_
        exact p7 c2 c8 c15 h32 t33
theorem qg_280_94 {N : Nat} {lv : sL} {h : sH} {Q : sR → Prop} {x1 : Int32} {x2 : Int32} {x3 : Int32} {x5 : Int32} {I : Nat → Nat → Int32} {L : Nat → Nat → Int64} {R : Nat → Nat} (th : qH h I L R) (hl : qLs lv [some (.ref (85)), some (.int (x1)), some (.int (x2)), some (.int (x3)), none, some (.int (x5))])
    (p1 : ∀ (c1 : (I 85 35) ≤ x5), ∀ (bb2 : sIn x1 16 = true), Q (.inl (some (.int (I 90 ((x1).toNatClampNeg)))), h))
    (p2 : ∀ (c1 : ¬ (I 85 35) ≤ x5), ∀ (bb3 : sIn x5 16 = true), ∀ (bb4 : sIn x1 16 = true), ∀ (c5 : ¬ (I 96 ((x5).toNatClampNeg)) = (I 96 ((x1).toNatClampNeg))), ∀ lv, qLs lv [some (.ref (85)), some (.int (x1)), some (.int (x2)), some (.int (x3)), none, some (.int (x5 + (1 : Int32)))] → qW 280 N 94 lv [] h Q)
    (p3 : ∀ (c1 : ¬ (I 85 35) ≤ x5), ∀ (bb3 : sIn x5 16 = true), ∀ (bb4 : sIn x1 16 = true), ∀ (c5 : (I 96 ((x5).toNatClampNeg)) = (I 96 ((x1).toNatClampNeg))), ∀ (c9 : (I 92 ((x5).toNatClampNeg)) = 0), ∀ (v10 : Int32), ∀ (e11 : tkP I x2 v10), ∀ (h16 : sH), ∀ (t17 : qH h16 (upI (upI I 89 ((x5).toNatClampNeg) v10) 90 ((x5).toNatClampNeg) ((I 85 41) + x3)) L R), ∀ lv, qLs lv [some (.ref (85)), some (.int (x1)), some (.int (x2)), some (.int (x3)), none, some (.int (x5 + (1 : Int32)))] → qW 280 N 94 lv [] h16 Q)
    (p4 : ∀ (c1 : ¬ (I 85 35) ≤ x5), ∀ (bb3 : sIn x5 16 = true), ∀ (bb4 : sIn x1 16 = true), ∀ (c5 : (I 96 ((x5).toNatClampNeg)) = (I 96 ((x1).toNatClampNeg))), ∀ (c9 : ¬ (I 92 ((x5).toNatClampNeg)) = 0), ∀ lv, qLs lv [some (.ref (85)), some (.int (x1)), some (.int (x2)), some (.int (x3)), none, some (.int (x5 + (1 : Int32)))] → qW 280 N 94 lv [] h Q) : qW 280 (N + 1) 94 lv [] h Q := by
  refine q1_iload (show mE (mtv 280) 94 = some (.iload 5, 2, 0, 0) from rfl) (hl 5 _ rfl) ?_
  refine q_aload_n (show mE (mtv 280) 96 = some (.aload_n 0, 1, 0, 0) from rfl) (hl 0 _ rfl) ?_
  refine q_getI th (show mE (mtv 280) 97 = some (.getfield 117, 3, 9, 35) from rfl) (by decide) rfl ?_
  refine q_ic_ge (t := 163) (show mE (mtv 280) 100 = some (.if_icmp .ge 63, 3, 0, 0) from rfl) rfl (fun c1 => ?_) (fun c1 => ?_)
  · refine q_aload_n (show mE (mtv 280) 163 = some (.aload_n 0, 1, 0, 0) from rfl) (hl 0 _ rfl) ?_
    refine q_getR (m := 90) th (show mE (mtv 280) 164 = some (.getfield 22, 3, 9, 4) from rfl) (by decide) rfl rfl ?_
    refine q_iload_n (show mE (mtv 280) 167 = some (.iload_n 1, 1, 0, 0) from rfl) (hl 1 _ rfl) ?_
    refine q_iaload (n := 16) th (show mE (mtv 280) 168 = some (.iaload, 1, 0, 0) from rfl) (by decide) rfl (fun bb2 => ?_)
    refine q_ireturn (show mE (mtv 280) 169 = some (.ireturn, 1, 0, 0) from rfl) ?_
    exact p1 c1 bb2
  · refine q_aload_n (show mE (mtv 280) 103 = some (.aload_n 0, 1, 0, 0) from rfl) (hl 0 _ rfl) ?_
    refine q_getR (m := 96) th (show mE (mtv 280) 104 = some (.getfield 41, 3, 9, 10) from rfl) (by decide) rfl rfl ?_
    refine q_iload (show mE (mtv 280) 107 = some (.iload 5, 2, 0, 0) from rfl) (hl 5 _ rfl) ?_
    refine q_iaload (n := 16) th (show mE (mtv 280) 109 = some (.iaload, 1, 0, 0) from rfl) (by decide) rfl (fun bb3 => ?_)
    refine q_aload_n (show mE (mtv 280) 110 = some (.aload_n 0, 1, 0, 0) from rfl) (hl 0 _ rfl) ?_
    refine q_getR (m := 96) th (show mE (mtv 280) 111 = some (.getfield 41, 3, 9, 10) from rfl) (by decide) rfl rfl ?_
    refine q_iload_n (show mE (mtv 280) 114 = some (.iload_n 1, 1, 0, 0) from rfl) (hl 1 _ rfl) ?_
    refine q_iaload (n := 16) th (show mE (mtv 280) 115 = some (.iaload, 1, 0, 0) from rfl) (by decide) rfl (fun bb4 => ?_)
    refine q_ic_ne (t := 157) (show mE (mtv 280) 116 = some (.if_icmp .ne 41, 3, 0, 0) from rfl) rfl (fun c5 => ?_) (fun c5 => ?_)
    · refine q_iinc (show mE (mtv 280) 157 = some (.iinc 5 1, 3, 0, 0) from rfl) (Nat.le_of_ble_eq_true rfl) hl (hl 5 _ rfl) kI_1 (fun lv6 (hl7 : qLs lv6 [some (.ref (85)), some (.int (x1)), some (.int (x2)), some (.int (x3)), none, some (.int (x5 + (1 : Int32)))]) => ?_)
      refine q_goto (t := 94) (show mE (mtv 280) 160 = some (.goto (-66), 3, 0, 0) from rfl) rfl ?_
      exact p2 c1 bb3 bb4 c5 lv6 (qLs_wk hl7 (⟨rfl, rfl, rfl, rfl, rfl, trivial⟩))
    · refine q_aload_n (show mE (mtv 280) 119 = some (.aload_n 0, 1, 0, 0) from rfl) (hl 0 _ rfl) ?_
      refine q_getR (m := 92) th (show mE (mtv 280) 120 = some (.getfield 28, 3, 9, 6) from rfl) (by decide) rfl rfl ?_
      refine q_iload (show mE (mtv 280) 123 = some (.iload 5, 2, 0, 0) from rfl) (hl 5 _ rfl) ?_
      refine q_baload (n := 16) th (show mE (mtv 280) 125 = some (.baload, 1, 0, 0) from rfl) (by decide) rfl (fun bb8 => ?_)
      refine q_if_eq (t := 132) (show mE (mtv 280) 126 = some (.ifCond .eq 6, 3, 0, 0) from rfl) rfl (fun c9 => ?_) (fun c9 => ?_)
      · refine q_aload_n (show mE (mtv 280) 132 = some (.aload_n 0, 1, 0, 0) from rfl) (hl 0 _ rfl) ?_
        refine q_getR (m := 89) th (show mE (mtv 280) 133 = some (.getfield 19, 3, 9, 3) from rfl) (by decide) rfl rfl ?_
        refine q_iload (show mE (mtv 280) 136 = some (.iload 5, 2, 0, 0) from rfl) (hl 5 _ rfl) ?_
        refine q_aload_n (show mE (mtv 280) 138 = some (.aload_n 0, 1, 0, 0) from rfl) (hl 0 _ rfl) ?_
        refine q_iload_n (show mE (mtv 280) 139 = some (.iload_n 2, 1, 0, 0) from rfl) (hl 2 _ rfl) ?_
        refine q_virtualE (show mE (mtv 280) 140 = some (.invokevirtual 256, 3, 282, 9) from rfl) (by decide) rfl rfl rfl (fun _ g => sp_282 th g) ?_
        rintro _ ⟨v10, rfl, e11⟩
        refine qK_v ?_
        refine q_iastore (n := 16) th (show mE (mtv 280) 143 = some (.iastore, 1, 0, 0) from rfl) (by decide) rfl (fun bb12 h13 t14 => ?_)
        refine q_aload_n (show mE (mtv 280) 144 = some (.aload_n 0, 1, 0, 0) from rfl) (hl 0 _ rfl) ?_
        refine q_getR (m := 90) t14 (show mE (mtv 280) 145 = some (.getfield 22, 3, 9, 4) from rfl) (by decide) rfl rfl ?_
        refine q_iload (show mE (mtv 280) 148 = some (.iload 5, 2, 0, 0) from rfl) (hl 5 _ rfl) ?_
        refine q_aload_n (show mE (mtv 280) 150 = some (.aload_n 0, 1, 0, 0) from rfl) (hl 0 _ rfl) ?_
        refine q_getIe t14 (show mE (mtv 280) 151 = some (.getfield 135, 3, 9, 41) from rfl) (by decide) rfl (upI_n (Or.inl (by decide))) ?_
        refine q_iload_n (show mE (mtv 280) 154 = some (.iload_n 3, 1, 0, 0) from rfl) (hl 3 _ rfl) ?_
        refine q_iadd (show mE (mtv 280) 155 = some (.iadd, 1, 0, 0) from rfl) ?_
        refine q_iastore (n := 16) t14 (show mE (mtv 280) 156 = some (.iastore, 1, 0, 0) from rfl) (by decide) rfl (fun bb15 h16 t17 => ?_)
        refine q_iinc (show mE (mtv 280) 157 = some (.iinc 5 1, 3, 0, 0) from rfl) (Nat.le_of_ble_eq_true rfl) hl (hl 5 _ rfl) kI_1 (fun lv18 (hl19 : qLs lv18 [some (.ref (85)), some (.int (x1)), some (.int (x2)), some (.int (x3)), none, some (.int (x5 + (1 : Int32)))]) => ?_)
        refine q_goto (t := 94) (show mE (mtv 280) 160 = some (.goto (-66), 3, 0, 0) from rfl) rfl ?_
        exact p3 c1 bb3 bb4 c5 c9 v10 e11 h16 t17 lv18 (qLs_wk hl19 (⟨rfl, rfl, rfl, rfl, rfl, trivial⟩))
      · refine q_goto (t := 157) (show mE (mtv 280) 129 = some (.goto 28, 3, 0, 0) from rfl) rfl ?_
        refine q_iinc (show mE (mtv 280) 157 = some (.iinc 5 1, 3, 0, 0) from rfl) (Nat.le_of_ble_eq_true rfl) hl (hl 5 _ rfl) kI_1 (fun lv20 (hl21 : qLs lv20 [some (.ref (85)), some (.int (x1)), some (.int (x2)), some (.int (x3)), none, some (.int (x5 + (1 : Int32)))]) => ?_)
        refine q_goto (t := 94) (show mE (mtv 280) 160 = some (.goto (-66), 3, 0, 0) from rfl) rfl ?_
        exact p4 c1 bb3 bb4 c5 c9 lv20 (qLs_wk hl21 (⟨rfl, rfl, rfl, rfl, rfl, trivial⟩))
theorem lk_280 {I : Nat → Nat → Int32} {L : Nat → Nat → Int64} {R : Nat → Nat} {a nk n c : Nat} {a3 : Int32} (ek : I 85 35 = Int32.ofNat nk) (hk : nk ≤ 16) (ha : a < nk) (en : I 0 13 = Int32.ofNat n) (hn : n ≤ 8) (hD : RD I) (hp : ∀ p, p < 8 → I 94 p = I (57 + p) 0 ∧ I 99 p = I (57 + p) 1) (hc : c < n) : ∀ N J j lv h, qH h J L R → j ≤ nk → (∀ k, k < nk → J 89 k = if k < j ∧ I 96 k = I 96 a ∧ I 92 k = 0 then G_167 I 0 (Int32.ofNat c) n else I 89 k) → (∀ k, k < nk → J 90 k = if k < j ∧ I 96 k = I 96 a ∧ I 92 k = 0 then I 85 41 + a3 else I 90 k) → (∀ c b, ¬ ((c = 89 ∨ c = 90) ∧ b < nk) → J c b = I c b) → qLs lv [some (.ref (85)), some (.int (Int32.ofNat a)), some (.int (Int32.ofNat c)), some (.int (a3)), none, some (.int (Int32.ofNat j))] → qW 280 N 94 lv [] h (fun r => ∃ v J h1, r = (.inl (some (.int v)), h1) ∧ qH h1 J L R ∧ lenR I a nk (G_167 I 0 (Int32.ofNat c) n) (I 85 41 + a3) J v)
  | 0, _, _, _, _, _, _, _, _, _, _ => qW_0
  | N + 1, J, j, lv, h, th, hj, h89, h90, he, hl => by
    have ec : (Int32.ofNat a).toNatClampNeg = a := ofN_clamp (by omega)
    have ej : (Int32.ofNat j).toNatClampNeg = j := ofN_clamp (by omega)
    have gl : ¬ J 85 35 ≤ Int32.ofNat j → j < nk := fun g => by
      rw [he 85 35 (by omega), ek] at g
      have := mt (oN_le (by omega) (by omega)).mpr g
      omega
    have same : ∀ {x y : Int32} {k : Nat}, ¬ (I 96 j = I 96 a ∧ I 92 j = 0) → (if k < j ∧ I 96 k = I 96 a ∧ I 92 k = 0 then x else y) = if k < j + 1 ∧ I 96 k = I 96 a ∧ I 92 k = 0 then x else y := fun {x y k} nj => by
      by_cases z : k < j ∧ I 96 k = I 96 a ∧ I 92 k = 0
      · rw [if_pos z, if_pos ⟨by omega, z.2⟩]
      · rw [if_neg z, if_neg (fun q => by
          by_cases e : k = j
          · exact nj (e ▸ q.2)
          · exact z ⟨by omega, q.2⟩)]
    refine qg_280_94 th hl (fun c1 _ => ?_) (fun c1 _ _ c5 lv' hl' => ?_) (fun c1 _ _ c5 c9 v10 e11 h16 t17 lv' hl' => ?_) (fun c1 _ _ c5 c9 lv' hl' => ?_)
    · rw [he 85 35 (by omega), ek] at c1
      have := (oN_le (by omega) (by omega)).mp c1
      have e2 : j = nk := by omega
      subst e2
      refine ⟨_, J, h, rfl, th, by rw [ec], fun k hk' => ?_, fun k hk' => ?_, he⟩
      · rw [h89 k hk']
        by_cases z : I 96 k = I 96 a ∧ I 92 k = 0
        · rw [if_pos z, if_pos ⟨hk', z⟩]
        · rw [if_neg z, if_neg (fun y => z y.2)]
      · rw [h90 k hk']
        by_cases z : I 96 k = I 96 a ∧ I 92 k = 0
        · rw [if_pos z, if_pos ⟨hk', z⟩]
        · rw [if_neg z, if_neg (fun y => z y.2)]
    · have hjl := gl c1
      rw [ej, ec, he 96 j (by omega), he 96 a (by omega)] at c5
      rw [oN_s] at hl'
      exact lk_280 ek hk ha en hn hD hp hc N J (j + 1) lv' h th (by omega) (fun k hk' => (h89 k hk').trans (same (fun z => c5 z.1))) (fun k hk' => (h90 k hk').trans (same (fun z => c5 z.1))) he hl'
    · have hjl := gl c1
      rw [ej, ec, he 96 j (by omega), he 96 a (by omega)] at c5
      rw [ej, he 92 j (by omega)] at c9
      rw [ej, he 85 41 (by omega)] at t17
      rw [oN_s] at hl'
      have ev : v10 = G_167 I 0 (Int32.ofNat c) n := by
        rw [e11 n c ((he 0 13 (by omega)).trans en) hn (fun p hp' => by
          rw [he (57 + p) 1 (by omega), he 0 13 (by omega)]; exact hD p hp') (fun p hp' => by
          rw [he 94 p (by omega), he 99 p (by omega), he (57 + p) 0 (by omega), he (57 + p) 1 (by omega)]; exact hp p hp') rfl hc]
        exact G167_cg en hn (fun p b _ => he _ b (by omega)) (he 0 13 (by omega)) n 0 _
      subst ev
      refine lk_280 ek hk ha en hn hD hp hc N _ (j + 1) lv' h16 t17 (by omega) (fun k hk' => ?_) (fun k hk' => ?_) (fun c' b q => ?_) hl'
      · by_cases e : k = j
        · subst e
          rw [upI_ne (by omega), upI_s, if_pos ⟨by omega, c5, c9⟩]
        · rw [upI_ne (by omega), upI_ne (fun z => e z.2), h89 k hk']
          by_cases z : k < j ∧ I 96 k = I 96 a ∧ I 92 k = 0
          · rw [if_pos z, if_pos ⟨by omega, z.2⟩]
          · rw [if_neg z, if_neg (fun y => z ⟨by omega, y.2⟩)]
      · by_cases e : k = j
        · subst e
          rw [upI_s, if_pos ⟨by omega, c5, c9⟩]
        · rw [upI_ne (fun z => e z.2), upI_ne (by omega), h90 k hk']
          by_cases z : k < j ∧ I 96 k = I 96 a ∧ I 92 k = 0
          · rw [if_pos z, if_pos ⟨by omega, z.2⟩]
          · rw [if_neg z, if_neg (fun y => z ⟨by omega, y.2⟩)]
      · rw [upI_ne (fun z => q ⟨.inr z.1, by omega⟩), upI_ne (fun z => q ⟨.inl z.1, by omega⟩)]
        exact he c' b q
    · have hjl := gl c1
      rw [ej, he 92 j (by omega)] at c9
      rw [oN_s] at hl'
      exact lk_280 ek hk ha en hn hD hp hc N J (j + 1) lv' h th (by omega) (fun k hk' => (h89 k hk').trans (same (fun z => c9 z.2))) (fun k hk' => (h90 k hk').trans (same (fun z => c9 z.2))) he hl'
theorem grE {I j : Nat → Nat → Int32} {L : Nat → Nat → Int64} {R : Nat → Nat} (h : RK I L R) {x t d : Int32} (g : grP I x t d j) : ∀ a b, ¬ (19 ≤ a ∧ a ≤ 34 ∧ (b = 4 ∨ b = 5)) → j a b = I a b := fun a b q => (g (nkI I) h.k1 h.mi.kb).2 a b (fun ⟨k, z1, z2, z3, z4, z5⟩ => q (by have := h.mi.kb; omega))
/-- a ring is written on both sides -/
theorem RK_lenOp {I j J : Nat → Nat → Int32} {L : Nat → Nat → Int64} {R : Nat → Nat} (h : RK I L R) {a : Nat} (ha : a < nkI I) {t d : Int32} (g : grP I (I (19 + a) 3) t d j) (h89 : ∀ k, k < nkI I → J 89 k = if I 96 k = I 96 a ∧ I 92 k = 0 then t else I 89 k) (h90 : ∀ k, k < nkI I → ¬ J 89 k = -1 → J 90 k = if I 96 k = I 96 a ∧ I 92 k = 0 then d else I 90 k) (he : ∀ c b, ¬ ((c = 89 ∨ c = 90) ∧ b < nkI I) → ¬ (c = 85 ∧ b = 42) → J c b = j c b) : RK J L R := by
  have hm := h.mi
  have hkb := hm.kb
  obtain ⟨g1, g2⟩ := g (nkI I) h.k1 hkb
  have gE := grE h g
  have e : ∀ c b, ¬ scr c b → ¬ (c = 89 ∨ c = 90 ∨ (19 ≤ c ∧ c ≤ 34 ∧ b = 4) ∨ (19 ≤ c ∧ c ≤ 34 ∧ b = 5)) → J c b = I c b := fun c b q1 q2 => by
    rw [he c b (by omega) (fun z => q1 (by unfold scr; omega)), gE c b (by omega)]
  have q_nk : nkI J = nkI I := congrArg Int32.toNatClampNeg (e 85 35 (by unfold scr; omega) (by omega))
  have inn : ∀ k, k < nkI I → (I 96 k = I 96 a ∧ I 92 k = 0 ↔ tb (I (19 + a) 3) k = true ∧ I (19 + k) 2 = 0) := fun k hk => by
    rw [h.kr a k ha (by omega), h.kl k (by omega)]
    exact ⟨fun z => ⟨⟨hk, z.1⟩, z.2⟩, fun z => ⟨z.1.2, z.2⟩⟩
  have out : ∀ k b, ¬ (k < nkI I ∧ I 96 k = I 96 a ∧ I 92 k = 0) → k < 16 → j (19 + k) b = I (19 + k) b := fun k b nz hk => g2 _ b (fun ⟨k', z1, z2, z3, z4, _⟩ => by
    have : k' = k := by omega
    subst this
    exact nz ⟨z1, (inn k' z1).mpr ⟨z2, z3⟩⟩)
  refine RK_up_lend h e (fun _ _ => rfl) rfl (fun _ => rfl) (MI_up_lend hm e ?_) ?_ ?_
  · intro k h1 h2
    rw [q_nk] at h1
    rw [he 89 k (by omega) (by omega), gE 89 k (by omega)]
    exact hm.hu k h1 h2
  · intro k hk
    rw [he (19 + k) 4 (by omega) (by omega)]
    by_cases c : k < nkI I
    · rw [h89 k c]
      by_cases c2 : I 96 k = I 96 a ∧ I 92 k = 0
      · rw [if_pos c2]
        obtain ⟨z1, z2⟩ := (inn k c).mp c2
        exact (g1 k c z1 z2).1.symm
      · rw [if_neg c2, out k 4 (fun z => c2 z.2) hk]
        exact h.kh k hk
    · rw [he 89 k (by omega) (by omega), gE 89 k (by omega), out k 4 (fun z => c z.1) hk]
      exact h.kh k hk
  · intro k hk nz
    rw [q_nk] at hk
    rw [h90 k hk nz, he (19 + k) 5 (by omega) (by omega)]
    by_cases c2 : I 96 k = I 96 a ∧ I 92 k = 0
    · rw [if_pos c2]
      obtain ⟨z1, z2⟩ := (inn k hk).mp c2
      exact (g1 k hk z1 z2).2.symm
    · rw [if_neg c2, out k 5 (fun z => c2 z.2) (by omega)]
      refine h.kd k hk ?_
      rw [h89 k hk, if_neg c2] at nz
      exact nz
/-! a key is brought -/
noncomputable def brR (I : Nat → Nat → Int32) (a nk : Nat) (r : Int32 × (Nat → Nat → Int32)) : Prop := r.1 = (if I 85 41 ≤ I 90 a then 0 else I 85 41 - I 90 a) ∧ (∀ k, k < nk → r.2 89 k = if I 96 k = I 96 a ∧ I 92 k = 0 then -1 else I 89 k) ∧ ∀ c b, ¬ (c = 89 ∧ b < nk) → r.2 c b = I c b
theorem sem_283 {I : Nat → Nat → Int32} {a nk : Nat} (ek : I 85 35 = Int32.ofNat nk) (hk : nk ≤ 16) (ha : a < nk) : ∀ n J j r, j ≤ nk → (∀ k, k < nk → J 89 k = if k < j ∧ I 96 k = I 96 a ∧ I 92 k = 0 then -1 else I 89 k) → (∀ c b, ¬ (c = 89 ∧ b < nk) → J c b = I c b) → F_283 n 51 J (Int32.ofNat a) (Int32.ofNat j) = some r → brR I a nk r
  | 0, _, _, _, _, _, _, h => by cases h
  | n + 1, J, j, r, hj, hd, he, h => by
    have same : ∀ {x y : Int32} {k : Nat}, ¬ (I 96 j = I 96 a ∧ I 92 j = 0) → (if k < j ∧ I 96 k = I 96 a ∧ I 92 k = 0 then x else y) = if k < j + 1 ∧ I 96 k = I 96 a ∧ I 92 k = 0 then x else y := fun {x y k} nj => by
      by_cases z : k < j ∧ I 96 k = I 96 a ∧ I 92 k = 0
      · rw [if_pos z, if_pos ⟨by omega, z.2⟩]
      · rw [if_neg z, if_neg (fun q => by
          by_cases e : k = j
          · exact nj (e ▸ q.2)
          · exact z ⟨by omega, q.2⟩)]
    simp only [F_283, reduceIte] at h
    rw [he 85 35 (by omega), ek, ofN_clamp (show a < 2147483648 by omega), he 85 41 (by omega), he 90 a (by omega)] at h
    by_cases g : Int32.ofNat nk ≤ Int32.ofNat j
    · have := (oN_le (by omega) (by omega)).mp g
      have ej : j = nk := by omega
      subst ej
      rw [if_pos g] at h
      have fin : ∀ v, (v, J) = r → v = (if I 85 41 ≤ I 90 a then 0 else I 85 41 - I 90 a) → brR I a j r := fun v e1 e2 => by
        subst e1
        refine ⟨e2, fun k hk' => ?_, he⟩
        show J 89 k = _
        rw [hd k hk']
        by_cases z : I 96 k = I 96 a ∧ I 92 k = 0
        · rw [if_pos z, if_pos ⟨hk', z⟩]
        · rw [if_neg z, if_neg (fun y => z y.2)]
      by_cases c : I 85 41 ≤ I 90 a
      · rw [if_pos c] at h
        exact fin _ (Option.some.inj h) (by rw [if_pos c])
      · rw [if_neg c] at h
        exact fin _ (Option.some.inj h) (by rw [if_neg c])
    · have gj := mt (oN_le (by omega) (by omega)).mpr g
      rw [if_neg g, ofN_clamp (show j < 2147483648 by omega), oN_s, he 96 j (by omega), he 96 a (by omega), he 92 j (by omega)] at h
      by_cases c1 : I 96 j = I 96 a
      · rw [if_pos c1] at h
        by_cases c2 : I 92 j = 0
        · rw [if_pos c2] at h
          refine sem_283 ek hk ha n _ (j + 1) r (by omega) (fun k hk' => ?_) (fun c b q => ?_) h
          · by_cases e : k = j
            · subst e
              rw [upI_s, if_pos ⟨by omega, c1, c2⟩]
            · rw [upI_ne (fun z => e z.2), hd k hk']
              by_cases z : k < j ∧ I 96 k = I 96 a ∧ I 92 k = 0
              · rw [if_pos z, if_pos ⟨by omega, z.2⟩]
              · rw [if_neg z, if_neg (fun y => z ⟨by omega, y.2⟩)]
          · rw [upI_ne (fun z => q ⟨z.1, by omega⟩)]; exact he c b q
        · rw [if_neg c2] at h
          exact sem_283 ek hk ha n J (j + 1) r (by omega) (fun k hk' => (hd k hk').trans (same (fun z => c2 z.2))) he h
      · rw [if_neg c1] at h
        exact sem_283 ek hk ha n J (j + 1) r (by omega) (fun k hk' => (hd k hk').trans (same (fun z => c1 z.1))) he h
set_option maxHeartbeats 4000000 in
theorem qp_41 {h : sH} {I : Nat → Nat → Int32} {L : Nat → Nat → Int64} {R : Nat → Nat} (th : qH h I L R) (hK : RK I L R) (hG : RG I) (hB : inR (I 0 13) 0 8) (hD : RD I) {a1 : Int32} {a2 : Int32} {a3 : Int32} {r : sR} (gW : qGo 165 [.ref (0), .int (a1), .int (a2), .int (a3), .ref (117)] h r)
    (p1 : ∀ (c3 : ¬ a1 < 0), ∀ (c16 : a1 < (I 0 9)), ∀ (c18 : ¬ a2 < 0), ∀ (c37 : a2 < (I 0 13)), ∀ (c38 : (1 : Int32) ≤ a3 ∧ a3 ≤ (200 : Int32)), ∀ (bb41 : sIn a1 16 = true), ∀ (z42 : I (19 + (a1).toNatClampNeg) 2 = 0 ∨ I (19 + (a1).toNatClampNeg) 2 = 1), ∀ (c43 : (I (19 + (a1).toNatClampNeg) 2) = 0), ∀ (c68 : G_168 I ((I (19 + (a1).toNatClampNeg) 3)) 0 ((I 0 9)).toNatClampNeg = true), ∀ (c90 : ¬ (G_281 I (a1) 0 ((I 85 35)).toNatClampNeg = true)), ∀ (v93 : Int32), ∀ (e94 : tkP I a2 v93), ∀ (c95 : ¬ v93 = (-1 : Int32)), ∀ (h96 : sH), ∀ (t97 : qH h96 (upI I 85 42 (0 : Int32)) L R), ∀ N lv, qLs lv [some (.ref (85)), some (.int (a1)), some (.int (a2)), some (.int (a3)), none, some (.int ((0 : Int32)))] → qW 280 N 94 lv [] h96 (fun r2 => opE (.inl (some (.int ((3 : Int32))))) r2.1 r2.2 RK))
    (p2 : ∀ (c3 : ¬ a1 < 0), ∀ (c16 : a1 < (I 0 9)), ∀ (c18 : ¬ a2 < 0), ∀ (c37 : a2 < (I 0 13)), ∀ (c38 : (1 : Int32) ≤ a3 ∧ a3 ≤ (200 : Int32)), ∀ (bb41 : sIn a1 16 = true), ∀ (z42 : I (19 + (a1).toNatClampNeg) 2 = 0 ∨ I (19 + (a1).toNatClampNeg) 2 = 1), ∀ (c43 : (I (19 + (a1).toNatClampNeg) 2) = 0), ∀ (c68 : ¬ (G_168 I ((I (19 + (a1).toNatClampNeg) 3)) 0 ((I 0 9)).toNatClampNeg = true)), ∀ (c102 : ¬ (G_167 I 0 (a2) ((I 0 13)).toNatClampNeg) = (-1 : Int32)), ∀ (j106 : Nat → Nat → Int32), ∀ (e109 : grP I (I (19 + (a1).toNatClampNeg) 3) (G_167 I 0 (a2) ((I 0 13)).toNatClampNeg) ((I 0 18) + a3) j106), ∀ (bb110 : sIn (0 : Int32) 1 = true), ∀ (c117 : ¬ ((0 : Int32) ≤ a1 ∧ a1 ≤ ((j106 85 35) - (1 : Int32)))), False)
    (p3 : ∀ (c3 : ¬ a1 < 0), ∀ (c16 : a1 < (I 0 9)), ∀ (c18 : ¬ a2 < 0), ∀ (c37 : a2 < (I 0 13)), ∀ (c38 : (1 : Int32) ≤ a3 ∧ a3 ≤ (200 : Int32)), ∀ (bb41 : sIn a1 16 = true), ∀ (z42 : I (19 + (a1).toNatClampNeg) 2 = 0 ∨ I (19 + (a1).toNatClampNeg) 2 = 1), ∀ (c43 : (I (19 + (a1).toNatClampNeg) 2) = 0), ∀ (c68 : ¬ (G_168 I ((I (19 + (a1).toNatClampNeg) 3)) 0 ((I 0 9)).toNatClampNeg = true)), ∀ (c102 : ¬ (G_167 I 0 (a2) ((I 0 13)).toNatClampNeg) = (-1 : Int32)), ∀ (j106 : Nat → Nat → Int32), ∀ (e109 : grP I (I (19 + (a1).toNatClampNeg) 3) (G_167 I 0 (a2) ((I 0 13)).toNatClampNeg) ((I 0 18) + a3) j106), ∀ (bb110 : sIn (0 : Int32) 1 = true), ∀ (c117 : (0 : Int32) ≤ a1 ∧ a1 ≤ ((j106 85 35) - (1 : Int32))), ∀ (c123 : ¬ ((0 : Int32) ≤ a2 ∧ a2 ≤ ((j106 85 37) - (1 : Int32)))), False)
    (p4 : ∀ (c3 : ¬ a1 < 0), ∀ (c16 : a1 < (I 0 9)), ∀ (c18 : ¬ a2 < 0), ∀ (c37 : a2 < (I 0 13)), ∀ (c38 : (1 : Int32) ≤ a3 ∧ a3 ≤ (200 : Int32)), ∀ (bb41 : sIn a1 16 = true), ∀ (z42 : I (19 + (a1).toNatClampNeg) 2 = 0 ∨ I (19 + (a1).toNatClampNeg) 2 = 1), ∀ (c43 : (I (19 + (a1).toNatClampNeg) 2) = 0), ∀ (c68 : ¬ (G_168 I ((I (19 + (a1).toNatClampNeg) 3)) 0 ((I 0 9)).toNatClampNeg = true)), ∀ (c102 : ¬ (G_167 I 0 (a2) ((I 0 13)).toNatClampNeg) = (-1 : Int32)), ∀ (j106 : Nat → Nat → Int32), ∀ (e109 : grP I (I (19 + (a1).toNatClampNeg) 3) (G_167 I 0 (a2) ((I 0 13)).toNatClampNeg) ((I 0 18) + a3) j106), ∀ (bb110 : sIn (0 : Int32) 1 = true), ∀ (c117 : (0 : Int32) ≤ a1 ∧ a1 ≤ ((j106 85 35) - (1 : Int32))), ∀ (c123 : (0 : Int32) ≤ a2 ∧ a2 ≤ ((j106 85 37) - (1 : Int32))), ∀ (c132 : ¬ (j106 92 ((a1).toNatClampNeg)) = 0), False)
    (p5 : ∀ (c3 : ¬ a1 < 0), ∀ (c16 : a1 < (I 0 9)), ∀ (c18 : ¬ a2 < 0), ∀ (c37 : a2 < (I 0 13)), ∀ (c38 : (1 : Int32) ≤ a3 ∧ a3 ≤ (200 : Int32)), ∀ (bb41 : sIn a1 16 = true), ∀ (z42 : I (19 + (a1).toNatClampNeg) 2 = 0 ∨ I (19 + (a1).toNatClampNeg) 2 = 1), ∀ (c43 : (I (19 + (a1).toNatClampNeg) 2) = 0), ∀ (c68 : ¬ (G_168 I ((I (19 + (a1).toNatClampNeg) 3)) 0 ((I 0 9)).toNatClampNeg = true)), ∀ (c102 : ¬ (G_167 I 0 (a2) ((I 0 13)).toNatClampNeg) = (-1 : Int32)), ∀ (j106 : Nat → Nat → Int32), ∀ (e109 : grP I (I (19 + (a1).toNatClampNeg) 3) (G_167 I 0 (a2) ((I 0 13)).toNatClampNeg) ((I 0 18) + a3) j106), ∀ (bb110 : sIn (0 : Int32) 1 = true), ∀ (c117 : (0 : Int32) ≤ a1 ∧ a1 ≤ ((j106 85 35) - (1 : Int32))), ∀ (c123 : (0 : Int32) ≤ a2 ∧ a2 ≤ ((j106 85 37) - (1 : Int32))), ∀ (c132 : (j106 92 ((a1).toNatClampNeg)) = 0), ∀ (c135 : G_281 j106 (a1) 0 ((j106 85 35)).toNatClampNeg = true), False)
    (p6 : ∀ (c3 : ¬ a1 < 0), ∀ (c16 : a1 < (I 0 9)), ∀ (c18 : ¬ a2 < 0), ∀ (c37 : a2 < (I 0 13)), ∀ (c38 : (1 : Int32) ≤ a3 ∧ a3 ≤ (200 : Int32)), ∀ (bb41 : sIn a1 16 = true), ∀ (z42 : I (19 + (a1).toNatClampNeg) 2 = 0 ∨ I (19 + (a1).toNatClampNeg) 2 = 1), ∀ (c43 : (I (19 + (a1).toNatClampNeg) 2) = 0), ∀ (c68 : ¬ (G_168 I ((I (19 + (a1).toNatClampNeg) 3)) 0 ((I 0 9)).toNatClampNeg = true)), ∀ (c102 : ¬ (G_167 I 0 (a2) ((I 0 13)).toNatClampNeg) = (-1 : Int32)), ∀ (j106 : Nat → Nat → Int32), ∀ (e109 : grP I (I (19 + (a1).toNatClampNeg) 3) (G_167 I 0 (a2) ((I 0 13)).toNatClampNeg) ((I 0 18) + a3) j106), ∀ (bb110 : sIn (0 : Int32) 1 = true), ∀ (c117 : (0 : Int32) ≤ a1 ∧ a1 ≤ ((j106 85 35) - (1 : Int32))), ∀ (c123 : (0 : Int32) ≤ a2 ∧ a2 ≤ ((j106 85 37) - (1 : Int32))), ∀ (c132 : (j106 92 ((a1).toNatClampNeg)) = 0), ∀ (c135 : ¬ (G_281 j106 (a1) 0 ((j106 85 35)).toNatClampNeg = true)), ∀ (v138 : Int32), ∀ (e139 : tkP j106 a2 v138), ∀ (c140 : ¬ v138 = (-1 : Int32)), ∀ (h141 : sH), ∀ (t142 : qH h141 (upI j106 85 42 (0 : Int32)) (upL L 117 (((0 : Int32)).toNatClampNeg) (((I 0 18) + a3).toInt64)) R), ∀ N lv, qLs lv [some (.ref (85)), some (.int (a1)), some (.int (a2)), some (.int (a3)), none, some (.int ((0 : Int32)))] → qW 280 N 94 lv [] h141 (fun r2 => opE (.inl (some (.int ((0 : Int32))))) r2.1 r2.2 RK))
    (p7 : ∀ (c3 : ¬ a1 < 0), ∀ (c16 : a1 < (I 0 9)), ∀ (c18 : ¬ a2 < 0), ∀ (c37 : a2 < (I 0 13)), ∀ (c38 : (1 : Int32) ≤ a3 ∧ a3 ≤ (200 : Int32)), ∀ (bb41 : sIn a1 16 = true), ∀ (z42 : I (19 + (a1).toNatClampNeg) 2 = 0 ∨ I (19 + (a1).toNatClampNeg) 2 = 1), ∀ (c43 : (I (19 + (a1).toNatClampNeg) 2) = 0), ∀ (c68 : ¬ (G_168 I ((I (19 + (a1).toNatClampNeg) 3)) 0 ((I 0 9)).toNatClampNeg = true)), ∀ (c102 : ¬ (G_167 I 0 (a2) ((I 0 13)).toNatClampNeg) = (-1 : Int32)), ∀ (j106 : Nat → Nat → Int32), ∀ (e109 : grP I (I (19 + (a1).toNatClampNeg) 3) (G_167 I 0 (a2) ((I 0 13)).toNatClampNeg) ((I 0 18) + a3) j106), ∀ (bb110 : sIn (0 : Int32) 1 = true), ∀ (c117 : (0 : Int32) ≤ a1 ∧ a1 ≤ ((j106 85 35) - (1 : Int32))), ∀ (c123 : (0 : Int32) ≤ a2 ∧ a2 ≤ ((j106 85 37) - (1 : Int32))), ∀ (c132 : (j106 92 ((a1).toNatClampNeg)) = 0), ∀ (c135 : ¬ (G_281 j106 (a1) 0 ((j106 85 35)).toNatClampNeg = true)), ∀ (v138 : Int32), ∀ (e139 : tkP j106 a2 v138), ∀ (c140 : v138 = (-1 : Int32)), False)
    (p8 : ∀ (c3 : ¬ a1 < 0), ∀ (c16 : a1 < (I 0 9)), ∀ (c18 : ¬ a2 < 0), ∀ (c37 : a2 < (I 0 13)), ∀ (c38 : (1 : Int32) ≤ a3 ∧ a3 ≤ (200 : Int32)), ∀ (bb41 : sIn a1 16 = true), ∀ (z42 : I (19 + (a1).toNatClampNeg) 2 = 0 ∨ I (19 + (a1).toNatClampNeg) 2 = 1), ∀ (c43 : (I (19 + (a1).toNatClampNeg) 2) = 0), ∀ (c68 : ¬ (G_168 I ((I (19 + (a1).toNatClampNeg) 3)) 0 ((I 0 9)).toNatClampNeg = true)), ∀ (c102 : (G_167 I 0 (a2) ((I 0 13)).toNatClampNeg) = (-1 : Int32)), ∀ (c168 : ¬ (G_281 I (a1) 0 ((I 85 35)).toNatClampNeg = true)), ∀ (v171 : Int32), ∀ (e172 : tkP I a2 v171), ∀ (c173 : ¬ v171 = (-1 : Int32)), ∀ (h174 : sH), ∀ (t175 : qH h174 (upI I 85 42 (0 : Int32)) L R), ∀ N lv, qLs lv [some (.ref (85)), some (.int (a1)), some (.int (a2)), some (.int (a3)), none, some (.int ((0 : Int32)))] → qW 280 N 94 lv [] h174 (fun r2 => opE (.inl (some (.int ((3 : Int32))))) r2.1 r2.2 RK)) : ∀ r2 : sR, qGo 280 [.ref (85), .int (a1), .int (a2), .int (a3)] r.2 r2 → opE r.1 r2.1 r2.2 RK := by
  refine qGo_w (Q := fun r => ∀ r2 : sR, qGo 280 [.ref (85), .int (a1), .int (a2), .int (a3)] r.2 r2 → opE r.1 r2.1 r2.2 RK) gW (fun N => ?_)
  have hl0 : qLs (lv_args 0 [.ref (0), .int (a1), .int (a2), .int (a3), .ref (117)]) [some (.ref (0)), some (.int (a1)), some (.int (a2)), some (.int (a3)), some (.ref (117)), none] := qLs_ar 1
  refine q_aload (show mE (mtv 165) 0 = some (.aload 4, 2, 0, 0) from rfl) (hl0 4 _ rfl) ?_
  refine q_iconst (show mE (mtv 165) 2 = some (.iconst 0, 1, 0, 0) from rfl) kI_0 ?_
  refine q_aload_n (show mE (mtv 165) 3 = some (.aload_n 0, 1, 0, 0) from rfl) (hl0 0 _ rfl) ?_
  refine q_iload_n (show mE (mtv 165) 4 = some (.iload_n 1, 1, 0, 0) from rfl) (hl0 1 _ rfl) ?_
  refine q_iload_n (show mE (mtv 165) 5 = some (.iload_n 2, 1, 0, 0) from rfl) (hl0 2 _ rfl) ?_
  refine q_iload_n (show mE (mtv 165) 6 = some (.iload_n 3, 1, 0, 0) from rfl) (hl0 3 _ rfl) ?_
  refine q_virtualIh (show mE (mtv 165) 7 = some (.invokevirtual 135, 3, 166, 8) from rfl) (by decide) rfl rfl rfl (fun _ => ?_)
  have hl1 : qLs (lv_args 0 [.ref (0), .int (a1), .int (a2), .int (a3)]) [some (.ref (0)), some (.int (a1)), some (.int (a2)), some (.int (a3)), none, none] := qLs_ar 2
  refine q_aload_n (show mE (mtv 166) 0 = some (.aload_n 0, 1, 0, 0) from rfl) (hl1 0 _ rfl) ?_
  refine q_iload_n (show mE (mtv 166) 1 = some (.iload_n 1, 1, 0, 0) from rfl) (hl1 1 _ rfl) ?_
  refine q_virtualI (show mE (mtv 166) 2 = some (.invokevirtual 158, 3, 61, 8) from rfl) (by decide) rfl rfl rfl (fun _ => ?_)
  have hl2 : qLs (lv_args 0 [.ref (0), .int (a1)]) [some (.ref (0)), some (.int (a1))] := qLs_ar 0
  refine q_iload_n (show mE (mtv 61) 0 = some (.iload_n 1, 1, 0, 0) from rfl) (hl2 1 _ rfl) ?_
  refine q_if_lt (t := 12) (show mE (mtv 61) 1 = some (.ifCond .lt 11, 3, 0, 0) from rfl) rfl (fun c3 => ?_) (fun c3 => ?_)
  · refine q_throw (show mE (mtv 61) 12 = some (.new 338, 3, 1002, 0) from rfl) (by decide) ?_
    refine qK_x ?_
    refine qKh_x (hp := 15) (c := (17, sDr 5 (lv_args 0 [.ref (0), .int (a1), .int (a2), .int (a3), .ref (117)]), [], h)) rfl (by decide) (fun _ _ => rfl) ?_
    refine q_iconst (show mE (mtv 165) 17 = some (.iconst 1, 1, 0, 0) from rfl) kI_1 ?_
    refine q_ireturn (show mE (mtv 165) 18 = some (.ireturn, 1, 0, 0) from rfl) ?_
    intro r4 g5
    have g5 : qGo 280 [.ref (85), .int (a1), .int (a2), .int (a3)] h r4 := g5
    refine qGo_w (Q := fun r2 => opE (.inl (some (.int ((1 : Int32))))) r2.1 r2.2 RK) g5 (fun _ => ?_)
    have hl6 : qLs (lv_args 0 [.ref (85), .int (a1), .int (a2), .int (a3)]) [some (.ref (85)), some (.int (a1)), some (.int (a2)), some (.int (a3)), none, none] := qLs_ar 2
    refine q_aload_n (show mE (mtv 280) 0 = some (.aload_n 0, 1, 0, 0) from rfl) (hl6 0 _ rfl) ?_
    refine q_iload_n (show mE (mtv 280) 1 = some (.iload_n 1, 1, 0, 0) from rfl) (hl6 1 _ rfl) ?_
    refine q_virtualI (show mE (mtv 280) 2 = some (.invokevirtual 175, 3, 220, 9) from rfl) (by decide) rfl rfl rfl (fun _ => ?_)
    have hl7 : qLs (lv_args 0 [.ref (85), .int (a1)]) [some (.ref (85)), some (.int (a1))] := qLs_ar 0
    refine q_iload_n (show mE (mtv 220) 0 = some (.iload_n 1, 1, 0, 0) from rfl) (hl7 1 _ rfl) ?_
    refine q_iconst (show mE (mtv 220) 1 = some (.iconst 0, 1, 0, 0) from rfl) kI_0 ?_
    refine q_aload_n (show mE (mtv 220) 2 = some (.aload_n 0, 1, 0, 0) from rfl) (hl7 0 _ rfl) ?_
    refine q_getI th (show mE (mtv 220) 3 = some (.getfield 117, 3, 9, 35) from rfl) (by decide) rfl ?_
    have r8 : I 85 35 = I 0 9 := hK.nk.symm
    rw [r8]; clear r8
    refine q_iconst (show mE (mtv 220) 6 = some (.iconst 1, 1, 0, 0) from rfl) kI_1 ?_
    refine q_isub (show mE (mtv 220) 7 = some (.isub, 1, 0, 0) from rfl) ?_
    refine q_staticP (show mE (mtv 220) 8 = some (.invokestatic 157, 3, 211, 0) from rfl) (by decide) rfl rfl rfl (fun _ g => sp_211 g) ?_
    refine q_ireturn (show mE (mtv 220) 11 = some (.ireturn, 1, 0, 0) from rfl) ?_
    refine qK_v ?_
    refine q_ifb_eq (t := 20) (show mE (mtv 280) 5 = some (.ifCond .eq 15, 3, 0, 0) from rfl) rfl (fun c9 => ?_) (fun c9 => ?_)
    · clear c9
      refine q_iconst (show mE (mtv 280) 20 = some (.iconst 0, 1, 0, 0) from rfl) kI_0 ?_
      refine q_istore (show mE (mtv 280) 21 = some (.istore 4, 2, 0, 0) from rfl) (Nat.le_of_ble_eq_true rfl) hl6 (fun lv12 (hl13 : qLs lv12 [some (.ref (85)), some (.int (a1)), some (.int (a2)), some (.int (a3)), some (.int ((0 : Int32))), none]) => ?_)
      refine q_aload_n (show mE (mtv 280) 23 = some (.aload_n 0, 1, 0, 0) from rfl) (hl13 0 _ rfl) ?_
      refine q_iload (show mE (mtv 280) 24 = some (.iload 4, 2, 0, 0) from rfl) (hl13 4 _ rfl) ?_
      refine q_iff (t := 33) (show mE (mtv 280) 26 = some (.ifCond .ne 7, 3, 0, 0) from rfl) (by decide) rfl ?_
      refine q_iconst (show mE (mtv 280) 29 = some (.iconst 1, 1, 0, 0) from rfl) kI_1 ?_
      refine q_goto (t := 79) (show mE (mtv 280) 30 = some (.goto 49, 3, 0, 0) from rfl) rfl ?_
      refine q_putI th (show mE (mtv 280) 79 = some (.putfield 138, 3, 9, 42) from rfl) (by decide) rfl (fun h14 t15 => ?_)
      refine q_aload_n (show mE (mtv 280) 82 = some (.aload_n 0, 1, 0, 0) from rfl) (hl13 0 _ rfl) ?_
      refine q_getIe t15 (show mE (mtv 280) 83 = some (.getfield 138, 3, 9, 42) from rfl) (by decide) rfl (upI_s) ?_
      refine q_iff (t := 91) (show mE (mtv 280) 86 = some (.ifCond .le 5, 3, 0, 0) from rfl) (by decide) rfl ?_
      refine q_iconst (show mE (mtv 280) 89 = some (.iconst 0, 1, 0, 0) from rfl) kI_0 ?_
      refine q_ireturn (show mE (mtv 280) 90 = some (.ireturn, 1, 0, 0) from rfl) ?_
      exact ⟨(1 : Int32), (0 : Int32), _, _, _, rfl, rfl, t15, upI_s, (fun e => absurd e (by decide)), (RK_t (1 : Int32) hK)⟩
    · exfalso
      have s10 := hK.bk
      unfold inR at s10
      have s11 := i32_sub1 (x := I 0 9) (by omega)
      simp only [s11, Int32.lt_iff_toInt_lt, Int32.le_iff_toInt_le, ← Int32.toInt_inj, kt_0, kt_1] at c3 c9
      first | omega | contradiction
  · refine q_iload_n (show mE (mtv 61) 4 = some (.iload_n 1, 1, 0, 0) from rfl) (hl2 1 _ rfl) ?_
    refine q_aload_n (show mE (mtv 61) 5 = some (.aload_n 0, 1, 0, 0) from rfl) (hl2 0 _ rfl) ?_
    refine q_getI th (show mE (mtv 61) 6 = some (.getfield 88, 3, 8, 9) from rfl) (by decide) rfl ?_
    refine q_ic_lt (t := 23) (show mE (mtv 61) 9 = some (.if_icmp .lt 14, 3, 0, 0) from rfl) rfl (fun c16 => ?_) (fun c16 => ?_)
    · refine q_return_ (show mE (mtv 61) 23 = some (.return_, 1, 0, 0) from rfl) ?_
      refine qK_n ?_
      refine q_aload_n (show mE (mtv 166) 5 = some (.aload_n 0, 1, 0, 0) from rfl) (hl1 0 _ rfl) ?_
      refine q_iload_n (show mE (mtv 166) 6 = some (.iload_n 2, 1, 0, 0) from rfl) (hl1 2 _ rfl) ?_
      refine q_virtualI (show mE (mtv 166) 7 = some (.invokevirtual 387, 3, 158, 8) from rfl) (by decide) rfl rfl rfl (fun _ => ?_)
      have hl17 : qLs (lv_args 0 [.ref (0), .int (a2)]) [some (.ref (0)), some (.int (a2))] := qLs_ar 0
      refine q_iload_n (show mE (mtv 158) 0 = some (.iload_n 1, 1, 0, 0) from rfl) (hl17 1 _ rfl) ?_
      refine q_if_lt (t := 12) (show mE (mtv 158) 1 = some (.ifCond .lt 11, 3, 0, 0) from rfl) rfl (fun c18 => ?_) (fun c18 => ?_)
      · refine q_throw (show mE (mtv 158) 12 = some (.new 338, 3, 1002, 0) from rfl) (by decide) ?_
        refine qK_x ?_
        refine qKh_x (hp := 15) (c := (17, sDr 5 (lv_args 0 [.ref (0), .int (a1), .int (a2), .int (a3), .ref (117)]), [], h)) rfl (by decide) (fun _ _ => rfl) ?_
        refine q_iconst (show mE (mtv 165) 17 = some (.iconst 1, 1, 0, 0) from rfl) kI_1 ?_
        refine q_ireturn (show mE (mtv 165) 18 = some (.ireturn, 1, 0, 0) from rfl) ?_
        intro r19 g20
        have g20 : qGo 280 [.ref (85), .int (a1), .int (a2), .int (a3)] h r19 := g20
        refine qGo_w (Q := fun r2 => opE (.inl (some (.int ((1 : Int32))))) r2.1 r2.2 RK) g20 (fun _ => ?_)
        have hl21 : qLs (lv_args 0 [.ref (85), .int (a1), .int (a2), .int (a3)]) [some (.ref (85)), some (.int (a1)), some (.int (a2)), some (.int (a3)), none, none] := qLs_ar 2
        refine q_aload_n (show mE (mtv 280) 0 = some (.aload_n 0, 1, 0, 0) from rfl) (hl21 0 _ rfl) ?_
        refine q_iload_n (show mE (mtv 280) 1 = some (.iload_n 1, 1, 0, 0) from rfl) (hl21 1 _ rfl) ?_
        refine q_virtualI (show mE (mtv 280) 2 = some (.invokevirtual 175, 3, 220, 9) from rfl) (by decide) rfl rfl rfl (fun _ => ?_)
        have hl22 : qLs (lv_args 0 [.ref (85), .int (a1)]) [some (.ref (85)), some (.int (a1))] := qLs_ar 0
        refine q_iload_n (show mE (mtv 220) 0 = some (.iload_n 1, 1, 0, 0) from rfl) (hl22 1 _ rfl) ?_
        refine q_iconst (show mE (mtv 220) 1 = some (.iconst 0, 1, 0, 0) from rfl) kI_0 ?_
        refine q_aload_n (show mE (mtv 220) 2 = some (.aload_n 0, 1, 0, 0) from rfl) (hl22 0 _ rfl) ?_
        refine q_getI th (show mE (mtv 220) 3 = some (.getfield 117, 3, 9, 35) from rfl) (by decide) rfl ?_
        have r23 : I 85 35 = I 0 9 := hK.nk.symm
        rw [r23]; clear r23
        refine q_iconst (show mE (mtv 220) 6 = some (.iconst 1, 1, 0, 0) from rfl) kI_1 ?_
        refine q_isub (show mE (mtv 220) 7 = some (.isub, 1, 0, 0) from rfl) ?_
        refine q_staticP (show mE (mtv 220) 8 = some (.invokestatic 157, 3, 211, 0) from rfl) (by decide) rfl rfl rfl (fun _ g => sp_211 g) ?_
        refine q_ireturn (show mE (mtv 220) 11 = some (.ireturn, 1, 0, 0) from rfl) ?_
        refine qK_v ?_
        refine q_ifb_eq (t := 20) (show mE (mtv 280) 5 = some (.ifCond .eq 15, 3, 0, 0) from rfl) rfl (fun c24 => ?_) (fun c24 => ?_)
        · exfalso
          have s25 := hK.bk
          unfold inR at s25
          have s26 := i32_sub1 (x := I 0 9) (by omega)
          simp only [s26, Int32.lt_iff_toInt_lt, Int32.le_iff_toInt_le, ← Int32.toInt_inj, kt_0, kt_1] at c3 c16 c18 c24
          first | omega | contradiction
        · clear c24
          refine q_aload_n (show mE (mtv 280) 8 = some (.aload_n 0, 1, 0, 0) from rfl) (hl21 0 _ rfl) ?_
          refine q_iload_n (show mE (mtv 280) 9 = some (.iload_n 2, 1, 0, 0) from rfl) (hl21 2 _ rfl) ?_
          refine q_virtualI (show mE (mtv 280) 10 = some (.invokevirtual 250, 3, 276, 9) from rfl) (by decide) rfl rfl rfl (fun _ => ?_)
          have hl27 : qLs (lv_args 0 [.ref (85), .int (a2)]) [some (.ref (85)), some (.int (a2))] := qLs_ar 0
          refine q_iload_n (show mE (mtv 276) 0 = some (.iload_n 1, 1, 0, 0) from rfl) (hl27 1 _ rfl) ?_
          refine q_iconst (show mE (mtv 276) 1 = some (.iconst 0, 1, 0, 0) from rfl) kI_0 ?_
          refine q_aload_n (show mE (mtv 276) 2 = some (.aload_n 0, 1, 0, 0) from rfl) (hl27 0 _ rfl) ?_
          refine q_getI th (show mE (mtv 276) 3 = some (.getfield 123, 3, 9, 37) from rfl) (by decide) rfl ?_
          have r28 : I 85 37 = I 0 13 := hG.1.1
          rw [r28]; clear r28
          refine q_iconst (show mE (mtv 276) 6 = some (.iconst 1, 1, 0, 0) from rfl) kI_1 ?_
          refine q_isub (show mE (mtv 276) 7 = some (.isub, 1, 0, 0) from rfl) ?_
          refine q_staticP (show mE (mtv 276) 8 = some (.invokestatic 157, 3, 211, 0) from rfl) (by decide) rfl rfl rfl (fun _ g => sp_211 g) ?_
          refine q_ireturn (show mE (mtv 276) 11 = some (.ireturn, 1, 0, 0) from rfl) ?_
          refine qK_v ?_
          refine q_ifb_eq (t := 20) (show mE (mtv 280) 13 = some (.ifCond .eq 7, 3, 0, 0) from rfl) rfl (fun c29 => ?_) (fun c29 => ?_)
          · clear c29
            refine q_iconst (show mE (mtv 280) 20 = some (.iconst 0, 1, 0, 0) from rfl) kI_0 ?_
            refine q_istore (show mE (mtv 280) 21 = some (.istore 4, 2, 0, 0) from rfl) (Nat.le_of_ble_eq_true rfl) hl21 (fun lv33 (hl34 : qLs lv33 [some (.ref (85)), some (.int (a1)), some (.int (a2)), some (.int (a3)), some (.int ((0 : Int32))), none]) => ?_)
            refine q_aload_n (show mE (mtv 280) 23 = some (.aload_n 0, 1, 0, 0) from rfl) (hl34 0 _ rfl) ?_
            refine q_iload (show mE (mtv 280) 24 = some (.iload 4, 2, 0, 0) from rfl) (hl34 4 _ rfl) ?_
            refine q_iff (t := 33) (show mE (mtv 280) 26 = some (.ifCond .ne 7, 3, 0, 0) from rfl) (by decide) rfl ?_
            refine q_iconst (show mE (mtv 280) 29 = some (.iconst 1, 1, 0, 0) from rfl) kI_1 ?_
            refine q_goto (t := 79) (show mE (mtv 280) 30 = some (.goto 49, 3, 0, 0) from rfl) rfl ?_
            refine q_putI th (show mE (mtv 280) 79 = some (.putfield 138, 3, 9, 42) from rfl) (by decide) rfl (fun h35 t36 => ?_)
            refine q_aload_n (show mE (mtv 280) 82 = some (.aload_n 0, 1, 0, 0) from rfl) (hl34 0 _ rfl) ?_
            refine q_getIe t36 (show mE (mtv 280) 83 = some (.getfield 138, 3, 9, 42) from rfl) (by decide) rfl (upI_s) ?_
            refine q_iff (t := 91) (show mE (mtv 280) 86 = some (.ifCond .le 5, 3, 0, 0) from rfl) (by decide) rfl ?_
            refine q_iconst (show mE (mtv 280) 89 = some (.iconst 0, 1, 0, 0) from rfl) kI_0 ?_
            refine q_ireturn (show mE (mtv 280) 90 = some (.ireturn, 1, 0, 0) from rfl) ?_
            exact ⟨(1 : Int32), (0 : Int32), _, _, _, rfl, rfl, t36, upI_s, (fun e => absurd e (by decide)), (RK_t (1 : Int32) hK)⟩
          · exfalso
            have s30 := hK.bk
            unfold inR at s30
            have s31 := hB
            unfold inR at s31
            have s32 := i32_sub1 (x := I 0 13) (by omega)
            simp only [s32, Int32.lt_iff_toInt_lt, Int32.le_iff_toInt_le, ← Int32.toInt_inj, kt_0, kt_1] at c3 c16 c18 c29
            first | omega | contradiction
      · refine q_iload_n (show mE (mtv 158) 4 = some (.iload_n 1, 1, 0, 0) from rfl) (hl17 1 _ rfl) ?_
        refine q_aload_n (show mE (mtv 158) 5 = some (.aload_n 0, 1, 0, 0) from rfl) (hl17 0 _ rfl) ?_
        refine q_getI th (show mE (mtv 158) 6 = some (.getfield 396, 3, 8, 13) from rfl) (by decide) rfl ?_
        refine q_ic_lt (t := 23) (show mE (mtv 158) 9 = some (.if_icmp .lt 14, 3, 0, 0) from rfl) rfl (fun c37 => ?_) (fun c37 => ?_)
        · refine q_return_ (show mE (mtv 158) 23 = some (.return_, 1, 0, 0) from rfl) ?_
          refine qK_n ?_
          refine q_iload_n (show mE (mtv 166) 10 = some (.iload_n 3, 1, 0, 0) from rfl) (hl1 3 _ rfl) ?_
          refine q_iconst (show mE (mtv 166) 11 = some (.iconst 1, 1, 0, 0) from rfl) kI_1 ?_
          refine q_sipush (show mE (mtv 166) 12 = some (.sipush 200, 3, 0, 0) from rfl) kS_200 ?_
          refine q_staticP (show mE (mtv 166) 15 = some (.invokestatic 77, 3, 47, 0) from rfl) (by decide) rfl rfl rfl (fun _ g => sp_47 g) ?_
          refine q_ifb_ne (t := 32) (show mE (mtv 166) 18 = some (.ifCond .ne 14, 3, 0, 0) from rfl) rfl (fun c38 => ?_) (fun c38 => ?_)
          · refine q_aload_n (show mE (mtv 166) 32 = some (.aload_n 0, 1, 0, 0) from rfl) (hl1 0 _ rfl) ?_
            refine q_iload_n (show mE (mtv 166) 33 = some (.iload_n 2, 1, 0, 0) from rfl) (hl1 2 _ rfl) ?_
            refine q_virtualP (show mE (mtv 166) 34 = some (.invokevirtual 403, 3, 167, 8) from rfl) (by decide) rfl rfl rfl (fun _ g => sp_167 th g) ?_
            refine q_istore (show mE (mtv 166) 37 = some (.istore 4, 2, 0, 0) from rfl) (Nat.le_of_ble_eq_true rfl) hl1 (fun lv39 (hl40 : qLs lv39 [some (.ref (0)), some (.int (a1)), some (.int (a2)), some (.int (a3)), some (.int (G_167 I 0 (a2) ((I 0 13)).toNatClampNeg)), none]) => ?_)
            refine q_aload_n (show mE (mtv 166) 39 = some (.aload_n 0, 1, 0, 0) from rfl) (hl40 0 _ rfl) ?_
            refine q_getR (m := 12) th (show mE (mtv 166) 40 = some (.getfield 25, 3, 8, 2) from rfl) (by decide) rfl rfl ?_
            refine q_iload_n (show mE (mtv 166) 43 = some (.iload_n 1, 1, 0, 0) from rfl) (hl40 1 _ rfl) ?_
            refine q_aaload (n := 16) (t := 4) (m := 19) th (show mE (mtv 166) 44 = some (.aaload, 1, 0, 0) from rfl) (by decide) rfl (fun _ _ => rfl) (fun bb41 => ?_)
            refine q_getB th (show mE (mtv 166) 45 = some (.getfield 238, 3, 3, 2) from rfl) (qB bb41 (by decide)) rfl (fun z42 => ?_)
            refine q_if_ne (t := 73) (show mE (mtv 166) 48 = some (.ifCond .ne 25, 3, 0, 0) from rfl) rfl (fun c43 => ?_) (fun c43 => ?_)
            · refine q_throw (show mE (mtv 166) 73 = some (.new 94, 3, 1003, 0) from rfl) (by decide) ?_
              refine qKh_x (hp := 23) (c := (25, sDr 5 (lv_args 0 [.ref (0), .int (a1), .int (a2), .int (a3), .ref (117)]), [], h)) rfl (by decide) (fun _ _ => rfl) ?_
              refine q_iconst (show mE (mtv 165) 25 = some (.iconst 3, 1, 0, 0) from rfl) kI_3 ?_
              refine q_ireturn (show mE (mtv 165) 26 = some (.ireturn, 1, 0, 0) from rfl) ?_
              intro r44 g45
              have g45 : qGo 280 [.ref (85), .int (a1), .int (a2), .int (a3)] h r44 := g45
              refine qGo_w (Q := fun r2 => opE (.inl (some (.int ((3 : Int32))))) r2.1 r2.2 RK) g45 (fun _ => ?_)
              have hl46 : qLs (lv_args 0 [.ref (85), .int (a1), .int (a2), .int (a3)]) [some (.ref (85)), some (.int (a1)), some (.int (a2)), some (.int (a3)), none, none] := qLs_ar 2
              refine q_aload_n (show mE (mtv 280) 0 = some (.aload_n 0, 1, 0, 0) from rfl) (hl46 0 _ rfl) ?_
              refine q_iload_n (show mE (mtv 280) 1 = some (.iload_n 1, 1, 0, 0) from rfl) (hl46 1 _ rfl) ?_
              refine q_virtualI (show mE (mtv 280) 2 = some (.invokevirtual 175, 3, 220, 9) from rfl) (by decide) rfl rfl rfl (fun _ => ?_)
              have hl47 : qLs (lv_args 0 [.ref (85), .int (a1)]) [some (.ref (85)), some (.int (a1))] := qLs_ar 0
              refine q_iload_n (show mE (mtv 220) 0 = some (.iload_n 1, 1, 0, 0) from rfl) (hl47 1 _ rfl) ?_
              refine q_iconst (show mE (mtv 220) 1 = some (.iconst 0, 1, 0, 0) from rfl) kI_0 ?_
              refine q_aload_n (show mE (mtv 220) 2 = some (.aload_n 0, 1, 0, 0) from rfl) (hl47 0 _ rfl) ?_
              refine q_getI th (show mE (mtv 220) 3 = some (.getfield 117, 3, 9, 35) from rfl) (by decide) rfl ?_
              have r48 : I 85 35 = I 0 9 := hK.nk.symm
              rw [r48]; clear r48
              refine q_iconst (show mE (mtv 220) 6 = some (.iconst 1, 1, 0, 0) from rfl) kI_1 ?_
              refine q_isub (show mE (mtv 220) 7 = some (.isub, 1, 0, 0) from rfl) ?_
              refine q_staticP (show mE (mtv 220) 8 = some (.invokestatic 157, 3, 211, 0) from rfl) (by decide) rfl rfl rfl (fun _ g => sp_211 g) ?_
              refine q_ireturn (show mE (mtv 220) 11 = some (.ireturn, 1, 0, 0) from rfl) ?_
              refine qK_v ?_
              refine q_ifb_eq (t := 20) (show mE (mtv 280) 5 = some (.ifCond .eq 15, 3, 0, 0) from rfl) rfl (fun c49 => ?_) (fun c49 => ?_)
              · exfalso
                have s50 := hK.bk
                unfold inR at s50
                have s51 := i32_sub1 (x := I 0 9) (by omega)
                have s52 := hB
                unfold inR at s52
                simp only [s51, Int32.lt_iff_toInt_lt, Int32.le_iff_toInt_le, ← Int32.toInt_inj, kt_0, kt_1, kt_200] at c3 c16 c18 c37 c38 c43 c49
                first | omega | contradiction
              · clear c49
                refine q_aload_n (show mE (mtv 280) 8 = some (.aload_n 0, 1, 0, 0) from rfl) (hl46 0 _ rfl) ?_
                refine q_iload_n (show mE (mtv 280) 9 = some (.iload_n 2, 1, 0, 0) from rfl) (hl46 2 _ rfl) ?_
                refine q_virtualI (show mE (mtv 280) 10 = some (.invokevirtual 250, 3, 276, 9) from rfl) (by decide) rfl rfl rfl (fun _ => ?_)
                have hl53 : qLs (lv_args 0 [.ref (85), .int (a2)]) [some (.ref (85)), some (.int (a2))] := qLs_ar 0
                refine q_iload_n (show mE (mtv 276) 0 = some (.iload_n 1, 1, 0, 0) from rfl) (hl53 1 _ rfl) ?_
                refine q_iconst (show mE (mtv 276) 1 = some (.iconst 0, 1, 0, 0) from rfl) kI_0 ?_
                refine q_aload_n (show mE (mtv 276) 2 = some (.aload_n 0, 1, 0, 0) from rfl) (hl53 0 _ rfl) ?_
                refine q_getI th (show mE (mtv 276) 3 = some (.getfield 123, 3, 9, 37) from rfl) (by decide) rfl ?_
                have r54 : I 85 37 = I 0 13 := hG.1.1
                rw [r54]; clear r54
                refine q_iconst (show mE (mtv 276) 6 = some (.iconst 1, 1, 0, 0) from rfl) kI_1 ?_
                refine q_isub (show mE (mtv 276) 7 = some (.isub, 1, 0, 0) from rfl) ?_
                refine q_staticP (show mE (mtv 276) 8 = some (.invokestatic 157, 3, 211, 0) from rfl) (by decide) rfl rfl rfl (fun _ g => sp_211 g) ?_
                refine q_ireturn (show mE (mtv 276) 11 = some (.ireturn, 1, 0, 0) from rfl) ?_
                refine qK_v ?_
                refine q_ifb_eq (t := 20) (show mE (mtv 280) 13 = some (.ifCond .eq 7, 3, 0, 0) from rfl) rfl (fun c55 => ?_) (fun c55 => ?_)
                · exfalso
                  have s56 := hK.bk
                  unfold inR at s56
                  have s57 := hB
                  unfold inR at s57
                  have s58 := i32_sub1 (x := I 0 13) (by omega)
                  simp only [s58, Int32.lt_iff_toInt_lt, Int32.le_iff_toInt_le, ← Int32.toInt_inj, kt_0, kt_1, kt_200] at c3 c16 c18 c37 c38 c43 c55
                  first | omega | contradiction
                · clear c55
                  refine q_iconst (show mE (mtv 280) 16 = some (.iconst 1, 1, 0, 0) from rfl) kI_1 ?_
                  refine q_goto (t := 21) (show mE (mtv 280) 17 = some (.goto 4, 3, 0, 0) from rfl) rfl ?_
                  refine q_istore (show mE (mtv 280) 21 = some (.istore 4, 2, 0, 0) from rfl) (Nat.le_of_ble_eq_true rfl) hl46 (fun lv59 (hl60 : qLs lv59 [some (.ref (85)), some (.int (a1)), some (.int (a2)), some (.int (a3)), some (.int ((1 : Int32))), none]) => ?_)
                  refine q_aload_n (show mE (mtv 280) 23 = some (.aload_n 0, 1, 0, 0) from rfl) (hl60 0 _ rfl) ?_
                  refine q_iload (show mE (mtv 280) 24 = some (.iload 4, 2, 0, 0) from rfl) (hl60 4 _ rfl) ?_
                  refine q_ift (t := 33) (show mE (mtv 280) 26 = some (.ifCond .ne 7, 3, 0, 0) from rfl) (by decide) rfl ?_
                  refine q_iload_n (show mE (mtv 280) 33 = some (.iload_n 3, 1, 0, 0) from rfl) (hl60 3 _ rfl) ?_
                  refine q_iconst (show mE (mtv 280) 34 = some (.iconst 1, 1, 0, 0) from rfl) kI_1 ?_
                  refine q_sipush (show mE (mtv 280) 35 = some (.sipush 200, 3, 0, 0) from rfl) kS_200 ?_
                  refine q_staticP (show mE (mtv 280) 38 = some (.invokestatic 157, 3, 211, 0) from rfl) (by decide) rfl rfl rfl (fun _ g => sp_211 g) ?_
                  refine q_ifb_ne (t := 48) (show mE (mtv 280) 41 = some (.ifCond .ne 7, 3, 0, 0) from rfl) rfl (fun c61 => ?_) (fun c61 => ?_)
                  · clear c61
                    refine q_aload_n (show mE (mtv 280) 48 = some (.aload_n 0, 1, 0, 0) from rfl) (hl60 0 _ rfl) ?_
                    refine q_getR (m := 92) th (show mE (mtv 280) 49 = some (.getfield 28, 3, 9, 6) from rfl) (by decide) rfl rfl ?_
                    refine q_iload_n (show mE (mtv 280) 52 = some (.iload_n 1, 1, 0, 0) from rfl) (hl60 1 _ rfl) ?_
                    refine q_baload (n := 16) th (show mE (mtv 280) 53 = some (.baload, 1, 0, 0) from rfl) (by decide) rfl (fun bb62 => ?_)
                    have r63 : I 92 ((a1).toNatClampNeg) = I (19 + (a1).toNatClampNeg) 2 := hK.kl _ (sIn_lt bb62)
                    rw [r63]; clear r63
                    refine q_if_ne (t := 74) (show mE (mtv 280) 54 = some (.ifCond .ne 20, 3, 0, 0) from rfl) rfl (fun c64 => ?_) (fun c64 => ?_)
                    · clear c64
                      refine q_iconst (show mE (mtv 280) 74 = some (.iconst 3, 1, 0, 0) from rfl) kI_3 ?_
                      refine q_goto (t := 79) (show mE (mtv 280) 75 = some (.goto 4, 3, 0, 0) from rfl) rfl ?_
                      refine q_putI th (show mE (mtv 280) 79 = some (.putfield 138, 3, 9, 42) from rfl) (by decide) rfl (fun h65 t66 => ?_)
                      refine q_aload_n (show mE (mtv 280) 82 = some (.aload_n 0, 1, 0, 0) from rfl) (hl60 0 _ rfl) ?_
                      refine q_getIe t66 (show mE (mtv 280) 83 = some (.getfield 138, 3, 9, 42) from rfl) (by decide) rfl (upI_s) ?_
                      refine q_iff (t := 91) (show mE (mtv 280) 86 = some (.ifCond .le 5, 3, 0, 0) from rfl) (by decide) rfl ?_
                      refine q_iconst (show mE (mtv 280) 89 = some (.iconst 0, 1, 0, 0) from rfl) kI_0 ?_
                      refine q_ireturn (show mE (mtv 280) 90 = some (.ireturn, 1, 0, 0) from rfl) ?_
                      exact ⟨(3 : Int32), (0 : Int32), _, _, _, rfl, rfl, t66, upI_s, (fun e => absurd e (by decide)), (RK_t (3 : Int32) hK)⟩
                    · exact absurd c64 c43
                  · exact absurd c38 c61
            · refine q_aload_n (show mE (mtv 166) 51 = some (.aload_n 0, 1, 0, 0) from rfl) (hl40 0 _ rfl) ?_
              refine q_aload_n (show mE (mtv 166) 52 = some (.aload_n 0, 1, 0, 0) from rfl) (hl40 0 _ rfl) ?_
              refine q_getR (m := 12) th (show mE (mtv 166) 53 = some (.getfield 25, 3, 8, 2) from rfl) (by decide) rfl rfl ?_
              refine q_iload_n (show mE (mtv 166) 56 = some (.iload_n 1, 1, 0, 0) from rfl) (hl40 1 _ rfl) ?_
              refine q_aaload (n := 16) (t := 4) (m := 19) th (show mE (mtv 166) 57 = some (.aaload, 1, 0, 0) from rfl) (by decide) rfl (fun _ _ => rfl) (fun bb67 => ?_)
              refine q_getI th (show mE (mtv 166) 58 = some (.getfield 372, 3, 3, 3) from rfl) (qB bb67 (by decide)) rfl ?_
              refine q_virtualP (show mE (mtv 166) 61 = some (.invokevirtual 406, 3, 168, 8) from rfl) (by decide) rfl rfl rfl (fun _ g => sp_168 th g) ?_
              refine q_ifb_ne (t := 73) (show mE (mtv 166) 64 = some (.ifCond .ne 9, 3, 0, 0) from rfl) rfl (fun c68 => ?_) (fun c68 => ?_)
              · refine q_throw (show mE (mtv 166) 73 = some (.new 94, 3, 1003, 0) from rfl) (by decide) ?_
                refine qKh_x (hp := 23) (c := (25, sDr 5 (lv_args 0 [.ref (0), .int (a1), .int (a2), .int (a3), .ref (117)]), [], h)) rfl (by decide) (fun _ _ => rfl) ?_
                refine q_iconst (show mE (mtv 165) 25 = some (.iconst 3, 1, 0, 0) from rfl) kI_3 ?_
                refine q_ireturn (show mE (mtv 165) 26 = some (.ireturn, 1, 0, 0) from rfl) ?_
                intro r69 g70
                have g70 : qGo 280 [.ref (85), .int (a1), .int (a2), .int (a3)] h r69 := g70
                refine qGo_w (Q := fun r2 => opE (.inl (some (.int ((3 : Int32))))) r2.1 r2.2 RK) g70 (fun _ => ?_)
                have hl71 : qLs (lv_args 0 [.ref (85), .int (a1), .int (a2), .int (a3)]) [some (.ref (85)), some (.int (a1)), some (.int (a2)), some (.int (a3)), none, none] := qLs_ar 2
                refine q_aload_n (show mE (mtv 280) 0 = some (.aload_n 0, 1, 0, 0) from rfl) (hl71 0 _ rfl) ?_
                refine q_iload_n (show mE (mtv 280) 1 = some (.iload_n 1, 1, 0, 0) from rfl) (hl71 1 _ rfl) ?_
                refine q_virtualI (show mE (mtv 280) 2 = some (.invokevirtual 175, 3, 220, 9) from rfl) (by decide) rfl rfl rfl (fun _ => ?_)
                have hl72 : qLs (lv_args 0 [.ref (85), .int (a1)]) [some (.ref (85)), some (.int (a1))] := qLs_ar 0
                refine q_iload_n (show mE (mtv 220) 0 = some (.iload_n 1, 1, 0, 0) from rfl) (hl72 1 _ rfl) ?_
                refine q_iconst (show mE (mtv 220) 1 = some (.iconst 0, 1, 0, 0) from rfl) kI_0 ?_
                refine q_aload_n (show mE (mtv 220) 2 = some (.aload_n 0, 1, 0, 0) from rfl) (hl72 0 _ rfl) ?_
                refine q_getI th (show mE (mtv 220) 3 = some (.getfield 117, 3, 9, 35) from rfl) (by decide) rfl ?_
                have r73 : I 85 35 = I 0 9 := hK.nk.symm
                rw [r73]; clear r73
                refine q_iconst (show mE (mtv 220) 6 = some (.iconst 1, 1, 0, 0) from rfl) kI_1 ?_
                refine q_isub (show mE (mtv 220) 7 = some (.isub, 1, 0, 0) from rfl) ?_
                refine q_staticP (show mE (mtv 220) 8 = some (.invokestatic 157, 3, 211, 0) from rfl) (by decide) rfl rfl rfl (fun _ g => sp_211 g) ?_
                refine q_ireturn (show mE (mtv 220) 11 = some (.ireturn, 1, 0, 0) from rfl) ?_
                refine qK_v ?_
                refine q_ifb_eq (t := 20) (show mE (mtv 280) 5 = some (.ifCond .eq 15, 3, 0, 0) from rfl) rfl (fun c74 => ?_) (fun c74 => ?_)
                · exfalso
                  have s75 := hK.bk
                  unfold inR at s75
                  have s76 := i32_sub1 (x := I 0 9) (by omega)
                  have s77 := hB
                  unfold inR at s77
                  simp only [s76, Int32.lt_iff_toInt_lt, Int32.le_iff_toInt_le, ← Int32.toInt_inj, kt_0, kt_1, kt_200] at c3 c16 c18 c37 c38 c43 c74
                  first | omega | contradiction
                · clear c74
                  refine q_aload_n (show mE (mtv 280) 8 = some (.aload_n 0, 1, 0, 0) from rfl) (hl71 0 _ rfl) ?_
                  refine q_iload_n (show mE (mtv 280) 9 = some (.iload_n 2, 1, 0, 0) from rfl) (hl71 2 _ rfl) ?_
                  refine q_virtualI (show mE (mtv 280) 10 = some (.invokevirtual 250, 3, 276, 9) from rfl) (by decide) rfl rfl rfl (fun _ => ?_)
                  have hl78 : qLs (lv_args 0 [.ref (85), .int (a2)]) [some (.ref (85)), some (.int (a2))] := qLs_ar 0
                  refine q_iload_n (show mE (mtv 276) 0 = some (.iload_n 1, 1, 0, 0) from rfl) (hl78 1 _ rfl) ?_
                  refine q_iconst (show mE (mtv 276) 1 = some (.iconst 0, 1, 0, 0) from rfl) kI_0 ?_
                  refine q_aload_n (show mE (mtv 276) 2 = some (.aload_n 0, 1, 0, 0) from rfl) (hl78 0 _ rfl) ?_
                  refine q_getI th (show mE (mtv 276) 3 = some (.getfield 123, 3, 9, 37) from rfl) (by decide) rfl ?_
                  have r79 : I 85 37 = I 0 13 := hG.1.1
                  rw [r79]; clear r79
                  refine q_iconst (show mE (mtv 276) 6 = some (.iconst 1, 1, 0, 0) from rfl) kI_1 ?_
                  refine q_isub (show mE (mtv 276) 7 = some (.isub, 1, 0, 0) from rfl) ?_
                  refine q_staticP (show mE (mtv 276) 8 = some (.invokestatic 157, 3, 211, 0) from rfl) (by decide) rfl rfl rfl (fun _ g => sp_211 g) ?_
                  refine q_ireturn (show mE (mtv 276) 11 = some (.ireturn, 1, 0, 0) from rfl) ?_
                  refine qK_v ?_
                  refine q_ifb_eq (t := 20) (show mE (mtv 280) 13 = some (.ifCond .eq 7, 3, 0, 0) from rfl) rfl (fun c80 => ?_) (fun c80 => ?_)
                  · exfalso
                    have s81 := hK.bk
                    unfold inR at s81
                    have s82 := hB
                    unfold inR at s82
                    have s83 := i32_sub1 (x := I 0 13) (by omega)
                    simp only [s83, Int32.lt_iff_toInt_lt, Int32.le_iff_toInt_le, ← Int32.toInt_inj, kt_0, kt_1, kt_200] at c3 c16 c18 c37 c38 c43 c80
                    first | omega | contradiction
                  · clear c80
                    refine q_iconst (show mE (mtv 280) 16 = some (.iconst 1, 1, 0, 0) from rfl) kI_1 ?_
                    refine q_goto (t := 21) (show mE (mtv 280) 17 = some (.goto 4, 3, 0, 0) from rfl) rfl ?_
                    refine q_istore (show mE (mtv 280) 21 = some (.istore 4, 2, 0, 0) from rfl) (Nat.le_of_ble_eq_true rfl) hl71 (fun lv84 (hl85 : qLs lv84 [some (.ref (85)), some (.int (a1)), some (.int (a2)), some (.int (a3)), some (.int ((1 : Int32))), none]) => ?_)
                    refine q_aload_n (show mE (mtv 280) 23 = some (.aload_n 0, 1, 0, 0) from rfl) (hl85 0 _ rfl) ?_
                    refine q_iload (show mE (mtv 280) 24 = some (.iload 4, 2, 0, 0) from rfl) (hl85 4 _ rfl) ?_
                    refine q_ift (t := 33) (show mE (mtv 280) 26 = some (.ifCond .ne 7, 3, 0, 0) from rfl) (by decide) rfl ?_
                    refine q_iload_n (show mE (mtv 280) 33 = some (.iload_n 3, 1, 0, 0) from rfl) (hl85 3 _ rfl) ?_
                    refine q_iconst (show mE (mtv 280) 34 = some (.iconst 1, 1, 0, 0) from rfl) kI_1 ?_
                    refine q_sipush (show mE (mtv 280) 35 = some (.sipush 200, 3, 0, 0) from rfl) kS_200 ?_
                    refine q_staticP (show mE (mtv 280) 38 = some (.invokestatic 157, 3, 211, 0) from rfl) (by decide) rfl rfl rfl (fun _ g => sp_211 g) ?_
                    refine q_ifb_ne (t := 48) (show mE (mtv 280) 41 = some (.ifCond .ne 7, 3, 0, 0) from rfl) rfl (fun c86 => ?_) (fun c86 => ?_)
                    · clear c86
                      refine q_aload_n (show mE (mtv 280) 48 = some (.aload_n 0, 1, 0, 0) from rfl) (hl85 0 _ rfl) ?_
                      refine q_getR (m := 92) th (show mE (mtv 280) 49 = some (.getfield 28, 3, 9, 6) from rfl) (by decide) rfl rfl ?_
                      refine q_iload_n (show mE (mtv 280) 52 = some (.iload_n 1, 1, 0, 0) from rfl) (hl85 1 _ rfl) ?_
                      refine q_baload (n := 16) th (show mE (mtv 280) 53 = some (.baload, 1, 0, 0) from rfl) (by decide) rfl (fun bb87 => ?_)
                      have r88 : I 92 ((a1).toNatClampNeg) = I (19 + (a1).toNatClampNeg) 2 := hK.kl _ (sIn_lt bb87)
                      rw [r88]; clear r88
                      refine q_if_ne (t := 74) (show mE (mtv 280) 54 = some (.ifCond .ne 20, 3, 0, 0) from rfl) rfl (fun c89 => ?_) (fun c89 => ?_)
                      · exact absurd c43 c89
                      · clear c89
                        refine q_aload_n (show mE (mtv 280) 57 = some (.aload_n 0, 1, 0, 0) from rfl) (hl85 0 _ rfl) ?_
                        refine q_iload_n (show mE (mtv 280) 58 = some (.iload_n 1, 1, 0, 0) from rfl) (hl85 1 _ rfl) ?_
                        refine q_virtualP (show mE (mtv 280) 59 = some (.invokevirtual 253, 3, 281, 9) from rfl) (by decide) rfl rfl rfl (fun _ g => sp_281 th g) ?_
                        refine q_ifb_ne (t := 74) (show mE (mtv 280) 62 = some (.ifCond .ne 12, 3, 0, 0) from rfl) rfl (fun c90 => ?_) (fun c90 => ?_)
                        · refine q_iconst (show mE (mtv 280) 74 = some (.iconst 3, 1, 0, 0) from rfl) kI_3 ?_
                          refine q_goto (t := 79) (show mE (mtv 280) 75 = some (.goto 4, 3, 0, 0) from rfl) rfl ?_
                          refine q_putI th (show mE (mtv 280) 79 = some (.putfield 138, 3, 9, 42) from rfl) (by decide) rfl (fun h91 t92 => ?_)
                          refine q_aload_n (show mE (mtv 280) 82 = some (.aload_n 0, 1, 0, 0) from rfl) (hl85 0 _ rfl) ?_
                          refine q_getIe t92 (show mE (mtv 280) 83 = some (.getfield 138, 3, 9, 42) from rfl) (by decide) rfl (upI_s) ?_
                          refine q_iff (t := 91) (show mE (mtv 280) 86 = some (.ifCond .le 5, 3, 0, 0) from rfl) (by decide) rfl ?_
                          refine q_iconst (show mE (mtv 280) 89 = some (.iconst 0, 1, 0, 0) from rfl) kI_0 ?_
                          refine q_ireturn (show mE (mtv 280) 90 = some (.ireturn, 1, 0, 0) from rfl) ?_
                          exact ⟨(3 : Int32), (0 : Int32), _, _, _, rfl, rfl, t92, upI_s, (fun e => absurd e (by decide)), (RK_t (3 : Int32) hK)⟩
                        · refine q_aload_n (show mE (mtv 280) 65 = some (.aload_n 0, 1, 0, 0) from rfl) (hl85 0 _ rfl) ?_
                          refine q_iload_n (show mE (mtv 280) 66 = some (.iload_n 2, 1, 0, 0) from rfl) (hl85 2 _ rfl) ?_
                          refine q_virtualE (show mE (mtv 280) 67 = some (.invokevirtual 256, 3, 282, 9) from rfl) (by decide) rfl rfl rfl (fun _ g => sp_282 th g) ?_
                          rintro _ ⟨v93, rfl, e94⟩
                          refine qK_v ?_
                          refine q_iconst (show mE (mtv 280) 70 = some (.iconst (-1), 1, 0, 0) from rfl) kI_m1 ?_
                          refine q_ic_ne (t := 78) (show mE (mtv 280) 71 = some (.if_icmp .ne 7, 3, 0, 0) from rfl) rfl (fun c95 => ?_) (fun c95 => ?_)
                          · refine q_iconst (show mE (mtv 280) 78 = some (.iconst 0, 1, 0, 0) from rfl) kI_0 ?_
                            refine q_putI th (show mE (mtv 280) 79 = some (.putfield 138, 3, 9, 42) from rfl) (by decide) rfl (fun h96 t97 => ?_)
                            refine q_aload_n (show mE (mtv 280) 82 = some (.aload_n 0, 1, 0, 0) from rfl) (hl85 0 _ rfl) ?_
                            refine q_getIe t97 (show mE (mtv 280) 83 = some (.getfield 138, 3, 9, 42) from rfl) (by decide) rfl (upI_s) ?_
                            refine q_ift (t := 91) (show mE (mtv 280) 86 = some (.ifCond .le 5, 3, 0, 0) from rfl) (by decide) rfl ?_
                            refine q_iconst (show mE (mtv 280) 91 = some (.iconst 0, 1, 0, 0) from rfl) kI_0 ?_
                            refine q_istore (show mE (mtv 280) 92 = some (.istore 5, 2, 0, 0) from rfl) (Nat.le_of_ble_eq_true rfl) hl85 (fun lv98 (hl99 : qLs lv98 [some (.ref (85)), some (.int (a1)), some (.int (a2)), some (.int (a3)), some (.int ((1 : Int32))), some (.int ((0 : Int32)))]) => ?_)
                            exact p1 c3 c16 c18 c37 c38 bb41 z42 c43 c68 c90 v93 e94 c95 h96 t97 _ lv98 (qLs_wk hl99 (⟨rfl, rfl, rfl, rfl, rfl, trivial⟩))
                          · refine q_iconst (show mE (mtv 280) 74 = some (.iconst 3, 1, 0, 0) from rfl) kI_3 ?_
                            refine q_goto (t := 79) (show mE (mtv 280) 75 = some (.goto 4, 3, 0, 0) from rfl) rfl ?_
                            refine q_putI th (show mE (mtv 280) 79 = some (.putfield 138, 3, 9, 42) from rfl) (by decide) rfl (fun h100 t101 => ?_)
                            refine q_aload_n (show mE (mtv 280) 82 = some (.aload_n 0, 1, 0, 0) from rfl) (hl85 0 _ rfl) ?_
                            refine q_getIe t101 (show mE (mtv 280) 83 = some (.getfield 138, 3, 9, 42) from rfl) (by decide) rfl (upI_s) ?_
                            refine q_iff (t := 91) (show mE (mtv 280) 86 = some (.ifCond .le 5, 3, 0, 0) from rfl) (by decide) rfl ?_
                            refine q_iconst (show mE (mtv 280) 89 = some (.iconst 0, 1, 0, 0) from rfl) kI_0 ?_
                            refine q_ireturn (show mE (mtv 280) 90 = some (.ireturn, 1, 0, 0) from rfl) ?_
                            exact ⟨(3 : Int32), (0 : Int32), _, _, _, rfl, rfl, t101, upI_s, (fun e => absurd e (by decide)), (RK_t (3 : Int32) hK)⟩
                    · exact absurd c38 c86
              · refine q_iload (show mE (mtv 166) 67 = some (.iload 4, 2, 0, 0) from rfl) (hl40 4 _ rfl) ?_
                refine q_iconst (show mE (mtv 166) 69 = some (.iconst (-1), 1, 0, 0) from rfl) kI_m1 ?_
                refine q_ic_ne (t := 84) (show mE (mtv 166) 70 = some (.if_icmp .ne 14, 3, 0, 0) from rfl) rfl (fun c102 => ?_) (fun c102 => ?_)
                · refine q_aload_n (show mE (mtv 166) 84 = some (.aload_n 0, 1, 0, 0) from rfl) (hl40 0 _ rfl) ?_
                  refine q_getI th (show mE (mtv 166) 85 = some (.getfield 411, 3, 8, 18) from rfl) (by decide) rfl ?_
                  refine q_iload_n (show mE (mtv 166) 88 = some (.iload_n 3, 1, 0, 0) from rfl) (hl40 3 _ rfl) ?_
                  refine q_iadd (show mE (mtv 166) 89 = some (.iadd, 1, 0, 0) from rfl) ?_
                  refine q_istore (show mE (mtv 166) 90 = some (.istore 5, 2, 0, 0) from rfl) (Nat.le_of_ble_eq_true rfl) hl40 (fun lv103 (hl104 : qLs lv103 [some (.ref (0)), some (.int (a1)), some (.int (a2)), some (.int (a3)), some (.int (G_167 I 0 (a2) ((I 0 13)).toNatClampNeg)), some (.int ((I 0 18) + a3))]) => ?_)
                  refine q_aload_n (show mE (mtv 166) 92 = some (.aload_n 0, 1, 0, 0) from rfl) (hl104 0 _ rfl) ?_
                  refine q_aload_n (show mE (mtv 166) 93 = some (.aload_n 0, 1, 0, 0) from rfl) (hl104 0 _ rfl) ?_
                  refine q_getR (m := 12) th (show mE (mtv 166) 94 = some (.getfield 25, 3, 8, 2) from rfl) (by decide) rfl rfl ?_
                  refine q_iload_n (show mE (mtv 166) 97 = some (.iload_n 1, 1, 0, 0) from rfl) (hl104 1 _ rfl) ?_
                  refine q_aaload (n := 16) (t := 4) (m := 19) th (show mE (mtv 166) 98 = some (.aaload, 1, 0, 0) from rfl) (by decide) rfl (fun _ _ => rfl) (fun bb105 => ?_)
                  refine q_getI th (show mE (mtv 166) 99 = some (.getfield 372, 3, 3, 3) from rfl) (qB bb105 (by decide)) rfl ?_
                  refine q_iload (show mE (mtv 166) 102 = some (.iload 4, 2, 0, 0) from rfl) (hl104 4 _ rfl) ?_
                  refine q_iload (show mE (mtv 166) 104 = some (.iload 5, 2, 0, 0) from rfl) (hl104 5 _ rfl) ?_
                  refine q_virtualE (show mE (mtv 166) 106 = some (.invokevirtual 414, 3, 169, 8) from rfl) (by decide) rfl rfl rfl (fun _ g => sp_169 th g) ?_
                  rintro _ ⟨j106, h107, rfl, t108, e109⟩
                  refine qK_n ?_
                  refine q_iload (show mE (mtv 166) 109 = some (.iload 5, 2, 0, 0) from rfl) (hl104 5 _ rfl) ?_
                  refine q_ireturn (show mE (mtv 166) 111 = some (.ireturn, 1, 0, 0) from rfl) ?_
                  refine qKh_v ?_
                  refine q_i2l (show mE (mtv 165) 10 = some (.i2l, 1, 0, 0) from rfl) ?_
                  refine q_lastore (n := 1) t108 (show mE (mtv 165) 11 = some (.lastore, 1, 0, 0) from rfl) (by decide) rfl (fun bb110 h111 t112 => ?_)
                  refine q_goto (t := 27) (show mE (mtv 165) 12 = some (.goto 15, 3, 0, 0) from rfl) rfl ?_
                  refine q_iconst (show mE (mtv 165) 27 = some (.iconst 0, 1, 0, 0) from rfl) kI_0 ?_
                  refine q_ireturn (show mE (mtv 165) 28 = some (.ireturn, 1, 0, 0) from rfl) ?_
                  intro r113 g114
                  have g114 : qGo 280 [.ref (85), .int (a1), .int (a2), .int (a3)] h111 r113 := g114
                  refine qGo_w (Q := fun r2 => opE (.inl (some (.int ((0 : Int32))))) r2.1 r2.2 RK) g114 (fun _ => ?_)
                  have hl115 : qLs (lv_args 0 [.ref (85), .int (a1), .int (a2), .int (a3)]) [some (.ref (85)), some (.int (a1)), some (.int (a2)), some (.int (a3)), none, none] := qLs_ar 2
                  refine q_aload_n (show mE (mtv 280) 0 = some (.aload_n 0, 1, 0, 0) from rfl) (hl115 0 _ rfl) ?_
                  refine q_iload_n (show mE (mtv 280) 1 = some (.iload_n 1, 1, 0, 0) from rfl) (hl115 1 _ rfl) ?_
                  refine q_virtualI (show mE (mtv 280) 2 = some (.invokevirtual 175, 3, 220, 9) from rfl) (by decide) rfl rfl rfl (fun _ => ?_)
                  have hl116 : qLs (lv_args 0 [.ref (85), .int (a1)]) [some (.ref (85)), some (.int (a1))] := qLs_ar 0
                  refine q_iload_n (show mE (mtv 220) 0 = some (.iload_n 1, 1, 0, 0) from rfl) (hl116 1 _ rfl) ?_
                  refine q_iconst (show mE (mtv 220) 1 = some (.iconst 0, 1, 0, 0) from rfl) kI_0 ?_
                  refine q_aload_n (show mE (mtv 220) 2 = some (.aload_n 0, 1, 0, 0) from rfl) (hl116 0 _ rfl) ?_
                  refine q_getI t112 (show mE (mtv 220) 3 = some (.getfield 117, 3, 9, 35) from rfl) (by decide) rfl ?_
                  refine q_iconst (show mE (mtv 220) 6 = some (.iconst 1, 1, 0, 0) from rfl) kI_1 ?_
                  refine q_isub (show mE (mtv 220) 7 = some (.isub, 1, 0, 0) from rfl) ?_
                  refine q_staticP (show mE (mtv 220) 8 = some (.invokestatic 157, 3, 211, 0) from rfl) (by decide) rfl rfl rfl (fun _ g => sp_211 g) ?_
                  refine q_ireturn (show mE (mtv 220) 11 = some (.ireturn, 1, 0, 0) from rfl) ?_
                  refine qK_v ?_
                  refine q_ifb_eq (t := 20) (show mE (mtv 280) 5 = some (.ifCond .eq 15, 3, 0, 0) from rfl) rfl (fun c117 => ?_) (fun c117 => ?_)
                  · refine q_iconst (show mE (mtv 280) 20 = some (.iconst 0, 1, 0, 0) from rfl) kI_0 ?_
                    refine q_istore (show mE (mtv 280) 21 = some (.istore 4, 2, 0, 0) from rfl) (Nat.le_of_ble_eq_true rfl) hl115 (fun lv118 (hl119 : qLs lv118 [some (.ref (85)), some (.int (a1)), some (.int (a2)), some (.int (a3)), some (.int ((0 : Int32))), none]) => ?_)
                    refine q_aload_n (show mE (mtv 280) 23 = some (.aload_n 0, 1, 0, 0) from rfl) (hl119 0 _ rfl) ?_
                    refine q_iload (show mE (mtv 280) 24 = some (.iload 4, 2, 0, 0) from rfl) (hl119 4 _ rfl) ?_
                    refine q_iff (t := 33) (show mE (mtv 280) 26 = some (.ifCond .ne 7, 3, 0, 0) from rfl) (by decide) rfl ?_
                    refine q_iconst (show mE (mtv 280) 29 = some (.iconst 1, 1, 0, 0) from rfl) kI_1 ?_
                    refine q_goto (t := 79) (show mE (mtv 280) 30 = some (.goto 49, 3, 0, 0) from rfl) rfl ?_
                    refine q_putI t112 (show mE (mtv 280) 79 = some (.putfield 138, 3, 9, 42) from rfl) (by decide) rfl (fun h120 t121 => ?_)
                    refine q_aload_n (show mE (mtv 280) 82 = some (.aload_n 0, 1, 0, 0) from rfl) (hl119 0 _ rfl) ?_
                    refine q_getIe t121 (show mE (mtv 280) 83 = some (.getfield 138, 3, 9, 42) from rfl) (by decide) rfl (upI_s) ?_
                    refine q_iff (t := 91) (show mE (mtv 280) 86 = some (.ifCond .le 5, 3, 0, 0) from rfl) (by decide) rfl ?_
                    refine q_iconst (show mE (mtv 280) 89 = some (.iconst 0, 1, 0, 0) from rfl) kI_0 ?_
                    refine q_ireturn (show mE (mtv 280) 90 = some (.ireturn, 1, 0, 0) from rfl) ?_
                    exact (p2 c3 c16 c18 c37 c38 bb41 z42 c43 c68 c102 j106 e109 bb110 c117).elim
                  · refine q_aload_n (show mE (mtv 280) 8 = some (.aload_n 0, 1, 0, 0) from rfl) (hl115 0 _ rfl) ?_
                    refine q_iload_n (show mE (mtv 280) 9 = some (.iload_n 2, 1, 0, 0) from rfl) (hl115 2 _ rfl) ?_
                    refine q_virtualI (show mE (mtv 280) 10 = some (.invokevirtual 250, 3, 276, 9) from rfl) (by decide) rfl rfl rfl (fun _ => ?_)
                    have hl122 : qLs (lv_args 0 [.ref (85), .int (a2)]) [some (.ref (85)), some (.int (a2))] := qLs_ar 0
                    refine q_iload_n (show mE (mtv 276) 0 = some (.iload_n 1, 1, 0, 0) from rfl) (hl122 1 _ rfl) ?_
                    refine q_iconst (show mE (mtv 276) 1 = some (.iconst 0, 1, 0, 0) from rfl) kI_0 ?_
                    refine q_aload_n (show mE (mtv 276) 2 = some (.aload_n 0, 1, 0, 0) from rfl) (hl122 0 _ rfl) ?_
                    refine q_getI t112 (show mE (mtv 276) 3 = some (.getfield 123, 3, 9, 37) from rfl) (by decide) rfl ?_
                    refine q_iconst (show mE (mtv 276) 6 = some (.iconst 1, 1, 0, 0) from rfl) kI_1 ?_
                    refine q_isub (show mE (mtv 276) 7 = some (.isub, 1, 0, 0) from rfl) ?_
                    refine q_staticP (show mE (mtv 276) 8 = some (.invokestatic 157, 3, 211, 0) from rfl) (by decide) rfl rfl rfl (fun _ g => sp_211 g) ?_
                    refine q_ireturn (show mE (mtv 276) 11 = some (.ireturn, 1, 0, 0) from rfl) ?_
                    refine qK_v ?_
                    refine q_ifb_eq (t := 20) (show mE (mtv 280) 13 = some (.ifCond .eq 7, 3, 0, 0) from rfl) rfl (fun c123 => ?_) (fun c123 => ?_)
                    · refine q_iconst (show mE (mtv 280) 20 = some (.iconst 0, 1, 0, 0) from rfl) kI_0 ?_
                      refine q_istore (show mE (mtv 280) 21 = some (.istore 4, 2, 0, 0) from rfl) (Nat.le_of_ble_eq_true rfl) hl115 (fun lv124 (hl125 : qLs lv124 [some (.ref (85)), some (.int (a1)), some (.int (a2)), some (.int (a3)), some (.int ((0 : Int32))), none]) => ?_)
                      refine q_aload_n (show mE (mtv 280) 23 = some (.aload_n 0, 1, 0, 0) from rfl) (hl125 0 _ rfl) ?_
                      refine q_iload (show mE (mtv 280) 24 = some (.iload 4, 2, 0, 0) from rfl) (hl125 4 _ rfl) ?_
                      refine q_iff (t := 33) (show mE (mtv 280) 26 = some (.ifCond .ne 7, 3, 0, 0) from rfl) (by decide) rfl ?_
                      refine q_iconst (show mE (mtv 280) 29 = some (.iconst 1, 1, 0, 0) from rfl) kI_1 ?_
                      refine q_goto (t := 79) (show mE (mtv 280) 30 = some (.goto 49, 3, 0, 0) from rfl) rfl ?_
                      refine q_putI t112 (show mE (mtv 280) 79 = some (.putfield 138, 3, 9, 42) from rfl) (by decide) rfl (fun h126 t127 => ?_)
                      refine q_aload_n (show mE (mtv 280) 82 = some (.aload_n 0, 1, 0, 0) from rfl) (hl125 0 _ rfl) ?_
                      refine q_getIe t127 (show mE (mtv 280) 83 = some (.getfield 138, 3, 9, 42) from rfl) (by decide) rfl (upI_s) ?_
                      refine q_iff (t := 91) (show mE (mtv 280) 86 = some (.ifCond .le 5, 3, 0, 0) from rfl) (by decide) rfl ?_
                      refine q_iconst (show mE (mtv 280) 89 = some (.iconst 0, 1, 0, 0) from rfl) kI_0 ?_
                      refine q_ireturn (show mE (mtv 280) 90 = some (.ireturn, 1, 0, 0) from rfl) ?_
                      exact (p3 c3 c16 c18 c37 c38 bb41 z42 c43 c68 c102 j106 e109 bb110 c117 c123).elim
                    · refine q_iconst (show mE (mtv 280) 16 = some (.iconst 1, 1, 0, 0) from rfl) kI_1 ?_
                      refine q_goto (t := 21) (show mE (mtv 280) 17 = some (.goto 4, 3, 0, 0) from rfl) rfl ?_
                      refine q_istore (show mE (mtv 280) 21 = some (.istore 4, 2, 0, 0) from rfl) (Nat.le_of_ble_eq_true rfl) hl115 (fun lv128 (hl129 : qLs lv128 [some (.ref (85)), some (.int (a1)), some (.int (a2)), some (.int (a3)), some (.int ((1 : Int32))), none]) => ?_)
                      refine q_aload_n (show mE (mtv 280) 23 = some (.aload_n 0, 1, 0, 0) from rfl) (hl129 0 _ rfl) ?_
                      refine q_iload (show mE (mtv 280) 24 = some (.iload 4, 2, 0, 0) from rfl) (hl129 4 _ rfl) ?_
                      refine q_ift (t := 33) (show mE (mtv 280) 26 = some (.ifCond .ne 7, 3, 0, 0) from rfl) (by decide) rfl ?_
                      refine q_iload_n (show mE (mtv 280) 33 = some (.iload_n 3, 1, 0, 0) from rfl) (hl129 3 _ rfl) ?_
                      refine q_iconst (show mE (mtv 280) 34 = some (.iconst 1, 1, 0, 0) from rfl) kI_1 ?_
                      refine q_sipush (show mE (mtv 280) 35 = some (.sipush 200, 3, 0, 0) from rfl) kS_200 ?_
                      refine q_staticP (show mE (mtv 280) 38 = some (.invokestatic 157, 3, 211, 0) from rfl) (by decide) rfl rfl rfl (fun _ g => sp_211 g) ?_
                      refine q_ifb_ne (t := 48) (show mE (mtv 280) 41 = some (.ifCond .ne 7, 3, 0, 0) from rfl) rfl (fun c130 => ?_) (fun c130 => ?_)
                      · clear c130
                        refine q_aload_n (show mE (mtv 280) 48 = some (.aload_n 0, 1, 0, 0) from rfl) (hl129 0 _ rfl) ?_
                        refine q_getR (m := 92) t112 (show mE (mtv 280) 49 = some (.getfield 28, 3, 9, 6) from rfl) (by decide) rfl rfl ?_
                        refine q_iload_n (show mE (mtv 280) 52 = some (.iload_n 1, 1, 0, 0) from rfl) (hl129 1 _ rfl) ?_
                        refine q_baload (n := 16) t112 (show mE (mtv 280) 53 = some (.baload, 1, 0, 0) from rfl) (by decide) rfl (fun bb131 => ?_)
                        refine q_if_ne (t := 74) (show mE (mtv 280) 54 = some (.ifCond .ne 20, 3, 0, 0) from rfl) rfl (fun c132 => ?_) (fun c132 => ?_)
                        · refine q_iconst (show mE (mtv 280) 74 = some (.iconst 3, 1, 0, 0) from rfl) kI_3 ?_
                          refine q_goto (t := 79) (show mE (mtv 280) 75 = some (.goto 4, 3, 0, 0) from rfl) rfl ?_
                          refine q_putI t112 (show mE (mtv 280) 79 = some (.putfield 138, 3, 9, 42) from rfl) (by decide) rfl (fun h133 t134 => ?_)
                          refine q_aload_n (show mE (mtv 280) 82 = some (.aload_n 0, 1, 0, 0) from rfl) (hl129 0 _ rfl) ?_
                          refine q_getIe t134 (show mE (mtv 280) 83 = some (.getfield 138, 3, 9, 42) from rfl) (by decide) rfl (upI_s) ?_
                          refine q_iff (t := 91) (show mE (mtv 280) 86 = some (.ifCond .le 5, 3, 0, 0) from rfl) (by decide) rfl ?_
                          refine q_iconst (show mE (mtv 280) 89 = some (.iconst 0, 1, 0, 0) from rfl) kI_0 ?_
                          refine q_ireturn (show mE (mtv 280) 90 = some (.ireturn, 1, 0, 0) from rfl) ?_
                          exact (p4 c3 c16 c18 c37 c38 bb41 z42 c43 c68 c102 j106 e109 bb110 c117 c123 c132).elim
                        · refine q_aload_n (show mE (mtv 280) 57 = some (.aload_n 0, 1, 0, 0) from rfl) (hl129 0 _ rfl) ?_
                          refine q_iload_n (show mE (mtv 280) 58 = some (.iload_n 1, 1, 0, 0) from rfl) (hl129 1 _ rfl) ?_
                          refine q_virtualP (show mE (mtv 280) 59 = some (.invokevirtual 253, 3, 281, 9) from rfl) (by decide) rfl rfl rfl (fun _ g => sp_281 t112 g) ?_
                          refine q_ifb_ne (t := 74) (show mE (mtv 280) 62 = some (.ifCond .ne 12, 3, 0, 0) from rfl) rfl (fun c135 => ?_) (fun c135 => ?_)
                          · refine q_iconst (show mE (mtv 280) 74 = some (.iconst 3, 1, 0, 0) from rfl) kI_3 ?_
                            refine q_goto (t := 79) (show mE (mtv 280) 75 = some (.goto 4, 3, 0, 0) from rfl) rfl ?_
                            refine q_putI t112 (show mE (mtv 280) 79 = some (.putfield 138, 3, 9, 42) from rfl) (by decide) rfl (fun h136 t137 => ?_)
                            refine q_aload_n (show mE (mtv 280) 82 = some (.aload_n 0, 1, 0, 0) from rfl) (hl129 0 _ rfl) ?_
                            refine q_getIe t137 (show mE (mtv 280) 83 = some (.getfield 138, 3, 9, 42) from rfl) (by decide) rfl (upI_s) ?_
                            refine q_iff (t := 91) (show mE (mtv 280) 86 = some (.ifCond .le 5, 3, 0, 0) from rfl) (by decide) rfl ?_
                            refine q_iconst (show mE (mtv 280) 89 = some (.iconst 0, 1, 0, 0) from rfl) kI_0 ?_
                            refine q_ireturn (show mE (mtv 280) 90 = some (.ireturn, 1, 0, 0) from rfl) ?_
                            exact (p5 c3 c16 c18 c37 c38 bb41 z42 c43 c68 c102 j106 e109 bb110 c117 c123 c132 c135).elim
                          · refine q_aload_n (show mE (mtv 280) 65 = some (.aload_n 0, 1, 0, 0) from rfl) (hl129 0 _ rfl) ?_
                            refine q_iload_n (show mE (mtv 280) 66 = some (.iload_n 2, 1, 0, 0) from rfl) (hl129 2 _ rfl) ?_
                            refine q_virtualE (show mE (mtv 280) 67 = some (.invokevirtual 256, 3, 282, 9) from rfl) (by decide) rfl rfl rfl (fun _ g => sp_282 t112 g) ?_
                            rintro _ ⟨v138, rfl, e139⟩
                            refine qK_v ?_
                            refine q_iconst (show mE (mtv 280) 70 = some (.iconst (-1), 1, 0, 0) from rfl) kI_m1 ?_
                            refine q_ic_ne (t := 78) (show mE (mtv 280) 71 = some (.if_icmp .ne 7, 3, 0, 0) from rfl) rfl (fun c140 => ?_) (fun c140 => ?_)
                            · refine q_iconst (show mE (mtv 280) 78 = some (.iconst 0, 1, 0, 0) from rfl) kI_0 ?_
                              refine q_putI t112 (show mE (mtv 280) 79 = some (.putfield 138, 3, 9, 42) from rfl) (by decide) rfl (fun h141 t142 => ?_)
                              refine q_aload_n (show mE (mtv 280) 82 = some (.aload_n 0, 1, 0, 0) from rfl) (hl129 0 _ rfl) ?_
                              refine q_getIe t142 (show mE (mtv 280) 83 = some (.getfield 138, 3, 9, 42) from rfl) (by decide) rfl (upI_s) ?_
                              refine q_ift (t := 91) (show mE (mtv 280) 86 = some (.ifCond .le 5, 3, 0, 0) from rfl) (by decide) rfl ?_
                              refine q_iconst (show mE (mtv 280) 91 = some (.iconst 0, 1, 0, 0) from rfl) kI_0 ?_
                              refine q_istore (show mE (mtv 280) 92 = some (.istore 5, 2, 0, 0) from rfl) (Nat.le_of_ble_eq_true rfl) hl129 (fun lv143 (hl144 : qLs lv143 [some (.ref (85)), some (.int (a1)), some (.int (a2)), some (.int (a3)), some (.int ((1 : Int32))), some (.int ((0 : Int32)))]) => ?_)
                              exact p6 c3 c16 c18 c37 c38 bb41 z42 c43 c68 c102 j106 e109 bb110 c117 c123 c132 c135 v138 e139 c140 h141 t142 _ lv143 (qLs_wk hl144 (⟨rfl, rfl, rfl, rfl, rfl, trivial⟩))
                            · refine q_iconst (show mE (mtv 280) 74 = some (.iconst 3, 1, 0, 0) from rfl) kI_3 ?_
                              refine q_goto (t := 79) (show mE (mtv 280) 75 = some (.goto 4, 3, 0, 0) from rfl) rfl ?_
                              refine q_putI t112 (show mE (mtv 280) 79 = some (.putfield 138, 3, 9, 42) from rfl) (by decide) rfl (fun h145 t146 => ?_)
                              refine q_aload_n (show mE (mtv 280) 82 = some (.aload_n 0, 1, 0, 0) from rfl) (hl129 0 _ rfl) ?_
                              refine q_getIe t146 (show mE (mtv 280) 83 = some (.getfield 138, 3, 9, 42) from rfl) (by decide) rfl (upI_s) ?_
                              refine q_iff (t := 91) (show mE (mtv 280) 86 = some (.ifCond .le 5, 3, 0, 0) from rfl) (by decide) rfl ?_
                              refine q_iconst (show mE (mtv 280) 89 = some (.iconst 0, 1, 0, 0) from rfl) kI_0 ?_
                              refine q_ireturn (show mE (mtv 280) 90 = some (.ireturn, 1, 0, 0) from rfl) ?_
                              exact (p7 c3 c16 c18 c37 c38 bb41 z42 c43 c68 c102 j106 e109 bb110 c117 c123 c132 c135 v138 e139 c140).elim
                      · exact absurd c38 c130
                · refine q_throw (show mE (mtv 166) 73 = some (.new 94, 3, 1003, 0) from rfl) (by decide) ?_
                  refine qKh_x (hp := 23) (c := (25, sDr 5 (lv_args 0 [.ref (0), .int (a1), .int (a2), .int (a3), .ref (117)]), [], h)) rfl (by decide) (fun _ _ => rfl) ?_
                  refine q_iconst (show mE (mtv 165) 25 = some (.iconst 3, 1, 0, 0) from rfl) kI_3 ?_
                  refine q_ireturn (show mE (mtv 165) 26 = some (.ireturn, 1, 0, 0) from rfl) ?_
                  intro r147 g148
                  have g148 : qGo 280 [.ref (85), .int (a1), .int (a2), .int (a3)] h r147 := g148
                  refine qGo_w (Q := fun r2 => opE (.inl (some (.int ((3 : Int32))))) r2.1 r2.2 RK) g148 (fun _ => ?_)
                  have hl149 : qLs (lv_args 0 [.ref (85), .int (a1), .int (a2), .int (a3)]) [some (.ref (85)), some (.int (a1)), some (.int (a2)), some (.int (a3)), none, none] := qLs_ar 2
                  refine q_aload_n (show mE (mtv 280) 0 = some (.aload_n 0, 1, 0, 0) from rfl) (hl149 0 _ rfl) ?_
                  refine q_iload_n (show mE (mtv 280) 1 = some (.iload_n 1, 1, 0, 0) from rfl) (hl149 1 _ rfl) ?_
                  refine q_virtualI (show mE (mtv 280) 2 = some (.invokevirtual 175, 3, 220, 9) from rfl) (by decide) rfl rfl rfl (fun _ => ?_)
                  have hl150 : qLs (lv_args 0 [.ref (85), .int (a1)]) [some (.ref (85)), some (.int (a1))] := qLs_ar 0
                  refine q_iload_n (show mE (mtv 220) 0 = some (.iload_n 1, 1, 0, 0) from rfl) (hl150 1 _ rfl) ?_
                  refine q_iconst (show mE (mtv 220) 1 = some (.iconst 0, 1, 0, 0) from rfl) kI_0 ?_
                  refine q_aload_n (show mE (mtv 220) 2 = some (.aload_n 0, 1, 0, 0) from rfl) (hl150 0 _ rfl) ?_
                  refine q_getI th (show mE (mtv 220) 3 = some (.getfield 117, 3, 9, 35) from rfl) (by decide) rfl ?_
                  have r151 : I 85 35 = I 0 9 := hK.nk.symm
                  rw [r151]; clear r151
                  refine q_iconst (show mE (mtv 220) 6 = some (.iconst 1, 1, 0, 0) from rfl) kI_1 ?_
                  refine q_isub (show mE (mtv 220) 7 = some (.isub, 1, 0, 0) from rfl) ?_
                  refine q_staticP (show mE (mtv 220) 8 = some (.invokestatic 157, 3, 211, 0) from rfl) (by decide) rfl rfl rfl (fun _ g => sp_211 g) ?_
                  refine q_ireturn (show mE (mtv 220) 11 = some (.ireturn, 1, 0, 0) from rfl) ?_
                  refine qK_v ?_
                  refine q_ifb_eq (t := 20) (show mE (mtv 280) 5 = some (.ifCond .eq 15, 3, 0, 0) from rfl) rfl (fun c152 => ?_) (fun c152 => ?_)
                  · exfalso
                    have s153 := hK.bk
                    unfold inR at s153
                    have s154 := i32_sub1 (x := I 0 9) (by omega)
                    have s155 := hB
                    unfold inR at s155
                    simp only [s154, Int32.lt_iff_toInt_lt, Int32.le_iff_toInt_le, ← Int32.toInt_inj, kt_m1, kt_0, kt_1, kt_200] at c3 c16 c18 c37 c38 c43 c102 c152
                    first | omega | contradiction
                  · clear c152
                    refine q_aload_n (show mE (mtv 280) 8 = some (.aload_n 0, 1, 0, 0) from rfl) (hl149 0 _ rfl) ?_
                    refine q_iload_n (show mE (mtv 280) 9 = some (.iload_n 2, 1, 0, 0) from rfl) (hl149 2 _ rfl) ?_
                    refine q_virtualI (show mE (mtv 280) 10 = some (.invokevirtual 250, 3, 276, 9) from rfl) (by decide) rfl rfl rfl (fun _ => ?_)
                    have hl156 : qLs (lv_args 0 [.ref (85), .int (a2)]) [some (.ref (85)), some (.int (a2))] := qLs_ar 0
                    refine q_iload_n (show mE (mtv 276) 0 = some (.iload_n 1, 1, 0, 0) from rfl) (hl156 1 _ rfl) ?_
                    refine q_iconst (show mE (mtv 276) 1 = some (.iconst 0, 1, 0, 0) from rfl) kI_0 ?_
                    refine q_aload_n (show mE (mtv 276) 2 = some (.aload_n 0, 1, 0, 0) from rfl) (hl156 0 _ rfl) ?_
                    refine q_getI th (show mE (mtv 276) 3 = some (.getfield 123, 3, 9, 37) from rfl) (by decide) rfl ?_
                    have r157 : I 85 37 = I 0 13 := hG.1.1
                    rw [r157]; clear r157
                    refine q_iconst (show mE (mtv 276) 6 = some (.iconst 1, 1, 0, 0) from rfl) kI_1 ?_
                    refine q_isub (show mE (mtv 276) 7 = some (.isub, 1, 0, 0) from rfl) ?_
                    refine q_staticP (show mE (mtv 276) 8 = some (.invokestatic 157, 3, 211, 0) from rfl) (by decide) rfl rfl rfl (fun _ g => sp_211 g) ?_
                    refine q_ireturn (show mE (mtv 276) 11 = some (.ireturn, 1, 0, 0) from rfl) ?_
                    refine qK_v ?_
                    refine q_ifb_eq (t := 20) (show mE (mtv 280) 13 = some (.ifCond .eq 7, 3, 0, 0) from rfl) rfl (fun c158 => ?_) (fun c158 => ?_)
                    · exfalso
                      have s159 := hK.bk
                      unfold inR at s159
                      have s160 := hB
                      unfold inR at s160
                      have s161 := i32_sub1 (x := I 0 13) (by omega)
                      simp only [s161, Int32.lt_iff_toInt_lt, Int32.le_iff_toInt_le, ← Int32.toInt_inj, kt_m1, kt_0, kt_1, kt_200] at c3 c16 c18 c37 c38 c43 c102 c158
                      first | omega | contradiction
                    · clear c158
                      refine q_iconst (show mE (mtv 280) 16 = some (.iconst 1, 1, 0, 0) from rfl) kI_1 ?_
                      refine q_goto (t := 21) (show mE (mtv 280) 17 = some (.goto 4, 3, 0, 0) from rfl) rfl ?_
                      refine q_istore (show mE (mtv 280) 21 = some (.istore 4, 2, 0, 0) from rfl) (Nat.le_of_ble_eq_true rfl) hl149 (fun lv162 (hl163 : qLs lv162 [some (.ref (85)), some (.int (a1)), some (.int (a2)), some (.int (a3)), some (.int ((1 : Int32))), none]) => ?_)
                      refine q_aload_n (show mE (mtv 280) 23 = some (.aload_n 0, 1, 0, 0) from rfl) (hl163 0 _ rfl) ?_
                      refine q_iload (show mE (mtv 280) 24 = some (.iload 4, 2, 0, 0) from rfl) (hl163 4 _ rfl) ?_
                      refine q_ift (t := 33) (show mE (mtv 280) 26 = some (.ifCond .ne 7, 3, 0, 0) from rfl) (by decide) rfl ?_
                      refine q_iload_n (show mE (mtv 280) 33 = some (.iload_n 3, 1, 0, 0) from rfl) (hl163 3 _ rfl) ?_
                      refine q_iconst (show mE (mtv 280) 34 = some (.iconst 1, 1, 0, 0) from rfl) kI_1 ?_
                      refine q_sipush (show mE (mtv 280) 35 = some (.sipush 200, 3, 0, 0) from rfl) kS_200 ?_
                      refine q_staticP (show mE (mtv 280) 38 = some (.invokestatic 157, 3, 211, 0) from rfl) (by decide) rfl rfl rfl (fun _ g => sp_211 g) ?_
                      refine q_ifb_ne (t := 48) (show mE (mtv 280) 41 = some (.ifCond .ne 7, 3, 0, 0) from rfl) rfl (fun c164 => ?_) (fun c164 => ?_)
                      · clear c164
                        refine q_aload_n (show mE (mtv 280) 48 = some (.aload_n 0, 1, 0, 0) from rfl) (hl163 0 _ rfl) ?_
                        refine q_getR (m := 92) th (show mE (mtv 280) 49 = some (.getfield 28, 3, 9, 6) from rfl) (by decide) rfl rfl ?_
                        refine q_iload_n (show mE (mtv 280) 52 = some (.iload_n 1, 1, 0, 0) from rfl) (hl163 1 _ rfl) ?_
                        refine q_baload (n := 16) th (show mE (mtv 280) 53 = some (.baload, 1, 0, 0) from rfl) (by decide) rfl (fun bb165 => ?_)
                        have r166 : I 92 ((a1).toNatClampNeg) = I (19 + (a1).toNatClampNeg) 2 := hK.kl _ (sIn_lt bb165)
                        rw [r166]; clear r166
                        refine q_if_ne (t := 74) (show mE (mtv 280) 54 = some (.ifCond .ne 20, 3, 0, 0) from rfl) rfl (fun c167 => ?_) (fun c167 => ?_)
                        · exact absurd c43 c167
                        · clear c167
                          refine q_aload_n (show mE (mtv 280) 57 = some (.aload_n 0, 1, 0, 0) from rfl) (hl163 0 _ rfl) ?_
                          refine q_iload_n (show mE (mtv 280) 58 = some (.iload_n 1, 1, 0, 0) from rfl) (hl163 1 _ rfl) ?_
                          refine q_virtualP (show mE (mtv 280) 59 = some (.invokevirtual 253, 3, 281, 9) from rfl) (by decide) rfl rfl rfl (fun _ g => sp_281 th g) ?_
                          refine q_ifb_ne (t := 74) (show mE (mtv 280) 62 = some (.ifCond .ne 12, 3, 0, 0) from rfl) rfl (fun c168 => ?_) (fun c168 => ?_)
                          · refine q_iconst (show mE (mtv 280) 74 = some (.iconst 3, 1, 0, 0) from rfl) kI_3 ?_
                            refine q_goto (t := 79) (show mE (mtv 280) 75 = some (.goto 4, 3, 0, 0) from rfl) rfl ?_
                            refine q_putI th (show mE (mtv 280) 79 = some (.putfield 138, 3, 9, 42) from rfl) (by decide) rfl (fun h169 t170 => ?_)
                            refine q_aload_n (show mE (mtv 280) 82 = some (.aload_n 0, 1, 0, 0) from rfl) (hl163 0 _ rfl) ?_
                            refine q_getIe t170 (show mE (mtv 280) 83 = some (.getfield 138, 3, 9, 42) from rfl) (by decide) rfl (upI_s) ?_
                            refine q_iff (t := 91) (show mE (mtv 280) 86 = some (.ifCond .le 5, 3, 0, 0) from rfl) (by decide) rfl ?_
                            refine q_iconst (show mE (mtv 280) 89 = some (.iconst 0, 1, 0, 0) from rfl) kI_0 ?_
                            refine q_ireturn (show mE (mtv 280) 90 = some (.ireturn, 1, 0, 0) from rfl) ?_
                            exact ⟨(3 : Int32), (0 : Int32), _, _, _, rfl, rfl, t170, upI_s, (fun e => absurd e (by decide)), (RK_t (3 : Int32) hK)⟩
                          · refine q_aload_n (show mE (mtv 280) 65 = some (.aload_n 0, 1, 0, 0) from rfl) (hl163 0 _ rfl) ?_
                            refine q_iload_n (show mE (mtv 280) 66 = some (.iload_n 2, 1, 0, 0) from rfl) (hl163 2 _ rfl) ?_
                            refine q_virtualE (show mE (mtv 280) 67 = some (.invokevirtual 256, 3, 282, 9) from rfl) (by decide) rfl rfl rfl (fun _ g => sp_282 th g) ?_
                            rintro _ ⟨v171, rfl, e172⟩
                            refine qK_v ?_
                            refine q_iconst (show mE (mtv 280) 70 = some (.iconst (-1), 1, 0, 0) from rfl) kI_m1 ?_
                            refine q_ic_ne (t := 78) (show mE (mtv 280) 71 = some (.if_icmp .ne 7, 3, 0, 0) from rfl) rfl (fun c173 => ?_) (fun c173 => ?_)
                            · refine q_iconst (show mE (mtv 280) 78 = some (.iconst 0, 1, 0, 0) from rfl) kI_0 ?_
                              refine q_putI th (show mE (mtv 280) 79 = some (.putfield 138, 3, 9, 42) from rfl) (by decide) rfl (fun h174 t175 => ?_)
                              refine q_aload_n (show mE (mtv 280) 82 = some (.aload_n 0, 1, 0, 0) from rfl) (hl163 0 _ rfl) ?_
                              refine q_getIe t175 (show mE (mtv 280) 83 = some (.getfield 138, 3, 9, 42) from rfl) (by decide) rfl (upI_s) ?_
                              refine q_ift (t := 91) (show mE (mtv 280) 86 = some (.ifCond .le 5, 3, 0, 0) from rfl) (by decide) rfl ?_
                              refine q_iconst (show mE (mtv 280) 91 = some (.iconst 0, 1, 0, 0) from rfl) kI_0 ?_
                              refine q_istore (show mE (mtv 280) 92 = some (.istore 5, 2, 0, 0) from rfl) (Nat.le_of_ble_eq_true rfl) hl163 (fun lv176 (hl177 : qLs lv176 [some (.ref (85)), some (.int (a1)), some (.int (a2)), some (.int (a3)), some (.int ((1 : Int32))), some (.int ((0 : Int32)))]) => ?_)
                              exact p8 c3 c16 c18 c37 c38 bb41 z42 c43 c68 c102 c168 v171 e172 c173 h174 t175 _ lv176 (qLs_wk hl177 (⟨rfl, rfl, rfl, rfl, rfl, trivial⟩))
                            · refine q_iconst (show mE (mtv 280) 74 = some (.iconst 3, 1, 0, 0) from rfl) kI_3 ?_
                              refine q_goto (t := 79) (show mE (mtv 280) 75 = some (.goto 4, 3, 0, 0) from rfl) rfl ?_
                              refine q_putI th (show mE (mtv 280) 79 = some (.putfield 138, 3, 9, 42) from rfl) (by decide) rfl (fun h178 t179 => ?_)
                              refine q_aload_n (show mE (mtv 280) 82 = some (.aload_n 0, 1, 0, 0) from rfl) (hl163 0 _ rfl) ?_
                              refine q_getIe t179 (show mE (mtv 280) 83 = some (.getfield 138, 3, 9, 42) from rfl) (by decide) rfl (upI_s) ?_
                              refine q_iff (t := 91) (show mE (mtv 280) 86 = some (.ifCond .le 5, 3, 0, 0) from rfl) (by decide) rfl ?_
                              refine q_iconst (show mE (mtv 280) 89 = some (.iconst 0, 1, 0, 0) from rfl) kI_0 ?_
                              refine q_ireturn (show mE (mtv 280) 90 = some (.ireturn, 1, 0, 0) from rfl) ?_
                              exact ⟨(3 : Int32), (0 : Int32), _, _, _, rfl, rfl, t179, upI_s, (fun e => absurd e (by decide)), (RK_t (3 : Int32) hK)⟩
                      · exact absurd c38 c164
          · refine q_throw (show mE (mtv 166) 21 = some (.new 81, 3, 1000, 0) from rfl) (by decide) ?_
            refine qKh_x (hp := 19) (c := (21, sDr 5 (lv_args 0 [.ref (0), .int (a1), .int (a2), .int (a3), .ref (117)]), [], h)) rfl (by decide) (fun _ _ => rfl) ?_
            refine q_iconst (show mE (mtv 165) 21 = some (.iconst 2, 1, 0, 0) from rfl) kI_2 ?_
            refine q_ireturn (show mE (mtv 165) 22 = some (.ireturn, 1, 0, 0) from rfl) ?_
            intro r180 g181
            have g181 : qGo 280 [.ref (85), .int (a1), .int (a2), .int (a3)] h r180 := g181
            refine qGo_w (Q := fun r2 => opE (.inl (some (.int ((2 : Int32))))) r2.1 r2.2 RK) g181 (fun _ => ?_)
            have hl182 : qLs (lv_args 0 [.ref (85), .int (a1), .int (a2), .int (a3)]) [some (.ref (85)), some (.int (a1)), some (.int (a2)), some (.int (a3)), none, none] := qLs_ar 2
            refine q_aload_n (show mE (mtv 280) 0 = some (.aload_n 0, 1, 0, 0) from rfl) (hl182 0 _ rfl) ?_
            refine q_iload_n (show mE (mtv 280) 1 = some (.iload_n 1, 1, 0, 0) from rfl) (hl182 1 _ rfl) ?_
            refine q_virtualI (show mE (mtv 280) 2 = some (.invokevirtual 175, 3, 220, 9) from rfl) (by decide) rfl rfl rfl (fun _ => ?_)
            have hl183 : qLs (lv_args 0 [.ref (85), .int (a1)]) [some (.ref (85)), some (.int (a1))] := qLs_ar 0
            refine q_iload_n (show mE (mtv 220) 0 = some (.iload_n 1, 1, 0, 0) from rfl) (hl183 1 _ rfl) ?_
            refine q_iconst (show mE (mtv 220) 1 = some (.iconst 0, 1, 0, 0) from rfl) kI_0 ?_
            refine q_aload_n (show mE (mtv 220) 2 = some (.aload_n 0, 1, 0, 0) from rfl) (hl183 0 _ rfl) ?_
            refine q_getI th (show mE (mtv 220) 3 = some (.getfield 117, 3, 9, 35) from rfl) (by decide) rfl ?_
            have r184 : I 85 35 = I 0 9 := hK.nk.symm
            rw [r184]; clear r184
            refine q_iconst (show mE (mtv 220) 6 = some (.iconst 1, 1, 0, 0) from rfl) kI_1 ?_
            refine q_isub (show mE (mtv 220) 7 = some (.isub, 1, 0, 0) from rfl) ?_
            refine q_staticP (show mE (mtv 220) 8 = some (.invokestatic 157, 3, 211, 0) from rfl) (by decide) rfl rfl rfl (fun _ g => sp_211 g) ?_
            refine q_ireturn (show mE (mtv 220) 11 = some (.ireturn, 1, 0, 0) from rfl) ?_
            refine qK_v ?_
            refine q_ifb_eq (t := 20) (show mE (mtv 280) 5 = some (.ifCond .eq 15, 3, 0, 0) from rfl) rfl (fun c185 => ?_) (fun c185 => ?_)
            · exfalso
              have s186 := hK.bk
              unfold inR at s186
              have s187 := i32_sub1 (x := I 0 9) (by omega)
              have s188 := hB
              unfold inR at s188
              simp only [s187, Int32.lt_iff_toInt_lt, Int32.le_iff_toInt_le, ← Int32.toInt_inj, kt_0, kt_1, kt_200] at c3 c16 c18 c37 c38 c185
              first | omega | contradiction
            · clear c185
              refine q_aload_n (show mE (mtv 280) 8 = some (.aload_n 0, 1, 0, 0) from rfl) (hl182 0 _ rfl) ?_
              refine q_iload_n (show mE (mtv 280) 9 = some (.iload_n 2, 1, 0, 0) from rfl) (hl182 2 _ rfl) ?_
              refine q_virtualI (show mE (mtv 280) 10 = some (.invokevirtual 250, 3, 276, 9) from rfl) (by decide) rfl rfl rfl (fun _ => ?_)
              have hl189 : qLs (lv_args 0 [.ref (85), .int (a2)]) [some (.ref (85)), some (.int (a2))] := qLs_ar 0
              refine q_iload_n (show mE (mtv 276) 0 = some (.iload_n 1, 1, 0, 0) from rfl) (hl189 1 _ rfl) ?_
              refine q_iconst (show mE (mtv 276) 1 = some (.iconst 0, 1, 0, 0) from rfl) kI_0 ?_
              refine q_aload_n (show mE (mtv 276) 2 = some (.aload_n 0, 1, 0, 0) from rfl) (hl189 0 _ rfl) ?_
              refine q_getI th (show mE (mtv 276) 3 = some (.getfield 123, 3, 9, 37) from rfl) (by decide) rfl ?_
              have r190 : I 85 37 = I 0 13 := hG.1.1
              rw [r190]; clear r190
              refine q_iconst (show mE (mtv 276) 6 = some (.iconst 1, 1, 0, 0) from rfl) kI_1 ?_
              refine q_isub (show mE (mtv 276) 7 = some (.isub, 1, 0, 0) from rfl) ?_
              refine q_staticP (show mE (mtv 276) 8 = some (.invokestatic 157, 3, 211, 0) from rfl) (by decide) rfl rfl rfl (fun _ g => sp_211 g) ?_
              refine q_ireturn (show mE (mtv 276) 11 = some (.ireturn, 1, 0, 0) from rfl) ?_
              refine qK_v ?_
              refine q_ifb_eq (t := 20) (show mE (mtv 280) 13 = some (.ifCond .eq 7, 3, 0, 0) from rfl) rfl (fun c191 => ?_) (fun c191 => ?_)
              · exfalso
                have s192 := hK.bk
                unfold inR at s192
                have s193 := hB
                unfold inR at s193
                have s194 := i32_sub1 (x := I 0 13) (by omega)
                simp only [s194, Int32.lt_iff_toInt_lt, Int32.le_iff_toInt_le, ← Int32.toInt_inj, kt_0, kt_1, kt_200] at c3 c16 c18 c37 c38 c191
                first | omega | contradiction
              · clear c191
                refine q_iconst (show mE (mtv 280) 16 = some (.iconst 1, 1, 0, 0) from rfl) kI_1 ?_
                refine q_goto (t := 21) (show mE (mtv 280) 17 = some (.goto 4, 3, 0, 0) from rfl) rfl ?_
                refine q_istore (show mE (mtv 280) 21 = some (.istore 4, 2, 0, 0) from rfl) (Nat.le_of_ble_eq_true rfl) hl182 (fun lv195 (hl196 : qLs lv195 [some (.ref (85)), some (.int (a1)), some (.int (a2)), some (.int (a3)), some (.int ((1 : Int32))), none]) => ?_)
                refine q_aload_n (show mE (mtv 280) 23 = some (.aload_n 0, 1, 0, 0) from rfl) (hl196 0 _ rfl) ?_
                refine q_iload (show mE (mtv 280) 24 = some (.iload 4, 2, 0, 0) from rfl) (hl196 4 _ rfl) ?_
                refine q_ift (t := 33) (show mE (mtv 280) 26 = some (.ifCond .ne 7, 3, 0, 0) from rfl) (by decide) rfl ?_
                refine q_iload_n (show mE (mtv 280) 33 = some (.iload_n 3, 1, 0, 0) from rfl) (hl196 3 _ rfl) ?_
                refine q_iconst (show mE (mtv 280) 34 = some (.iconst 1, 1, 0, 0) from rfl) kI_1 ?_
                refine q_sipush (show mE (mtv 280) 35 = some (.sipush 200, 3, 0, 0) from rfl) kS_200 ?_
                refine q_staticP (show mE (mtv 280) 38 = some (.invokestatic 157, 3, 211, 0) from rfl) (by decide) rfl rfl rfl (fun _ g => sp_211 g) ?_
                refine q_ifb_ne (t := 48) (show mE (mtv 280) 41 = some (.ifCond .ne 7, 3, 0, 0) from rfl) rfl (fun c197 => ?_) (fun c197 => ?_)
                · exact absurd c197 c38
                · clear c197
                  refine q_iconst (show mE (mtv 280) 44 = some (.iconst 2, 1, 0, 0) from rfl) kI_2 ?_
                  refine q_goto (t := 79) (show mE (mtv 280) 45 = some (.goto 34, 3, 0, 0) from rfl) rfl ?_
                  refine q_putI th (show mE (mtv 280) 79 = some (.putfield 138, 3, 9, 42) from rfl) (by decide) rfl (fun h198 t199 => ?_)
                  refine q_aload_n (show mE (mtv 280) 82 = some (.aload_n 0, 1, 0, 0) from rfl) (hl196 0 _ rfl) ?_
                  refine q_getIe t199 (show mE (mtv 280) 83 = some (.getfield 138, 3, 9, 42) from rfl) (by decide) rfl (upI_s) ?_
                  refine q_iff (t := 91) (show mE (mtv 280) 86 = some (.ifCond .le 5, 3, 0, 0) from rfl) (by decide) rfl ?_
                  refine q_iconst (show mE (mtv 280) 89 = some (.iconst 0, 1, 0, 0) from rfl) kI_0 ?_
                  refine q_ireturn (show mE (mtv 280) 90 = some (.ireturn, 1, 0, 0) from rfl) ?_
                  exact ⟨(2 : Int32), (0 : Int32), _, _, _, rfl, rfl, t199, upI_s, (fun e => absurd e (by decide)), (RK_t (2 : Int32) hK)⟩
        · refine q_throw (show mE (mtv 158) 12 = some (.new 338, 3, 1002, 0) from rfl) (by decide) ?_
          refine qK_x ?_
          refine qKh_x (hp := 15) (c := (17, sDr 5 (lv_args 0 [.ref (0), .int (a1), .int (a2), .int (a3), .ref (117)]), [], h)) rfl (by decide) (fun _ _ => rfl) ?_
          refine q_iconst (show mE (mtv 165) 17 = some (.iconst 1, 1, 0, 0) from rfl) kI_1 ?_
          refine q_ireturn (show mE (mtv 165) 18 = some (.ireturn, 1, 0, 0) from rfl) ?_
          intro r200 g201
          have g201 : qGo 280 [.ref (85), .int (a1), .int (a2), .int (a3)] h r200 := g201
          refine qGo_w (Q := fun r2 => opE (.inl (some (.int ((1 : Int32))))) r2.1 r2.2 RK) g201 (fun _ => ?_)
          have hl202 : qLs (lv_args 0 [.ref (85), .int (a1), .int (a2), .int (a3)]) [some (.ref (85)), some (.int (a1)), some (.int (a2)), some (.int (a3)), none, none] := qLs_ar 2
          refine q_aload_n (show mE (mtv 280) 0 = some (.aload_n 0, 1, 0, 0) from rfl) (hl202 0 _ rfl) ?_
          refine q_iload_n (show mE (mtv 280) 1 = some (.iload_n 1, 1, 0, 0) from rfl) (hl202 1 _ rfl) ?_
          refine q_virtualI (show mE (mtv 280) 2 = some (.invokevirtual 175, 3, 220, 9) from rfl) (by decide) rfl rfl rfl (fun _ => ?_)
          have hl203 : qLs (lv_args 0 [.ref (85), .int (a1)]) [some (.ref (85)), some (.int (a1))] := qLs_ar 0
          refine q_iload_n (show mE (mtv 220) 0 = some (.iload_n 1, 1, 0, 0) from rfl) (hl203 1 _ rfl) ?_
          refine q_iconst (show mE (mtv 220) 1 = some (.iconst 0, 1, 0, 0) from rfl) kI_0 ?_
          refine q_aload_n (show mE (mtv 220) 2 = some (.aload_n 0, 1, 0, 0) from rfl) (hl203 0 _ rfl) ?_
          refine q_getI th (show mE (mtv 220) 3 = some (.getfield 117, 3, 9, 35) from rfl) (by decide) rfl ?_
          have r204 : I 85 35 = I 0 9 := hK.nk.symm
          rw [r204]; clear r204
          refine q_iconst (show mE (mtv 220) 6 = some (.iconst 1, 1, 0, 0) from rfl) kI_1 ?_
          refine q_isub (show mE (mtv 220) 7 = some (.isub, 1, 0, 0) from rfl) ?_
          refine q_staticP (show mE (mtv 220) 8 = some (.invokestatic 157, 3, 211, 0) from rfl) (by decide) rfl rfl rfl (fun _ g => sp_211 g) ?_
          refine q_ireturn (show mE (mtv 220) 11 = some (.ireturn, 1, 0, 0) from rfl) ?_
          refine qK_v ?_
          refine q_ifb_eq (t := 20) (show mE (mtv 280) 5 = some (.ifCond .eq 15, 3, 0, 0) from rfl) rfl (fun c205 => ?_) (fun c205 => ?_)
          · exfalso
            have s206 := hK.bk
            unfold inR at s206
            have s207 := i32_sub1 (x := I 0 9) (by omega)
            have s208 := hB
            unfold inR at s208
            simp only [s207, Int32.lt_iff_toInt_lt, Int32.le_iff_toInt_le, ← Int32.toInt_inj, kt_0, kt_1] at c3 c16 c18 c37 c205
            first | omega | contradiction
          · clear c205
            refine q_aload_n (show mE (mtv 280) 8 = some (.aload_n 0, 1, 0, 0) from rfl) (hl202 0 _ rfl) ?_
            refine q_iload_n (show mE (mtv 280) 9 = some (.iload_n 2, 1, 0, 0) from rfl) (hl202 2 _ rfl) ?_
            refine q_virtualI (show mE (mtv 280) 10 = some (.invokevirtual 250, 3, 276, 9) from rfl) (by decide) rfl rfl rfl (fun _ => ?_)
            have hl209 : qLs (lv_args 0 [.ref (85), .int (a2)]) [some (.ref (85)), some (.int (a2))] := qLs_ar 0
            refine q_iload_n (show mE (mtv 276) 0 = some (.iload_n 1, 1, 0, 0) from rfl) (hl209 1 _ rfl) ?_
            refine q_iconst (show mE (mtv 276) 1 = some (.iconst 0, 1, 0, 0) from rfl) kI_0 ?_
            refine q_aload_n (show mE (mtv 276) 2 = some (.aload_n 0, 1, 0, 0) from rfl) (hl209 0 _ rfl) ?_
            refine q_getI th (show mE (mtv 276) 3 = some (.getfield 123, 3, 9, 37) from rfl) (by decide) rfl ?_
            have r210 : I 85 37 = I 0 13 := hG.1.1
            rw [r210]; clear r210
            refine q_iconst (show mE (mtv 276) 6 = some (.iconst 1, 1, 0, 0) from rfl) kI_1 ?_
            refine q_isub (show mE (mtv 276) 7 = some (.isub, 1, 0, 0) from rfl) ?_
            refine q_staticP (show mE (mtv 276) 8 = some (.invokestatic 157, 3, 211, 0) from rfl) (by decide) rfl rfl rfl (fun _ g => sp_211 g) ?_
            refine q_ireturn (show mE (mtv 276) 11 = some (.ireturn, 1, 0, 0) from rfl) ?_
            refine qK_v ?_
            refine q_ifb_eq (t := 20) (show mE (mtv 280) 13 = some (.ifCond .eq 7, 3, 0, 0) from rfl) rfl (fun c211 => ?_) (fun c211 => ?_)
            · clear c211
              refine q_iconst (show mE (mtv 280) 20 = some (.iconst 0, 1, 0, 0) from rfl) kI_0 ?_
              refine q_istore (show mE (mtv 280) 21 = some (.istore 4, 2, 0, 0) from rfl) (Nat.le_of_ble_eq_true rfl) hl202 (fun lv215 (hl216 : qLs lv215 [some (.ref (85)), some (.int (a1)), some (.int (a2)), some (.int (a3)), some (.int ((0 : Int32))), none]) => ?_)
              refine q_aload_n (show mE (mtv 280) 23 = some (.aload_n 0, 1, 0, 0) from rfl) (hl216 0 _ rfl) ?_
              refine q_iload (show mE (mtv 280) 24 = some (.iload 4, 2, 0, 0) from rfl) (hl216 4 _ rfl) ?_
              refine q_iff (t := 33) (show mE (mtv 280) 26 = some (.ifCond .ne 7, 3, 0, 0) from rfl) (by decide) rfl ?_
              refine q_iconst (show mE (mtv 280) 29 = some (.iconst 1, 1, 0, 0) from rfl) kI_1 ?_
              refine q_goto (t := 79) (show mE (mtv 280) 30 = some (.goto 49, 3, 0, 0) from rfl) rfl ?_
              refine q_putI th (show mE (mtv 280) 79 = some (.putfield 138, 3, 9, 42) from rfl) (by decide) rfl (fun h217 t218 => ?_)
              refine q_aload_n (show mE (mtv 280) 82 = some (.aload_n 0, 1, 0, 0) from rfl) (hl216 0 _ rfl) ?_
              refine q_getIe t218 (show mE (mtv 280) 83 = some (.getfield 138, 3, 9, 42) from rfl) (by decide) rfl (upI_s) ?_
              refine q_iff (t := 91) (show mE (mtv 280) 86 = some (.ifCond .le 5, 3, 0, 0) from rfl) (by decide) rfl ?_
              refine q_iconst (show mE (mtv 280) 89 = some (.iconst 0, 1, 0, 0) from rfl) kI_0 ?_
              refine q_ireturn (show mE (mtv 280) 90 = some (.ireturn, 1, 0, 0) from rfl) ?_
              exact ⟨(1 : Int32), (0 : Int32), _, _, _, rfl, rfl, t218, upI_s, (fun e => absurd e (by decide)), (RK_t (1 : Int32) hK)⟩
            · exfalso
              have s212 := hK.bk
              unfold inR at s212
              have s213 := hB
              unfold inR at s213
              have s214 := i32_sub1 (x := I 0 13) (by omega)
              simp only [s214, Int32.lt_iff_toInt_lt, Int32.le_iff_toInt_le, ← Int32.toInt_inj, kt_0, kt_1] at c3 c16 c18 c37 c211
              first | omega | contradiction
    · refine q_throw (show mE (mtv 61) 12 = some (.new 338, 3, 1002, 0) from rfl) (by decide) ?_
      refine qK_x ?_
      refine qKh_x (hp := 15) (c := (17, sDr 5 (lv_args 0 [.ref (0), .int (a1), .int (a2), .int (a3), .ref (117)]), [], h)) rfl (by decide) (fun _ _ => rfl) ?_
      refine q_iconst (show mE (mtv 165) 17 = some (.iconst 1, 1, 0, 0) from rfl) kI_1 ?_
      refine q_ireturn (show mE (mtv 165) 18 = some (.ireturn, 1, 0, 0) from rfl) ?_
      intro r219 g220
      have g220 : qGo 280 [.ref (85), .int (a1), .int (a2), .int (a3)] h r219 := g220
      refine qGo_w (Q := fun r2 => opE (.inl (some (.int ((1 : Int32))))) r2.1 r2.2 RK) g220 (fun _ => ?_)
      have hl221 : qLs (lv_args 0 [.ref (85), .int (a1), .int (a2), .int (a3)]) [some (.ref (85)), some (.int (a1)), some (.int (a2)), some (.int (a3)), none, none] := qLs_ar 2
      refine q_aload_n (show mE (mtv 280) 0 = some (.aload_n 0, 1, 0, 0) from rfl) (hl221 0 _ rfl) ?_
      refine q_iload_n (show mE (mtv 280) 1 = some (.iload_n 1, 1, 0, 0) from rfl) (hl221 1 _ rfl) ?_
      refine q_virtualI (show mE (mtv 280) 2 = some (.invokevirtual 175, 3, 220, 9) from rfl) (by decide) rfl rfl rfl (fun _ => ?_)
      have hl222 : qLs (lv_args 0 [.ref (85), .int (a1)]) [some (.ref (85)), some (.int (a1))] := qLs_ar 0
      refine q_iload_n (show mE (mtv 220) 0 = some (.iload_n 1, 1, 0, 0) from rfl) (hl222 1 _ rfl) ?_
      refine q_iconst (show mE (mtv 220) 1 = some (.iconst 0, 1, 0, 0) from rfl) kI_0 ?_
      refine q_aload_n (show mE (mtv 220) 2 = some (.aload_n 0, 1, 0, 0) from rfl) (hl222 0 _ rfl) ?_
      refine q_getI th (show mE (mtv 220) 3 = some (.getfield 117, 3, 9, 35) from rfl) (by decide) rfl ?_
      have r223 : I 85 35 = I 0 9 := hK.nk.symm
      rw [r223]; clear r223
      refine q_iconst (show mE (mtv 220) 6 = some (.iconst 1, 1, 0, 0) from rfl) kI_1 ?_
      refine q_isub (show mE (mtv 220) 7 = some (.isub, 1, 0, 0) from rfl) ?_
      refine q_staticP (show mE (mtv 220) 8 = some (.invokestatic 157, 3, 211, 0) from rfl) (by decide) rfl rfl rfl (fun _ g => sp_211 g) ?_
      refine q_ireturn (show mE (mtv 220) 11 = some (.ireturn, 1, 0, 0) from rfl) ?_
      refine qK_v ?_
      refine q_ifb_eq (t := 20) (show mE (mtv 280) 5 = some (.ifCond .eq 15, 3, 0, 0) from rfl) rfl (fun c224 => ?_) (fun c224 => ?_)
      · clear c224
        refine q_iconst (show mE (mtv 280) 20 = some (.iconst 0, 1, 0, 0) from rfl) kI_0 ?_
        refine q_istore (show mE (mtv 280) 21 = some (.istore 4, 2, 0, 0) from rfl) (Nat.le_of_ble_eq_true rfl) hl221 (fun lv227 (hl228 : qLs lv227 [some (.ref (85)), some (.int (a1)), some (.int (a2)), some (.int (a3)), some (.int ((0 : Int32))), none]) => ?_)
        refine q_aload_n (show mE (mtv 280) 23 = some (.aload_n 0, 1, 0, 0) from rfl) (hl228 0 _ rfl) ?_
        refine q_iload (show mE (mtv 280) 24 = some (.iload 4, 2, 0, 0) from rfl) (hl228 4 _ rfl) ?_
        refine q_iff (t := 33) (show mE (mtv 280) 26 = some (.ifCond .ne 7, 3, 0, 0) from rfl) (by decide) rfl ?_
        refine q_iconst (show mE (mtv 280) 29 = some (.iconst 1, 1, 0, 0) from rfl) kI_1 ?_
        refine q_goto (t := 79) (show mE (mtv 280) 30 = some (.goto 49, 3, 0, 0) from rfl) rfl ?_
        refine q_putI th (show mE (mtv 280) 79 = some (.putfield 138, 3, 9, 42) from rfl) (by decide) rfl (fun h229 t230 => ?_)
        refine q_aload_n (show mE (mtv 280) 82 = some (.aload_n 0, 1, 0, 0) from rfl) (hl228 0 _ rfl) ?_
        refine q_getIe t230 (show mE (mtv 280) 83 = some (.getfield 138, 3, 9, 42) from rfl) (by decide) rfl (upI_s) ?_
        refine q_iff (t := 91) (show mE (mtv 280) 86 = some (.ifCond .le 5, 3, 0, 0) from rfl) (by decide) rfl ?_
        refine q_iconst (show mE (mtv 280) 89 = some (.iconst 0, 1, 0, 0) from rfl) kI_0 ?_
        refine q_ireturn (show mE (mtv 280) 90 = some (.ireturn, 1, 0, 0) from rfl) ?_
        exact ⟨(1 : Int32), (0 : Int32), _, _, _, rfl, rfl, t230, upI_s, (fun e => absurd e (by decide)), (RK_t (1 : Int32) hK)⟩
      · exfalso
        have s225 := hK.bk
        unfold inR at s225
        have s226 := i32_sub1 (x := I 0 9) (by omega)
        simp only [s226, Int32.lt_iff_toInt_lt, Int32.le_iff_toInt_le, ← Int32.toInt_inj, kt_0, kt_1] at c3 c16 c224
        first | omega | contradiction
theorem ok_41 {h : sH} {I : Nat → Nat → Int32} {L : Nat → Nat → Int64} {R : Nat → Nat} (th : qH h I L R) (hK : RK I L R) (hG : RG I) (hB : inR (I 0 13) 0 8) (hD : RD I) {a1 : Int32} {a2 : Int32} {a3 : Int32} {r : sR} (gW : qGo 165 [.ref (0), .int (a1), .int (a2), .int (a3), .ref (117)] h r) : ∀ r2 : sR, qGo 280 [.ref (85), .int (a1), .int (a2), .int (a3)] r.2 r2 → opE r.1 r2.1 r2.2 RK := qp_41 th hK hG hB hD gW
  (fun c3 c16 c18 c35 c36 _ _ c41 c63 c82 _ _ _ _ _ _ _ _ => by
    obtain ⟨a, ha, rfl⟩ := hK.gk c3 c16
    have hm := hK.mi
    have hkb := hm.kb
    have en := i32_clamp (d := I 0 13) hB.1
    have hn : (I 0 13).toNatClampNeg ≤ 8 := by
      have := hB.2
      rw [en, ofN_toInt (nn_lt _)] at this
      omega
    obtain ⟨c, hc, rfl⟩ := rg_n en (nn_lt _) c18 c35
    have hp : ∀ p, p < 8 → I 94 p = I (57 + p) 0 ∧ I 99 p = I (57 + p) 1 := fun p hp => ⟨(hG.2.1 p hp).1, (hG.2.1 p hp).2.1⟩
    rw [ofN_clamp (show a < 2147483648 by omega), lent_C hK ha] at c63
    exact absurd ((lent_M hm (fun _ _ _ _ _ => rfl) ha).mpr c63) c82)
  (fun c3 c16 c18 c35 c36 _ _ c41 c63 c94 j98 e101 _ c109 => by
    obtain ⟨a, ha, rfl⟩ := hK.gk c3 c16
    have hm := hK.mi
    have hkb := hm.kb
    have en := i32_clamp (d := I 0 13) hB.1
    have hn : (I 0 13).toNatClampNeg ≤ 8 := by
      have := hB.2
      rw [en, ofN_toInt (nn_lt _)] at this
      omega
    obtain ⟨c, hc, rfl⟩ := rg_n en (nn_lt _) c18 c35
    have hp : ∀ p, p < 8 → I 94 p = I (57 + p) 0 ∧ I 99 p = I (57 + p) 1 := fun p hp => ⟨(hG.2.1 p hp).1, (hG.2.1 p hp).2.1⟩
    rw [ofN_clamp (show a < 2147483648 by omega)] at e101
    have E := grE hK e101
    refine c109 ?_
    rw [E 85 35 (by omega), hm.k]
    exact in_rng ha (by omega))
  (fun c3 c16 c18 c35 c36 _ _ c41 c63 c94 j98 e101 _ c109 c115 => by
    obtain ⟨a, ha, rfl⟩ := hK.gk c3 c16
    have hm := hK.mi
    have hkb := hm.kb
    have en := i32_clamp (d := I 0 13) hB.1
    have hn : (I 0 13).toNatClampNeg ≤ 8 := by
      have := hB.2
      rw [en, ofN_toInt (nn_lt _)] at this
      omega
    obtain ⟨c, hc, rfl⟩ := rg_n en (nn_lt _) c18 c35
    have hp : ∀ p, p < 8 → I 94 p = I (57 + p) 0 ∧ I 99 p = I (57 + p) 1 := fun p hp => ⟨(hG.2.1 p hp).1, (hG.2.1 p hp).2.1⟩
    rw [ofN_clamp (show a < 2147483648 by omega)] at e101
    have E := grE hK e101
    refine c115 ?_
    rw [E 85 37 (by omega), hG.1.1, en]
    exact in_rng hc (nn_lt _))
  (fun c3 c16 c18 c35 c36 _ _ c41 c63 c94 j98 e101 _ c109 c115 c124 => by
    obtain ⟨a, ha, rfl⟩ := hK.gk c3 c16
    have hm := hK.mi
    have hkb := hm.kb
    have en := i32_clamp (d := I 0 13) hB.1
    have hn : (I 0 13).toNatClampNeg ≤ 8 := by
      have := hB.2
      rw [en, ofN_toInt (nn_lt _)] at this
      omega
    obtain ⟨c, hc, rfl⟩ := rg_n en (nn_lt _) c18 c35
    have hp : ∀ p, p < 8 → I 94 p = I (57 + p) 0 ∧ I 99 p = I (57 + p) 1 := fun p hp => ⟨(hG.2.1 p hp).1, (hG.2.1 p hp).2.1⟩
    rw [ofN_clamp (show a < 2147483648 by omega)] at e101
    have E := grE hK e101
    refine c124 ?_
    rw [ofN_clamp (show a < 2147483648 by omega)] at c41 ⊢
    rw [E 92 a (by omega), hK.kl a (by omega)]
    exact c41)
  (fun c3 c16 c18 c35 c36 _ _ c41 c63 c94 j98 e101 _ c109 c115 c124 c127 => by
    obtain ⟨a, ha, rfl⟩ := hK.gk c3 c16
    have hm := hK.mi
    have hkb := hm.kb
    have en := i32_clamp (d := I 0 13) hB.1
    have hn : (I 0 13).toNatClampNeg ≤ 8 := by
      have := hB.2
      rw [en, ofN_toInt (nn_lt _)] at this
      omega
    obtain ⟨c, hc, rfl⟩ := rg_n en (nn_lt _) c18 c35
    have hp : ∀ p, p < 8 → I 94 p = I (57 + p) 0 ∧ I 99 p = I (57 + p) 1 := fun p hp => ⟨(hG.2.1 p hp).1, (hG.2.1 p hp).2.1⟩
    rw [ofN_clamp (show a < 2147483648 by omega)] at e101
    have E := grE hK e101
    rw [ofN_clamp (show a < 2147483648 by omega), lent_C hK ha] at c63
    exact c63 ((lent_M hm (fun x b _ _ _ => E x b (by omega)) ha).mp c127))
  (fun c3 c16 c18 c35 c36 _ _ c41 c63 c94 j98 e101 _ c109 c115 c124 c127 v130 e131 c132 h133 t134 N lv hl => by
    obtain ⟨a, ha, rfl⟩ := hK.gk c3 c16
    have hm := hK.mi
    have hkb := hm.kb
    have en := i32_clamp (d := I 0 13) hB.1
    have hn : (I 0 13).toNatClampNeg ≤ 8 := by
      have := hB.2
      rw [en, ofN_toInt (nn_lt _)] at this
      omega
    obtain ⟨c, hc, rfl⟩ := rg_n en (nn_lt _) c18 c35
    have hp : ∀ p, p < 8 → I 94 p = I (57 + p) 0 ∧ I 99 p = I (57 + p) 1 := fun p hp => ⟨(hG.2.1 p hp).1, (hG.2.1 p hp).2.1⟩
    rw [ofN_clamp (show a < 2147483648 by omega)] at e101
    have E := grE hK e101
    have hDj : RD j98 := fun p hp' => by
      rw [E (57 + p) 1 (by omega), E 0 13 (by omega)]; exact hD p hp'
    have hpj : ∀ p, p < 8 → j98 94 p = j98 (57 + p) 0 ∧ j98 99 p = j98 (57 + p) 1 := fun p hp' => by
      rw [E 94 p (by omega), E 99 p (by omega), E (57 + p) 0 (by omega), E (57 + p) 1 (by omega)]; exact hp p hp'
    have tk : G_167 j98 0 (Int32.ofNat c) (I 0 13).toNatClampNeg = G_167 I 0 (Int32.ofNat c) (I 0 13).toNatClampNeg := G167_cg en hn (fun p b _ => E _ b (by omega)) (E 0 13 (by omega)) _ _ _
    have eM : ∀ x b, ¬ (x = 85 ∧ b = 42) → ¬ (19 ≤ x ∧ x ≤ 34 ∧ (b = 4 ∨ b = 5)) → upI j98 85 42 (0 : Int32) x b = I x b := fun x b q1 q2 => (upI_ne q1).trans (E x b q2)
    have tM : G_167 (upI j98 85 42 (0 : Int32)) 0 (Int32.ofNat c) (I 0 13).toNatClampNeg = G_167 I 0 (Int32.ofNat c) (I 0 13).toNatClampNeg := G167_cg en hn (fun p b _ => eM _ b (by omega) (by omega)) (eM 0 13 (by omega) (by omega)) _ _ _
    rw [ofN_clamp (show a < 2147483648 by omega)] at c41
    refine qW_mono ?_ (lk_280 (I := upI j98 85 42 (0 : Int32)) (nk := nkI I) (n := (I 0 13).toNatClampNeg) (a3 := a3) ((eM 85 35 (by omega) (by omega)).trans hm.k) hkb ha ((eM 0 13 (by omega) (by omega)).trans en) hn (fun p hp' => by
      rw [eM (57 + p) 1 (by omega) (by omega), eM 0 13 (by omega) (by omega)]; exact hD p hp') (fun p hp' => by
      rw [eM 94 p (by omega) (by omega), eM 99 p (by omega) (by omega), eM (57 + p) 0 (by omega) (by omega), eM (57 + p) 1 (by omega) (by omega)]; exact hp p hp') hc N _ 0 lv h133 t134 (Nat.zero_le _) (fun k _ => (if_neg (fun z => absurd z.1 (Nat.not_lt_zero k))).symm) (fun k _ => (if_neg (fun z => absurd z.1 (Nat.not_lt_zero k))).symm) (fun _ _ _ => rfl) hl)
    rintro r ⟨v, J, h1, rfl, q2, x1, x2, x3, x4⟩
    have i96 : ∀ k, upI j98 85 42 (0 : Int32) 96 k = I 96 k := fun k => eM 96 k (by omega) (by omega)
    have i92 : ∀ k, upI j98 85 42 (0 : Int32) 92 k = I 92 k := fun k => eM 92 k (by omega) (by omega)
    rw [tM] at x2
    simp only [i96, i92, eM 85 41 (by omega) (by omega), hG.1.2.2.2.1] at x2 x3
    have J1 : RK J L R := RK_lenOp hK ha e101 (fun k hk => by rw [x2 k hk, eM 89 k (by omega) (by omega)]) (fun k hk _ => by rw [x3 k hk, eM 90 k (by omega) (by omega)]) (fun x b q1 q2 => by rw [x4 x b q1, upI_ne q2])
    refine ⟨0, v, J, _, R, rfl, rfl, q2, (x4 85 42 (by omega)).trans upI_s, fun _ => upL_s.trans (congrArg Int32.toInt64 ?_), RK_L J1⟩
    rw [x1, x3 a ha, if_pos ⟨rfl, by rw [hK.kl a (by omega)]; exact c41⟩])
  (fun c3 c16 c18 c35 c36 _ _ c41 c63 c94 j98 e101 _ c109 c115 c124 c127 v130 e131 c132 => by
    obtain ⟨a, ha, rfl⟩ := hK.gk c3 c16
    have hm := hK.mi
    have hkb := hm.kb
    have en := i32_clamp (d := I 0 13) hB.1
    have hn : (I 0 13).toNatClampNeg ≤ 8 := by
      have := hB.2
      rw [en, ofN_toInt (nn_lt _)] at this
      omega
    obtain ⟨c, hc, rfl⟩ := rg_n en (nn_lt _) c18 c35
    have hp : ∀ p, p < 8 → I 94 p = I (57 + p) 0 ∧ I 99 p = I (57 + p) 1 := fun p hp => ⟨(hG.2.1 p hp).1, (hG.2.1 p hp).2.1⟩
    rw [ofN_clamp (show a < 2147483648 by omega)] at e101
    have E := grE hK e101
    have hDj : RD j98 := fun p hp' => by
      rw [E (57 + p) 1 (by omega), E 0 13 (by omega)]; exact hD p hp'
    have hpj : ∀ p, p < 8 → j98 94 p = j98 (57 + p) 0 ∧ j98 99 p = j98 (57 + p) 1 := fun p hp' => by
      rw [E 94 p (by omega), E 99 p (by omega), E (57 + p) 0 (by omega), E (57 + p) 1 (by omega)]; exact hp p hp'
    have tk : G_167 j98 0 (Int32.ofNat c) (I 0 13).toNatClampNeg = G_167 I 0 (Int32.ofNat c) (I 0 13).toNatClampNeg := G167_cg en hn (fun p b _ => E _ b (by omega)) (E 0 13 (by omega)) _ _ _
    refine c94 ?_
    rw [← tk, ← e131 _ c ((E 0 13 (by omega)).trans en) hn hDj hpj rfl hc]
    exact c132)
  (fun c3 c16 c18 c35 c36 _ _ c41 c63 c94 c157 v160 e161 c162 _ _ _ _ _ => by
    obtain ⟨a, ha, rfl⟩ := hK.gk c3 c16
    have hm := hK.mi
    have hkb := hm.kb
    have en := i32_clamp (d := I 0 13) hB.1
    have hn : (I 0 13).toNatClampNeg ≤ 8 := by
      have := hB.2
      rw [en, ofN_toInt (nn_lt _)] at this
      omega
    obtain ⟨c, hc, rfl⟩ := rg_n en (nn_lt _) c18 c35
    have hp : ∀ p, p < 8 → I 94 p = I (57 + p) 0 ∧ I 99 p = I (57 + p) 1 := fun p hp => ⟨(hG.2.1 p hp).1, (hG.2.1 p hp).2.1⟩
    refine absurd ?_ c162
    rw [e161 _ c en hn hD hp rfl hc]
    exact c94)
set_option maxHeartbeats 4000000 in
theorem qp_42 {h : sH} {I : Nat → Nat → Int32} {L : Nat → Nat → Int64} {R : Nat → Nat} (th : qH h I L R) (hK : RK I L R) (hG : RG I) {a1 : Int32} {r : sR} (gW : qGo 170 [.ref (0), .int (a1), .ref (117)] h r)
    (p1 : ∀ (c3 : ¬ a1 < 0), ∀ (c14 : a1 < (I 0 9)), ∀ (bb15 : sIn a1 16 = true), ∀ (c16 : I (19 + (a1).toNatClampNeg) 4 = -1), ∀ (c27 : ¬ (I (19 + (a1).toNatClampNeg) 4) = (-1 : Int32)), ∀ (c32 : (I (19 + (a1).toNatClampNeg) 2) = 0), ∀ (h33 : sH), ∀ (t34 : qH h33 (upI I 85 42 (0 : Int32)) L R), ∀ N lv, qLs lv [some (.ref (85)), some (.int (a1)), some (.int ((0 : Int32)))] → qW 283 N 51 lv [] h33 (fun r2 => opX (.inl (some (.int ((2 : Int32))))) r2.1 r2.2 RK))
    (p2 : ∀ (c3 : ¬ a1 < 0), ∀ (c14 : a1 < (I 0 9)), ∀ (bb15 : sIn a1 16 = true), ∀ (c16 : ¬ (I (19 + (a1).toNatClampNeg) 4 = -1)), ∀ (z40 : I (19 + (a1).toNatClampNeg) 2 = 0 ∨ I (19 + (a1).toNatClampNeg) 2 = 1), ∀ (c41 : (I (19 + (a1).toNatClampNeg) 2) = 0), ∀ (j46 : Nat → Nat → Int32), ∀ (e49 : grP I (I (19 + (a1).toNatClampNeg) 3) (-1 : Int32) (0 : Int32) j46), ∀ (bb50 : sIn (0 : Int32) 1 = true), ∀ (c57 : (0 : Int32) ≤ a1 ∧ a1 ≤ ((j46 85 35) - (1 : Int32))), ∀ (c59 : (j46 89 ((a1).toNatClampNeg)) = (-1 : Int32)), RK (upI j46 85 42 (2 : Int32)) (upL L 117 (((0 : Int32)).toNatClampNeg) ((if (0 : Int32) < (I 0 18) - (I (19 + (a1).toNatClampNeg) 5) then (I 0 18) - (I (19 + (a1).toNatClampNeg) 5) else (0 : Int32)).toInt64)) R)
    (p3 : ∀ (c3 : ¬ a1 < 0), ∀ (c14 : a1 < (I 0 9)), ∀ (bb15 : sIn a1 16 = true), ∀ (c16 : ¬ (I (19 + (a1).toNatClampNeg) 4 = -1)), ∀ (z40 : I (19 + (a1).toNatClampNeg) 2 = 0 ∨ I (19 + (a1).toNatClampNeg) 2 = 1), ∀ (c41 : (I (19 + (a1).toNatClampNeg) 2) = 0), ∀ (j46 : Nat → Nat → Int32), ∀ (e49 : grP I (I (19 + (a1).toNatClampNeg) 3) (-1 : Int32) (0 : Int32) j46), ∀ (bb50 : sIn (0 : Int32) 1 = true), ∀ (c57 : (0 : Int32) ≤ a1 ∧ a1 ≤ ((j46 85 35) - (1 : Int32))), ∀ (c59 : ¬ (j46 89 ((a1).toNatClampNeg)) = (-1 : Int32)), ∀ (c63 : (j46 92 ((a1).toNatClampNeg)) = 0), ∀ (h64 : sH), ∀ (t65 : qH h64 (upI j46 85 42 (0 : Int32)) (upL L 117 (((0 : Int32)).toNatClampNeg) ((if (0 : Int32) < (I 0 18) - (I (19 + (a1).toNatClampNeg) 5) then (I 0 18) - (I (19 + (a1).toNatClampNeg) 5) else (0 : Int32)).toInt64)) R), ∀ N lv, qLs lv [some (.ref (85)), some (.int (a1)), some (.int ((0 : Int32)))] → qW 283 N 51 lv [] h64 (fun r2 => opX (.inl (some (.int ((0 : Int32))))) r2.1 r2.2 RK))
    (p4 : ∀ (c3 : ¬ a1 < 0), ∀ (c14 : a1 < (I 0 9)), ∀ (bb15 : sIn a1 16 = true), ∀ (c16 : ¬ (I (19 + (a1).toNatClampNeg) 4 = -1)), ∀ (z40 : I (19 + (a1).toNatClampNeg) 2 = 0 ∨ I (19 + (a1).toNatClampNeg) 2 = 1), ∀ (c41 : (I (19 + (a1).toNatClampNeg) 2) = 0), ∀ (j46 : Nat → Nat → Int32), ∀ (e49 : grP I (I (19 + (a1).toNatClampNeg) 3) (-1 : Int32) (0 : Int32) j46), ∀ (bb50 : sIn (0 : Int32) 1 = true), ∀ (c57 : (0 : Int32) ≤ a1 ∧ a1 ≤ ((j46 85 35) - (1 : Int32))), ∀ (c59 : ¬ (j46 89 ((a1).toNatClampNeg)) = (-1 : Int32)), ∀ (c63 : ¬ (j46 92 ((a1).toNatClampNeg)) = 0), RK (upI j46 85 42 (2 : Int32)) (upL L 117 (((0 : Int32)).toNatClampNeg) ((if (0 : Int32) < (I 0 18) - (I (19 + (a1).toNatClampNeg) 5) then (I 0 18) - (I (19 + (a1).toNatClampNeg) 5) else (0 : Int32)).toInt64)) R)
    (p5 : ∀ (c3 : ¬ a1 < 0), ∀ (c14 : a1 < (I 0 9)), ∀ (bb15 : sIn a1 16 = true), ∀ (c16 : ¬ (I (19 + (a1).toNatClampNeg) 4 = -1)), ∀ (z40 : I (19 + (a1).toNatClampNeg) 2 = 0 ∨ I (19 + (a1).toNatClampNeg) 2 = 1), ∀ (c41 : (I (19 + (a1).toNatClampNeg) 2) = 0), ∀ (j46 : Nat → Nat → Int32), ∀ (e49 : grP I (I (19 + (a1).toNatClampNeg) 3) (-1 : Int32) (0 : Int32) j46), ∀ (bb50 : sIn (0 : Int32) 1 = true), ∀ (c57 : ¬ ((0 : Int32) ≤ a1 ∧ a1 ≤ ((j46 85 35) - (1 : Int32)))), RK (upI j46 85 42 (1 : Int32)) (upL L 117 (((0 : Int32)).toNatClampNeg) ((if (0 : Int32) < (I 0 18) - (I (19 + (a1).toNatClampNeg) 5) then (I 0 18) - (I (19 + (a1).toNatClampNeg) 5) else (0 : Int32)).toInt64)) R) : ∀ r2 : sR, qGo 283 [.ref (85), .int (a1)] r.2 r2 → opX r.1 r2.1 r2.2 RK := by
  refine qGo_w (Q := fun r => ∀ r2 : sR, qGo 283 [.ref (85), .int (a1)] r.2 r2 → opX r.1 r2.1 r2.2 RK) gW (fun N => ?_)
  have hl0 : qLs (lv_args 0 [.ref (0), .int (a1), .ref (117)]) [some (.ref (0)), some (.int (a1)), some (.ref (117)), none] := qLs_ar 1
  refine q_aload_n (show mE (mtv 170) 0 = some (.aload_n 2, 1, 0, 0) from rfl) (hl0 2 _ rfl) ?_
  refine q_iconst (show mE (mtv 170) 1 = some (.iconst 0, 1, 0, 0) from rfl) kI_0 ?_
  refine q_aload_n (show mE (mtv 170) 2 = some (.aload_n 0, 1, 0, 0) from rfl) (hl0 0 _ rfl) ?_
  refine q_iload_n (show mE (mtv 170) 3 = some (.iload_n 1, 1, 0, 0) from rfl) (hl0 1 _ rfl) ?_
  refine q_virtualIh (show mE (mtv 170) 4 = some (.invokevirtual 138, 3, 171, 8) from rfl) (by decide) rfl rfl rfl (fun _ => ?_)
  have hl1 : qLs (lv_args 0 [.ref (0), .int (a1)]) [some (.ref (0)), some (.int (a1)), none] := qLs_ar 1
  refine q_aload_n (show mE (mtv 171) 0 = some (.aload_n 0, 1, 0, 0) from rfl) (hl1 0 _ rfl) ?_
  refine q_iload_n (show mE (mtv 171) 1 = some (.iload_n 1, 1, 0, 0) from rfl) (hl1 1 _ rfl) ?_
  refine q_virtualI (show mE (mtv 171) 2 = some (.invokevirtual 158, 3, 61, 8) from rfl) (by decide) rfl rfl rfl (fun _ => ?_)
  have hl2 : qLs (lv_args 0 [.ref (0), .int (a1)]) [some (.ref (0)), some (.int (a1))] := qLs_ar 0
  refine q_iload_n (show mE (mtv 61) 0 = some (.iload_n 1, 1, 0, 0) from rfl) (hl2 1 _ rfl) ?_
  refine q_if_lt (t := 12) (show mE (mtv 61) 1 = some (.ifCond .lt 11, 3, 0, 0) from rfl) rfl (fun c3 => ?_) (fun c3 => ?_)
  · refine q_throw (show mE (mtv 61) 12 = some (.new 338, 3, 1002, 0) from rfl) (by decide) ?_
    refine qK_x ?_
    refine qKh_x (hp := 12) (c := (13, sDr 3 (lv_args 0 [.ref (0), .int (a1), .ref (117)]), [], h)) rfl (by decide) (fun _ _ => rfl) ?_
    refine q_iconst (show mE (mtv 170) 13 = some (.iconst 1, 1, 0, 0) from rfl) kI_1 ?_
    refine q_ireturn (show mE (mtv 170) 14 = some (.ireturn, 1, 0, 0) from rfl) ?_
    intro r4 g5
    have g5 : qGo 283 [.ref (85), .int (a1)] h r4 := g5
    refine qGo_w (Q := fun r2 => opX (.inl (some (.int ((1 : Int32))))) r2.1 r2.2 RK) g5 (fun _ => ?_)
    have hl6 : qLs (lv_args 0 [.ref (85), .int (a1)]) [some (.ref (85)), some (.int (a1)), none] := qLs_ar 1
    refine q_aload_n (show mE (mtv 283) 0 = some (.aload_n 0, 1, 0, 0) from rfl) (hl6 0 _ rfl) ?_
    refine q_aload_n (show mE (mtv 283) 1 = some (.aload_n 0, 1, 0, 0) from rfl) (hl6 0 _ rfl) ?_
    refine q_iload_n (show mE (mtv 283) 2 = some (.iload_n 1, 1, 0, 0) from rfl) (hl6 1 _ rfl) ?_
    refine q_virtualI (show mE (mtv 283) 3 = some (.invokevirtual 175, 3, 220, 9) from rfl) (by decide) rfl rfl rfl (fun _ => ?_)
    have hl7 : qLs (lv_args 0 [.ref (85), .int (a1)]) [some (.ref (85)), some (.int (a1))] := qLs_ar 0
    refine q_iload_n (show mE (mtv 220) 0 = some (.iload_n 1, 1, 0, 0) from rfl) (hl7 1 _ rfl) ?_
    refine q_iconst (show mE (mtv 220) 1 = some (.iconst 0, 1, 0, 0) from rfl) kI_0 ?_
    refine q_aload_n (show mE (mtv 220) 2 = some (.aload_n 0, 1, 0, 0) from rfl) (hl7 0 _ rfl) ?_
    refine q_getI th (show mE (mtv 220) 3 = some (.getfield 117, 3, 9, 35) from rfl) (by decide) rfl ?_
    have r8 : I 85 35 = I 0 9 := hK.nk.symm
    rw [r8]; clear r8
    refine q_iconst (show mE (mtv 220) 6 = some (.iconst 1, 1, 0, 0) from rfl) kI_1 ?_
    refine q_isub (show mE (mtv 220) 7 = some (.isub, 1, 0, 0) from rfl) ?_
    refine q_staticP (show mE (mtv 220) 8 = some (.invokestatic 157, 3, 211, 0) from rfl) (by decide) rfl rfl rfl (fun _ g => sp_211 g) ?_
    refine q_ireturn (show mE (mtv 220) 11 = some (.ireturn, 1, 0, 0) from rfl) ?_
    refine qK_v ?_
    refine q_ifb_ne (t := 13) (show mE (mtv 283) 6 = some (.ifCond .ne 7, 3, 0, 0) from rfl) rfl (fun c9 => ?_) (fun c9 => ?_)
    · exfalso
      have s10 := hK.bk
      unfold inR at s10
      have s11 := i32_sub1 (x := I 0 9) (by omega)
      simp only [s11, Int32.lt_iff_toInt_lt, Int32.le_iff_toInt_le, ← Int32.toInt_inj, kt_0, kt_1] at c3 c9
      first | omega | contradiction
    · clear c9
      refine q_iconst (show mE (mtv 283) 9 = some (.iconst 1, 1, 0, 0) from rfl) kI_1 ?_
      refine q_goto (t := 37) (show mE (mtv 283) 10 = some (.goto 27, 3, 0, 0) from rfl) rfl ?_
      refine q_putI th (show mE (mtv 283) 37 = some (.putfield 138, 3, 9, 42) from rfl) (by decide) rfl (fun h12 t13 => ?_)
      refine q_aload_n (show mE (mtv 283) 40 = some (.aload_n 0, 1, 0, 0) from rfl) (hl6 0 _ rfl) ?_
      refine q_getIe t13 (show mE (mtv 283) 41 = some (.getfield 138, 3, 9, 42) from rfl) (by decide) rfl (upI_s) ?_
      refine q_iff (t := 49) (show mE (mtv 283) 44 = some (.ifCond .le 5, 3, 0, 0) from rfl) (by decide) rfl ?_
      refine q_iconst (show mE (mtv 283) 47 = some (.iconst 0, 1, 0, 0) from rfl) kI_0 ?_
      refine q_ireturn (show mE (mtv 283) 48 = some (.ireturn, 1, 0, 0) from rfl) ?_
      exact ⟨(1 : Int32), (0 : Int32), _, _, _, rfl, rfl, t13, (RK_t (1 : Int32) hK)⟩
  · refine q_iload_n (show mE (mtv 61) 4 = some (.iload_n 1, 1, 0, 0) from rfl) (hl2 1 _ rfl) ?_
    refine q_aload_n (show mE (mtv 61) 5 = some (.aload_n 0, 1, 0, 0) from rfl) (hl2 0 _ rfl) ?_
    refine q_getI th (show mE (mtv 61) 6 = some (.getfield 88, 3, 8, 9) from rfl) (by decide) rfl ?_
    refine q_ic_lt (t := 23) (show mE (mtv 61) 9 = some (.if_icmp .lt 14, 3, 0, 0) from rfl) rfl (fun c14 => ?_) (fun c14 => ?_)
    · refine q_return_ (show mE (mtv 61) 23 = some (.return_, 1, 0, 0) from rfl) ?_
      refine qK_n ?_
      refine q_aload_n (show mE (mtv 171) 5 = some (.aload_n 0, 1, 0, 0) from rfl) (hl1 0 _ rfl) ?_
      refine q_getR (m := 12) th (show mE (mtv 171) 6 = some (.getfield 25, 3, 8, 2) from rfl) (by decide) rfl rfl ?_
      refine q_iload_n (show mE (mtv 171) 9 = some (.iload_n 1, 1, 0, 0) from rfl) (hl1 1 _ rfl) ?_
      refine q_aaload (n := 16) (t := 4) (m := 19) th (show mE (mtv 171) 10 = some (.aaload, 1, 0, 0) from rfl) (by decide) rfl (fun _ _ => rfl) (fun bb15 => ?_)
      refine q_virtualP (show mE (mtv 171) 11 = some (.invokevirtual 417, 3, 31, 3) from rfl) (by decide) rfl rfl rfl (fun _ g => sp_31 th (qB bb15 (by decide)) g) ?_
      refine q_ifbn_eq (t := 29) (show mE (mtv 171) 14 = some (.ifCond .eq 15, 3, 0, 0) from rfl) rfl (fun c16 => ?_) (fun c16 => ?_)
      · refine q_throw (show mE (mtv 171) 29 = some (.new 94, 3, 1003, 0) from rfl) (by decide) ?_
        refine qKh_x (hp := 15) (c := (16, sDr 3 (lv_args 0 [.ref (0), .int (a1), .ref (117)]), [], h)) rfl (by decide) (fun _ _ => rfl) ?_
        refine q_iconst (show mE (mtv 170) 16 = some (.iconst 2, 1, 0, 0) from rfl) kI_2 ?_
        refine q_ireturn (show mE (mtv 170) 17 = some (.ireturn, 1, 0, 0) from rfl) ?_
        intro r17 g18
        have g18 : qGo 283 [.ref (85), .int (a1)] h r17 := g18
        refine qGo_w (Q := fun r2 => opX (.inl (some (.int ((2 : Int32))))) r2.1 r2.2 RK) g18 (fun _ => ?_)
        have hl19 : qLs (lv_args 0 [.ref (85), .int (a1)]) [some (.ref (85)), some (.int (a1)), none] := qLs_ar 1
        refine q_aload_n (show mE (mtv 283) 0 = some (.aload_n 0, 1, 0, 0) from rfl) (hl19 0 _ rfl) ?_
        refine q_aload_n (show mE (mtv 283) 1 = some (.aload_n 0, 1, 0, 0) from rfl) (hl19 0 _ rfl) ?_
        refine q_iload_n (show mE (mtv 283) 2 = some (.iload_n 1, 1, 0, 0) from rfl) (hl19 1 _ rfl) ?_
        refine q_virtualI (show mE (mtv 283) 3 = some (.invokevirtual 175, 3, 220, 9) from rfl) (by decide) rfl rfl rfl (fun _ => ?_)
        have hl20 : qLs (lv_args 0 [.ref (85), .int (a1)]) [some (.ref (85)), some (.int (a1))] := qLs_ar 0
        refine q_iload_n (show mE (mtv 220) 0 = some (.iload_n 1, 1, 0, 0) from rfl) (hl20 1 _ rfl) ?_
        refine q_iconst (show mE (mtv 220) 1 = some (.iconst 0, 1, 0, 0) from rfl) kI_0 ?_
        refine q_aload_n (show mE (mtv 220) 2 = some (.aload_n 0, 1, 0, 0) from rfl) (hl20 0 _ rfl) ?_
        refine q_getI th (show mE (mtv 220) 3 = some (.getfield 117, 3, 9, 35) from rfl) (by decide) rfl ?_
        have r21 : I 85 35 = I 0 9 := hK.nk.symm
        rw [r21]; clear r21
        refine q_iconst (show mE (mtv 220) 6 = some (.iconst 1, 1, 0, 0) from rfl) kI_1 ?_
        refine q_isub (show mE (mtv 220) 7 = some (.isub, 1, 0, 0) from rfl) ?_
        refine q_staticP (show mE (mtv 220) 8 = some (.invokestatic 157, 3, 211, 0) from rfl) (by decide) rfl rfl rfl (fun _ g => sp_211 g) ?_
        refine q_ireturn (show mE (mtv 220) 11 = some (.ireturn, 1, 0, 0) from rfl) ?_
        refine qK_v ?_
        refine q_ifb_ne (t := 13) (show mE (mtv 283) 6 = some (.ifCond .ne 7, 3, 0, 0) from rfl) rfl (fun c22 => ?_) (fun c22 => ?_)
        · clear c22
          refine q_aload_n (show mE (mtv 283) 13 = some (.aload_n 0, 1, 0, 0) from rfl) (hl19 0 _ rfl) ?_
          refine q_getR (m := 89) th (show mE (mtv 283) 14 = some (.getfield 19, 3, 9, 3) from rfl) (by decide) rfl rfl ?_
          refine q_iload_n (show mE (mtv 283) 17 = some (.iload_n 1, 1, 0, 0) from rfl) (hl19 1 _ rfl) ?_
          refine q_iaload (n := 16) th (show mE (mtv 283) 18 = some (.iaload, 1, 0, 0) from rfl) (by decide) rfl (fun bb25 => ?_)
          have r26 : I 89 ((a1).toNatClampNeg) = I (19 + (a1).toNatClampNeg) 4 := hK.kh _ (sIn_lt bb25)
          rw [r26]; clear r26
          refine q_iconst (show mE (mtv 283) 19 = some (.iconst (-1), 1, 0, 0) from rfl) kI_m1 ?_
          refine q_ic_eq (t := 32) (show mE (mtv 283) 20 = some (.if_icmp .eq 12, 3, 0, 0) from rfl) rfl (fun c27 => ?_) (fun c27 => ?_)
          · refine q_iconst (show mE (mtv 283) 32 = some (.iconst 2, 1, 0, 0) from rfl) kI_2 ?_
            refine q_goto (t := 37) (show mE (mtv 283) 33 = some (.goto 4, 3, 0, 0) from rfl) rfl ?_
            refine q_putI th (show mE (mtv 283) 37 = some (.putfield 138, 3, 9, 42) from rfl) (by decide) rfl (fun h28 t29 => ?_)
            refine q_aload_n (show mE (mtv 283) 40 = some (.aload_n 0, 1, 0, 0) from rfl) (hl19 0 _ rfl) ?_
            refine q_getIe t29 (show mE (mtv 283) 41 = some (.getfield 138, 3, 9, 42) from rfl) (by decide) rfl (upI_s) ?_
            refine q_iff (t := 49) (show mE (mtv 283) 44 = some (.ifCond .le 5, 3, 0, 0) from rfl) (by decide) rfl ?_
            refine q_iconst (show mE (mtv 283) 47 = some (.iconst 0, 1, 0, 0) from rfl) kI_0 ?_
            refine q_ireturn (show mE (mtv 283) 48 = some (.ireturn, 1, 0, 0) from rfl) ?_
            exact ⟨(2 : Int32), (0 : Int32), _, _, _, rfl, rfl, t29, (RK_t (2 : Int32) hK)⟩
          · refine q_aload_n (show mE (mtv 283) 23 = some (.aload_n 0, 1, 0, 0) from rfl) (hl19 0 _ rfl) ?_
            refine q_getR (m := 92) th (show mE (mtv 283) 24 = some (.getfield 28, 3, 9, 6) from rfl) (by decide) rfl rfl ?_
            refine q_iload_n (show mE (mtv 283) 27 = some (.iload_n 1, 1, 0, 0) from rfl) (hl19 1 _ rfl) ?_
            refine q_baload (n := 16) th (show mE (mtv 283) 28 = some (.baload, 1, 0, 0) from rfl) (by decide) rfl (fun bb30 => ?_)
            have r31 : I 92 ((a1).toNatClampNeg) = I (19 + (a1).toNatClampNeg) 2 := hK.kl _ (sIn_lt bb30)
            rw [r31]; clear r31
            refine q_if_eq (t := 36) (show mE (mtv 283) 29 = some (.ifCond .eq 7, 3, 0, 0) from rfl) rfl (fun c32 => ?_) (fun c32 => ?_)
            · refine q_iconst (show mE (mtv 283) 36 = some (.iconst 0, 1, 0, 0) from rfl) kI_0 ?_
              refine q_putI th (show mE (mtv 283) 37 = some (.putfield 138, 3, 9, 42) from rfl) (by decide) rfl (fun h33 t34 => ?_)
              refine q_aload_n (show mE (mtv 283) 40 = some (.aload_n 0, 1, 0, 0) from rfl) (hl19 0 _ rfl) ?_
              refine q_getIe t34 (show mE (mtv 283) 41 = some (.getfield 138, 3, 9, 42) from rfl) (by decide) rfl (upI_s) ?_
              refine q_ift (t := 49) (show mE (mtv 283) 44 = some (.ifCond .le 5, 3, 0, 0) from rfl) (by decide) rfl ?_
              refine q_iconst (show mE (mtv 283) 49 = some (.iconst 0, 1, 0, 0) from rfl) kI_0 ?_
              refine q_istore_n (show mE (mtv 283) 50 = some (.istore_n 2, 1, 0, 0) from rfl) (Nat.le_of_ble_eq_true rfl) hl19 (fun lv35 (hl36 : qLs lv35 [some (.ref (85)), some (.int (a1)), some (.int ((0 : Int32)))]) => ?_)
              exact p1 c3 c14 bb15 c16 c27 c32 h33 t34 _ lv35 (qLs_wk hl36 (⟨rfl, rfl, rfl, trivial⟩))
            · refine q_iconst (show mE (mtv 283) 32 = some (.iconst 2, 1, 0, 0) from rfl) kI_2 ?_
              refine q_goto (t := 37) (show mE (mtv 283) 33 = some (.goto 4, 3, 0, 0) from rfl) rfl ?_
              refine q_putI th (show mE (mtv 283) 37 = some (.putfield 138, 3, 9, 42) from rfl) (by decide) rfl (fun h37 t38 => ?_)
              refine q_aload_n (show mE (mtv 283) 40 = some (.aload_n 0, 1, 0, 0) from rfl) (hl19 0 _ rfl) ?_
              refine q_getIe t38 (show mE (mtv 283) 41 = some (.getfield 138, 3, 9, 42) from rfl) (by decide) rfl (upI_s) ?_
              refine q_iff (t := 49) (show mE (mtv 283) 44 = some (.ifCond .le 5, 3, 0, 0) from rfl) (by decide) rfl ?_
              refine q_iconst (show mE (mtv 283) 47 = some (.iconst 0, 1, 0, 0) from rfl) kI_0 ?_
              refine q_ireturn (show mE (mtv 283) 48 = some (.ireturn, 1, 0, 0) from rfl) ?_
              exact ⟨(2 : Int32), (0 : Int32), _, _, _, rfl, rfl, t38, (RK_t (2 : Int32) hK)⟩
        · exfalso
          have s23 := hK.bk
          unfold inR at s23
          have s24 := i32_sub1 (x := I 0 9) (by omega)
          simp only [s24, Int32.lt_iff_toInt_lt, Int32.le_iff_toInt_le, ← Int32.toInt_inj, kt_0, kt_1] at c3 c14 c22
          first | omega | contradiction
      · refine q_aload_n (show mE (mtv 171) 17 = some (.aload_n 0, 1, 0, 0) from rfl) (hl1 0 _ rfl) ?_
        refine q_getR (m := 12) th (show mE (mtv 171) 18 = some (.getfield 25, 3, 8, 2) from rfl) (by decide) rfl rfl ?_
        refine q_iload_n (show mE (mtv 171) 21 = some (.iload_n 1, 1, 0, 0) from rfl) (hl1 1 _ rfl) ?_
        refine q_aaload (n := 16) (t := 4) (m := 19) th (show mE (mtv 171) 22 = some (.aaload, 1, 0, 0) from rfl) (by decide) rfl (fun _ _ => rfl) (fun bb39 => ?_)
        refine q_getB th (show mE (mtv 171) 23 = some (.getfield 238, 3, 3, 2) from rfl) (qB bb39 (by decide)) rfl (fun z40 => ?_)
        refine q_if_eq (t := 40) (show mE (mtv 171) 26 = some (.ifCond .eq 14, 3, 0, 0) from rfl) rfl (fun c41 => ?_) (fun c41 => ?_)
        · refine q_iconst (show mE (mtv 171) 40 = some (.iconst 0, 1, 0, 0) from rfl) kI_0 ?_
          refine q_aload_n (show mE (mtv 171) 41 = some (.aload_n 0, 1, 0, 0) from rfl) (hl1 0 _ rfl) ?_
          refine q_getI th (show mE (mtv 171) 42 = some (.getfield 411, 3, 8, 18) from rfl) (by decide) rfl ?_
          refine q_aload_n (show mE (mtv 171) 45 = some (.aload_n 0, 1, 0, 0) from rfl) (hl1 0 _ rfl) ?_
          refine q_getR (m := 12) th (show mE (mtv 171) 46 = some (.getfield 25, 3, 8, 2) from rfl) (by decide) rfl rfl ?_
          refine q_iload_n (show mE (mtv 171) 49 = some (.iload_n 1, 1, 0, 0) from rfl) (hl1 1 _ rfl) ?_
          refine q_aaload (n := 16) (t := 4) (m := 19) th (show mE (mtv 171) 50 = some (.aaload, 1, 0, 0) from rfl) (by decide) rfl (fun _ _ => rfl) (fun bb42 => ?_)
          refine q_getI th (show mE (mtv 171) 51 = some (.getfield 423, 3, 3, 5) from rfl) (qB bb42 (by decide)) rfl ?_
          refine q_isub (show mE (mtv 171) 54 = some (.isub, 1, 0, 0) from rfl) ?_
          refine q_max (show mE (mtv 171) 55 = some (.invokestatic 426, 3, 1002, 0) from rfl) ?_
          refine q_istore_n (show mE (mtv 171) 58 = some (.istore_n 2, 1, 0, 0) from rfl) (Nat.le_of_ble_eq_true rfl) hl1 (fun lv43 (hl44 : qLs lv43 [some (.ref (0)), some (.int (a1)), some (.int (if (0 : Int32) < (I 0 18) - (I (19 + (a1).toNatClampNeg) 5) then (I 0 18) - (I (19 + (a1).toNatClampNeg) 5) else (0 : Int32)))]) => ?_)
          refine q_aload_n (show mE (mtv 171) 59 = some (.aload_n 0, 1, 0, 0) from rfl) (hl44 0 _ rfl) ?_
          refine q_aload_n (show mE (mtv 171) 60 = some (.aload_n 0, 1, 0, 0) from rfl) (hl44 0 _ rfl) ?_
          refine q_getR (m := 12) th (show mE (mtv 171) 61 = some (.getfield 25, 3, 8, 2) from rfl) (by decide) rfl rfl ?_
          refine q_iload_n (show mE (mtv 171) 64 = some (.iload_n 1, 1, 0, 0) from rfl) (hl44 1 _ rfl) ?_
          refine q_aaload (n := 16) (t := 4) (m := 19) th (show mE (mtv 171) 65 = some (.aaload, 1, 0, 0) from rfl) (by decide) rfl (fun _ _ => rfl) (fun bb45 => ?_)
          refine q_getI th (show mE (mtv 171) 66 = some (.getfield 372, 3, 3, 3) from rfl) (qB bb45 (by decide)) rfl ?_
          refine q_iconst (show mE (mtv 171) 69 = some (.iconst (-1), 1, 0, 0) from rfl) kI_m1 ?_
          refine q_iconst (show mE (mtv 171) 70 = some (.iconst 0, 1, 0, 0) from rfl) kI_0 ?_
          refine q_virtualE (show mE (mtv 171) 71 = some (.invokevirtual 414, 3, 169, 8) from rfl) (by decide) rfl rfl rfl (fun _ g => sp_169 th g) ?_
          rintro _ ⟨j46, h47, rfl, t48, e49⟩
          refine qK_n ?_
          refine q_iload_n (show mE (mtv 171) 74 = some (.iload_n 2, 1, 0, 0) from rfl) (hl44 2 _ rfl) ?_
          refine q_ireturn (show mE (mtv 171) 75 = some (.ireturn, 1, 0, 0) from rfl) ?_
          refine qKh_v ?_
          refine q_i2l (show mE (mtv 170) 7 = some (.i2l, 1, 0, 0) from rfl) ?_
          refine q_lastore (n := 1) t48 (show mE (mtv 170) 8 = some (.lastore, 1, 0, 0) from rfl) (by decide) rfl (fun bb50 h51 t52 => ?_)
          refine q_goto (t := 18) (show mE (mtv 170) 9 = some (.goto 9, 3, 0, 0) from rfl) rfl ?_
          refine q_iconst (show mE (mtv 170) 18 = some (.iconst 0, 1, 0, 0) from rfl) kI_0 ?_
          refine q_ireturn (show mE (mtv 170) 19 = some (.ireturn, 1, 0, 0) from rfl) ?_
          intro r53 g54
          have g54 : qGo 283 [.ref (85), .int (a1)] h51 r53 := g54
          refine qGo_w (Q := fun r2 => opX (.inl (some (.int ((0 : Int32))))) r2.1 r2.2 RK) g54 (fun _ => ?_)
          have hl55 : qLs (lv_args 0 [.ref (85), .int (a1)]) [some (.ref (85)), some (.int (a1)), none] := qLs_ar 1
          refine q_aload_n (show mE (mtv 283) 0 = some (.aload_n 0, 1, 0, 0) from rfl) (hl55 0 _ rfl) ?_
          refine q_aload_n (show mE (mtv 283) 1 = some (.aload_n 0, 1, 0, 0) from rfl) (hl55 0 _ rfl) ?_
          refine q_iload_n (show mE (mtv 283) 2 = some (.iload_n 1, 1, 0, 0) from rfl) (hl55 1 _ rfl) ?_
          refine q_virtualI (show mE (mtv 283) 3 = some (.invokevirtual 175, 3, 220, 9) from rfl) (by decide) rfl rfl rfl (fun _ => ?_)
          have hl56 : qLs (lv_args 0 [.ref (85), .int (a1)]) [some (.ref (85)), some (.int (a1))] := qLs_ar 0
          refine q_iload_n (show mE (mtv 220) 0 = some (.iload_n 1, 1, 0, 0) from rfl) (hl56 1 _ rfl) ?_
          refine q_iconst (show mE (mtv 220) 1 = some (.iconst 0, 1, 0, 0) from rfl) kI_0 ?_
          refine q_aload_n (show mE (mtv 220) 2 = some (.aload_n 0, 1, 0, 0) from rfl) (hl56 0 _ rfl) ?_
          refine q_getI t52 (show mE (mtv 220) 3 = some (.getfield 117, 3, 9, 35) from rfl) (by decide) rfl ?_
          refine q_iconst (show mE (mtv 220) 6 = some (.iconst 1, 1, 0, 0) from rfl) kI_1 ?_
          refine q_isub (show mE (mtv 220) 7 = some (.isub, 1, 0, 0) from rfl) ?_
          refine q_staticP (show mE (mtv 220) 8 = some (.invokestatic 157, 3, 211, 0) from rfl) (by decide) rfl rfl rfl (fun _ g => sp_211 g) ?_
          refine q_ireturn (show mE (mtv 220) 11 = some (.ireturn, 1, 0, 0) from rfl) ?_
          refine qK_v ?_
          refine q_ifb_ne (t := 13) (show mE (mtv 283) 6 = some (.ifCond .ne 7, 3, 0, 0) from rfl) rfl (fun c57 => ?_) (fun c57 => ?_)
          · refine q_aload_n (show mE (mtv 283) 13 = some (.aload_n 0, 1, 0, 0) from rfl) (hl55 0 _ rfl) ?_
            refine q_getR (m := 89) t52 (show mE (mtv 283) 14 = some (.getfield 19, 3, 9, 3) from rfl) (by decide) rfl rfl ?_
            refine q_iload_n (show mE (mtv 283) 17 = some (.iload_n 1, 1, 0, 0) from rfl) (hl55 1 _ rfl) ?_
            refine q_iaload (n := 16) t52 (show mE (mtv 283) 18 = some (.iaload, 1, 0, 0) from rfl) (by decide) rfl (fun bb58 => ?_)
            refine q_iconst (show mE (mtv 283) 19 = some (.iconst (-1), 1, 0, 0) from rfl) kI_m1 ?_
            refine q_ic_eq (t := 32) (show mE (mtv 283) 20 = some (.if_icmp .eq 12, 3, 0, 0) from rfl) rfl (fun c59 => ?_) (fun c59 => ?_)
            · refine q_iconst (show mE (mtv 283) 32 = some (.iconst 2, 1, 0, 0) from rfl) kI_2 ?_
              refine q_goto (t := 37) (show mE (mtv 283) 33 = some (.goto 4, 3, 0, 0) from rfl) rfl ?_
              refine q_putI t52 (show mE (mtv 283) 37 = some (.putfield 138, 3, 9, 42) from rfl) (by decide) rfl (fun h60 t61 => ?_)
              refine q_aload_n (show mE (mtv 283) 40 = some (.aload_n 0, 1, 0, 0) from rfl) (hl55 0 _ rfl) ?_
              refine q_getIe t61 (show mE (mtv 283) 41 = some (.getfield 138, 3, 9, 42) from rfl) (by decide) rfl (upI_s) ?_
              refine q_iff (t := 49) (show mE (mtv 283) 44 = some (.ifCond .le 5, 3, 0, 0) from rfl) (by decide) rfl ?_
              refine q_iconst (show mE (mtv 283) 47 = some (.iconst 0, 1, 0, 0) from rfl) kI_0 ?_
              refine q_ireturn (show mE (mtv 283) 48 = some (.ireturn, 1, 0, 0) from rfl) ?_
              exact ⟨(0 : Int32), (0 : Int32), _, _, _, rfl, rfl, t61, p2 c3 c14 bb15 c16 z40 c41 j46 e49 bb50 c57 c59⟩
            · refine q_aload_n (show mE (mtv 283) 23 = some (.aload_n 0, 1, 0, 0) from rfl) (hl55 0 _ rfl) ?_
              refine q_getR (m := 92) t52 (show mE (mtv 283) 24 = some (.getfield 28, 3, 9, 6) from rfl) (by decide) rfl rfl ?_
              refine q_iload_n (show mE (mtv 283) 27 = some (.iload_n 1, 1, 0, 0) from rfl) (hl55 1 _ rfl) ?_
              refine q_baload (n := 16) t52 (show mE (mtv 283) 28 = some (.baload, 1, 0, 0) from rfl) (by decide) rfl (fun bb62 => ?_)
              refine q_if_eq (t := 36) (show mE (mtv 283) 29 = some (.ifCond .eq 7, 3, 0, 0) from rfl) rfl (fun c63 => ?_) (fun c63 => ?_)
              · refine q_iconst (show mE (mtv 283) 36 = some (.iconst 0, 1, 0, 0) from rfl) kI_0 ?_
                refine q_putI t52 (show mE (mtv 283) 37 = some (.putfield 138, 3, 9, 42) from rfl) (by decide) rfl (fun h64 t65 => ?_)
                refine q_aload_n (show mE (mtv 283) 40 = some (.aload_n 0, 1, 0, 0) from rfl) (hl55 0 _ rfl) ?_
                refine q_getIe t65 (show mE (mtv 283) 41 = some (.getfield 138, 3, 9, 42) from rfl) (by decide) rfl (upI_s) ?_
                refine q_ift (t := 49) (show mE (mtv 283) 44 = some (.ifCond .le 5, 3, 0, 0) from rfl) (by decide) rfl ?_
                refine q_iconst (show mE (mtv 283) 49 = some (.iconst 0, 1, 0, 0) from rfl) kI_0 ?_
                refine q_istore_n (show mE (mtv 283) 50 = some (.istore_n 2, 1, 0, 0) from rfl) (Nat.le_of_ble_eq_true rfl) hl55 (fun lv66 (hl67 : qLs lv66 [some (.ref (85)), some (.int (a1)), some (.int ((0 : Int32)))]) => ?_)
                exact p3 c3 c14 bb15 c16 z40 c41 j46 e49 bb50 c57 c59 c63 h64 t65 _ lv66 (qLs_wk hl67 (⟨rfl, rfl, rfl, trivial⟩))
              · refine q_iconst (show mE (mtv 283) 32 = some (.iconst 2, 1, 0, 0) from rfl) kI_2 ?_
                refine q_goto (t := 37) (show mE (mtv 283) 33 = some (.goto 4, 3, 0, 0) from rfl) rfl ?_
                refine q_putI t52 (show mE (mtv 283) 37 = some (.putfield 138, 3, 9, 42) from rfl) (by decide) rfl (fun h68 t69 => ?_)
                refine q_aload_n (show mE (mtv 283) 40 = some (.aload_n 0, 1, 0, 0) from rfl) (hl55 0 _ rfl) ?_
                refine q_getIe t69 (show mE (mtv 283) 41 = some (.getfield 138, 3, 9, 42) from rfl) (by decide) rfl (upI_s) ?_
                refine q_iff (t := 49) (show mE (mtv 283) 44 = some (.ifCond .le 5, 3, 0, 0) from rfl) (by decide) rfl ?_
                refine q_iconst (show mE (mtv 283) 47 = some (.iconst 0, 1, 0, 0) from rfl) kI_0 ?_
                refine q_ireturn (show mE (mtv 283) 48 = some (.ireturn, 1, 0, 0) from rfl) ?_
                exact ⟨(0 : Int32), (0 : Int32), _, _, _, rfl, rfl, t69, p4 c3 c14 bb15 c16 z40 c41 j46 e49 bb50 c57 c59 c63⟩
          · refine q_iconst (show mE (mtv 283) 9 = some (.iconst 1, 1, 0, 0) from rfl) kI_1 ?_
            refine q_goto (t := 37) (show mE (mtv 283) 10 = some (.goto 27, 3, 0, 0) from rfl) rfl ?_
            refine q_putI t52 (show mE (mtv 283) 37 = some (.putfield 138, 3, 9, 42) from rfl) (by decide) rfl (fun h70 t71 => ?_)
            refine q_aload_n (show mE (mtv 283) 40 = some (.aload_n 0, 1, 0, 0) from rfl) (hl55 0 _ rfl) ?_
            refine q_getIe t71 (show mE (mtv 283) 41 = some (.getfield 138, 3, 9, 42) from rfl) (by decide) rfl (upI_s) ?_
            refine q_iff (t := 49) (show mE (mtv 283) 44 = some (.ifCond .le 5, 3, 0, 0) from rfl) (by decide) rfl ?_
            refine q_iconst (show mE (mtv 283) 47 = some (.iconst 0, 1, 0, 0) from rfl) kI_0 ?_
            refine q_ireturn (show mE (mtv 283) 48 = some (.ireturn, 1, 0, 0) from rfl) ?_
            exact ⟨(0 : Int32), (0 : Int32), _, _, _, rfl, rfl, t71, p5 c3 c14 bb15 c16 z40 c41 j46 e49 bb50 c57⟩
        · refine q_throw (show mE (mtv 171) 29 = some (.new 94, 3, 1003, 0) from rfl) (by decide) ?_
          refine qKh_x (hp := 15) (c := (16, sDr 3 (lv_args 0 [.ref (0), .int (a1), .ref (117)]), [], h)) rfl (by decide) (fun _ _ => rfl) ?_
          refine q_iconst (show mE (mtv 170) 16 = some (.iconst 2, 1, 0, 0) from rfl) kI_2 ?_
          refine q_ireturn (show mE (mtv 170) 17 = some (.ireturn, 1, 0, 0) from rfl) ?_
          intro r72 g73
          have g73 : qGo 283 [.ref (85), .int (a1)] h r72 := g73
          refine qGo_w (Q := fun r2 => opX (.inl (some (.int ((2 : Int32))))) r2.1 r2.2 RK) g73 (fun _ => ?_)
          have hl74 : qLs (lv_args 0 [.ref (85), .int (a1)]) [some (.ref (85)), some (.int (a1)), none] := qLs_ar 1
          refine q_aload_n (show mE (mtv 283) 0 = some (.aload_n 0, 1, 0, 0) from rfl) (hl74 0 _ rfl) ?_
          refine q_aload_n (show mE (mtv 283) 1 = some (.aload_n 0, 1, 0, 0) from rfl) (hl74 0 _ rfl) ?_
          refine q_iload_n (show mE (mtv 283) 2 = some (.iload_n 1, 1, 0, 0) from rfl) (hl74 1 _ rfl) ?_
          refine q_virtualI (show mE (mtv 283) 3 = some (.invokevirtual 175, 3, 220, 9) from rfl) (by decide) rfl rfl rfl (fun _ => ?_)
          have hl75 : qLs (lv_args 0 [.ref (85), .int (a1)]) [some (.ref (85)), some (.int (a1))] := qLs_ar 0
          refine q_iload_n (show mE (mtv 220) 0 = some (.iload_n 1, 1, 0, 0) from rfl) (hl75 1 _ rfl) ?_
          refine q_iconst (show mE (mtv 220) 1 = some (.iconst 0, 1, 0, 0) from rfl) kI_0 ?_
          refine q_aload_n (show mE (mtv 220) 2 = some (.aload_n 0, 1, 0, 0) from rfl) (hl75 0 _ rfl) ?_
          refine q_getI th (show mE (mtv 220) 3 = some (.getfield 117, 3, 9, 35) from rfl) (by decide) rfl ?_
          have r76 : I 85 35 = I 0 9 := hK.nk.symm
          rw [r76]; clear r76
          refine q_iconst (show mE (mtv 220) 6 = some (.iconst 1, 1, 0, 0) from rfl) kI_1 ?_
          refine q_isub (show mE (mtv 220) 7 = some (.isub, 1, 0, 0) from rfl) ?_
          refine q_staticP (show mE (mtv 220) 8 = some (.invokestatic 157, 3, 211, 0) from rfl) (by decide) rfl rfl rfl (fun _ g => sp_211 g) ?_
          refine q_ireturn (show mE (mtv 220) 11 = some (.ireturn, 1, 0, 0) from rfl) ?_
          refine qK_v ?_
          refine q_ifb_ne (t := 13) (show mE (mtv 283) 6 = some (.ifCond .ne 7, 3, 0, 0) from rfl) rfl (fun c77 => ?_) (fun c77 => ?_)
          · clear c77
            refine q_aload_n (show mE (mtv 283) 13 = some (.aload_n 0, 1, 0, 0) from rfl) (hl74 0 _ rfl) ?_
            refine q_getR (m := 89) th (show mE (mtv 283) 14 = some (.getfield 19, 3, 9, 3) from rfl) (by decide) rfl rfl ?_
            refine q_iload_n (show mE (mtv 283) 17 = some (.iload_n 1, 1, 0, 0) from rfl) (hl74 1 _ rfl) ?_
            refine q_iaload (n := 16) th (show mE (mtv 283) 18 = some (.iaload, 1, 0, 0) from rfl) (by decide) rfl (fun bb80 => ?_)
            have r81 : I 89 ((a1).toNatClampNeg) = I (19 + (a1).toNatClampNeg) 4 := hK.kh _ (sIn_lt bb80)
            rw [r81]; clear r81
            refine q_iconst (show mE (mtv 283) 19 = some (.iconst (-1), 1, 0, 0) from rfl) kI_m1 ?_
            refine q_ic_eq (t := 32) (show mE (mtv 283) 20 = some (.if_icmp .eq 12, 3, 0, 0) from rfl) rfl (fun c82 => ?_) (fun c82 => ?_)
            · refine q_iconst (show mE (mtv 283) 32 = some (.iconst 2, 1, 0, 0) from rfl) kI_2 ?_
              refine q_goto (t := 37) (show mE (mtv 283) 33 = some (.goto 4, 3, 0, 0) from rfl) rfl ?_
              refine q_putI th (show mE (mtv 283) 37 = some (.putfield 138, 3, 9, 42) from rfl) (by decide) rfl (fun h83 t84 => ?_)
              refine q_aload_n (show mE (mtv 283) 40 = some (.aload_n 0, 1, 0, 0) from rfl) (hl74 0 _ rfl) ?_
              refine q_getIe t84 (show mE (mtv 283) 41 = some (.getfield 138, 3, 9, 42) from rfl) (by decide) rfl (upI_s) ?_
              refine q_iff (t := 49) (show mE (mtv 283) 44 = some (.ifCond .le 5, 3, 0, 0) from rfl) (by decide) rfl ?_
              refine q_iconst (show mE (mtv 283) 47 = some (.iconst 0, 1, 0, 0) from rfl) kI_0 ?_
              refine q_ireturn (show mE (mtv 283) 48 = some (.ireturn, 1, 0, 0) from rfl) ?_
              exact ⟨(2 : Int32), (0 : Int32), _, _, _, rfl, rfl, t84, (RK_t (2 : Int32) hK)⟩
            · refine q_aload_n (show mE (mtv 283) 23 = some (.aload_n 0, 1, 0, 0) from rfl) (hl74 0 _ rfl) ?_
              refine q_getR (m := 92) th (show mE (mtv 283) 24 = some (.getfield 28, 3, 9, 6) from rfl) (by decide) rfl rfl ?_
              refine q_iload_n (show mE (mtv 283) 27 = some (.iload_n 1, 1, 0, 0) from rfl) (hl74 1 _ rfl) ?_
              refine q_baload (n := 16) th (show mE (mtv 283) 28 = some (.baload, 1, 0, 0) from rfl) (by decide) rfl (fun bb85 => ?_)
              have r86 : I 92 ((a1).toNatClampNeg) = I (19 + (a1).toNatClampNeg) 2 := hK.kl _ (sIn_lt bb85)
              rw [r86]; clear r86
              refine q_if_eq (t := 36) (show mE (mtv 283) 29 = some (.ifCond .eq 7, 3, 0, 0) from rfl) rfl (fun c87 => ?_) (fun c87 => ?_)
              · exact absurd c87 c41
              · clear c87
                refine q_iconst (show mE (mtv 283) 32 = some (.iconst 2, 1, 0, 0) from rfl) kI_2 ?_
                refine q_goto (t := 37) (show mE (mtv 283) 33 = some (.goto 4, 3, 0, 0) from rfl) rfl ?_
                refine q_putI th (show mE (mtv 283) 37 = some (.putfield 138, 3, 9, 42) from rfl) (by decide) rfl (fun h88 t89 => ?_)
                refine q_aload_n (show mE (mtv 283) 40 = some (.aload_n 0, 1, 0, 0) from rfl) (hl74 0 _ rfl) ?_
                refine q_getIe t89 (show mE (mtv 283) 41 = some (.getfield 138, 3, 9, 42) from rfl) (by decide) rfl (upI_s) ?_
                refine q_iff (t := 49) (show mE (mtv 283) 44 = some (.ifCond .le 5, 3, 0, 0) from rfl) (by decide) rfl ?_
                refine q_iconst (show mE (mtv 283) 47 = some (.iconst 0, 1, 0, 0) from rfl) kI_0 ?_
                refine q_ireturn (show mE (mtv 283) 48 = some (.ireturn, 1, 0, 0) from rfl) ?_
                exact ⟨(2 : Int32), (0 : Int32), _, _, _, rfl, rfl, t89, (RK_t (2 : Int32) hK)⟩
          · exfalso
            have s78 := hK.bk
            unfold inR at s78
            have s79 := i32_sub1 (x := I 0 9) (by omega)
            simp only [s79, Int32.lt_iff_toInt_lt, Int32.le_iff_toInt_le, ← Int32.toInt_inj, kt_0, kt_1] at c3 c14 c41 c77
            first | omega | contradiction
    · refine q_throw (show mE (mtv 61) 12 = some (.new 338, 3, 1002, 0) from rfl) (by decide) ?_
      refine qK_x ?_
      refine qKh_x (hp := 12) (c := (13, sDr 3 (lv_args 0 [.ref (0), .int (a1), .ref (117)]), [], h)) rfl (by decide) (fun _ _ => rfl) ?_
      refine q_iconst (show mE (mtv 170) 13 = some (.iconst 1, 1, 0, 0) from rfl) kI_1 ?_
      refine q_ireturn (show mE (mtv 170) 14 = some (.ireturn, 1, 0, 0) from rfl) ?_
      intro r90 g91
      have g91 : qGo 283 [.ref (85), .int (a1)] h r90 := g91
      refine qGo_w (Q := fun r2 => opX (.inl (some (.int ((1 : Int32))))) r2.1 r2.2 RK) g91 (fun _ => ?_)
      have hl92 : qLs (lv_args 0 [.ref (85), .int (a1)]) [some (.ref (85)), some (.int (a1)), none] := qLs_ar 1
      refine q_aload_n (show mE (mtv 283) 0 = some (.aload_n 0, 1, 0, 0) from rfl) (hl92 0 _ rfl) ?_
      refine q_aload_n (show mE (mtv 283) 1 = some (.aload_n 0, 1, 0, 0) from rfl) (hl92 0 _ rfl) ?_
      refine q_iload_n (show mE (mtv 283) 2 = some (.iload_n 1, 1, 0, 0) from rfl) (hl92 1 _ rfl) ?_
      refine q_virtualI (show mE (mtv 283) 3 = some (.invokevirtual 175, 3, 220, 9) from rfl) (by decide) rfl rfl rfl (fun _ => ?_)
      have hl93 : qLs (lv_args 0 [.ref (85), .int (a1)]) [some (.ref (85)), some (.int (a1))] := qLs_ar 0
      refine q_iload_n (show mE (mtv 220) 0 = some (.iload_n 1, 1, 0, 0) from rfl) (hl93 1 _ rfl) ?_
      refine q_iconst (show mE (mtv 220) 1 = some (.iconst 0, 1, 0, 0) from rfl) kI_0 ?_
      refine q_aload_n (show mE (mtv 220) 2 = some (.aload_n 0, 1, 0, 0) from rfl) (hl93 0 _ rfl) ?_
      refine q_getI th (show mE (mtv 220) 3 = some (.getfield 117, 3, 9, 35) from rfl) (by decide) rfl ?_
      have r94 : I 85 35 = I 0 9 := hK.nk.symm
      rw [r94]; clear r94
      refine q_iconst (show mE (mtv 220) 6 = some (.iconst 1, 1, 0, 0) from rfl) kI_1 ?_
      refine q_isub (show mE (mtv 220) 7 = some (.isub, 1, 0, 0) from rfl) ?_
      refine q_staticP (show mE (mtv 220) 8 = some (.invokestatic 157, 3, 211, 0) from rfl) (by decide) rfl rfl rfl (fun _ g => sp_211 g) ?_
      refine q_ireturn (show mE (mtv 220) 11 = some (.ireturn, 1, 0, 0) from rfl) ?_
      refine qK_v ?_
      refine q_ifb_ne (t := 13) (show mE (mtv 283) 6 = some (.ifCond .ne 7, 3, 0, 0) from rfl) rfl (fun c95 => ?_) (fun c95 => ?_)
      · exfalso
        have s96 := hK.bk
        unfold inR at s96
        have s97 := i32_sub1 (x := I 0 9) (by omega)
        simp only [s97, Int32.lt_iff_toInt_lt, Int32.le_iff_toInt_le, ← Int32.toInt_inj, kt_0, kt_1] at c3 c14 c95
        first | omega | contradiction
      · clear c95
        refine q_iconst (show mE (mtv 283) 9 = some (.iconst 1, 1, 0, 0) from rfl) kI_1 ?_
        refine q_goto (t := 37) (show mE (mtv 283) 10 = some (.goto 27, 3, 0, 0) from rfl) rfl ?_
        refine q_putI th (show mE (mtv 283) 37 = some (.putfield 138, 3, 9, 42) from rfl) (by decide) rfl (fun h98 t99 => ?_)
        refine q_aload_n (show mE (mtv 283) 40 = some (.aload_n 0, 1, 0, 0) from rfl) (hl92 0 _ rfl) ?_
        refine q_getIe t99 (show mE (mtv 283) 41 = some (.getfield 138, 3, 9, 42) from rfl) (by decide) rfl (upI_s) ?_
        refine q_iff (t := 49) (show mE (mtv 283) 44 = some (.ifCond .le 5, 3, 0, 0) from rfl) (by decide) rfl ?_
        refine q_iconst (show mE (mtv 283) 47 = some (.iconst 0, 1, 0, 0) from rfl) kI_0 ?_
        refine q_ireturn (show mE (mtv 283) 48 = some (.ireturn, 1, 0, 0) from rfl) ?_
        exact ⟨(1 : Int32), (0 : Int32), _, _, _, rfl, rfl, t99, (RK_t (1 : Int32) hK)⟩
theorem ok_42 {h : sH} {I : Nat → Nat → Int32} {L : Nat → Nat → Int64} {R : Nat → Nat} (th : qH h I L R) (hK : RK I L R) (hG : RG I) {a1 : Int32} {r : sR} (gW : qGo 170 [.ref (0), .int (a1), .ref (117)] h r) : ∀ r2 : sR, qGo 283 [.ref (85), .int (a1)] r.2 r2 → opX r.1 r2.1 r2.2 RK := qp_42 th hK hG gW
  (fun _ _ _ c16 c27 _ _ _ _ _ _ => absurd c16 c27)
  (fun c3 c14 _ c16 _ _ j46 e49 _ _ c59 => by
    obtain ⟨a, ha, rfl⟩ := hK.gk c3 c14
    have hkb := hK.mi.kb
    rw [ofN_clamp (show a < 2147483648 by omega)] at c16 c59 e49
    rw [grE hK e49 89 a (by omega), hK.kh a (by omega)] at c59
    exact absurd c59 c16)
  (fun c3 c14 _ c16 _ c41 j46 e49 _ _ _ _ h64 t65 N lv hl => by
    obtain ⟨a, ha, rfl⟩ := hK.gk c3 c14
    have hm := hK.mi
    have hkb := hm.kb
    rw [ofN_clamp (show a < 2147483648 by omega)] at e49
    have E := grE hK e49
    have eM : ∀ x b, ¬ (x = 85 ∧ b = 42) → ¬ (19 ≤ x ∧ x ≤ 34 ∧ (b = 4 ∨ b = 5)) → upI j46 85 42 (0 : Int32) x b = I x b := fun x b q1 q2 => (upI_ne q1).trans (E x b q2)
    refine qW_mono ?_ (fl_283 N _ _ _ lv h64 t65 hl)
    rintro r ⟨n, x, e, h1, rfl, q2⟩
    obtain ⟨x1, x2, x3⟩ := sem_283 ((eM 85 35 (by omega) (by omega)).trans hm.k) hkb ha n _ 0 x (Nat.zero_le _) (fun k _ => (if_neg (fun z => absurd z.1 (Nat.not_lt_zero k))).symm) (fun _ _ _ => rfl) e
    have i96 : ∀ k, upI j46 85 42 (0 : Int32) 96 k = I 96 k := fun k => eM 96 k (by omega) (by omega)
    have i92 : ∀ k, upI j46 85 42 (0 : Int32) 92 k = I 92 k := fun k => eM 92 k (by omega) (by omega)
    simp only [i96, i92] at x2
    refine ⟨0, x.1, x.2, _, R, rfl, rfl, q2, RK_L (RK_lenOp hK ha e49 (fun k hk => by rw [x2 k hk, eM 89 k (by omega) (by omega)]) (fun k hk nz => ?_) (fun c b z1 z2 => by rw [x3 c b (fun w => z1 ⟨.inl w.1, w.2⟩), upI_ne z2]))⟩
    rw [x2 k hk] at nz
    by_cases z : I 96 k = I 96 a ∧ I 92 k = 0
    · rw [if_pos z] at nz
      exact absurd rfl nz
    · rw [if_neg z, x3 90 k (by omega), eM 90 k (by omega) (by omega)])
  (fun c3 c14 _ _ _ c41 j46 e49 _ _ _ c63 => by
    obtain ⟨a, ha, rfl⟩ := hK.gk c3 c14
    have hkb := hK.mi.kb
    rw [ofN_clamp (show a < 2147483648 by omega)] at c41 c63 e49
    rw [grE hK e49 92 a (by omega), hK.kl a (by omega)] at c63
    exact absurd c41 c63)
  (fun c3 c14 _ _ _ _ j46 e49 _ c57 => by
    obtain ⟨a, ha, rfl⟩ := hK.gk c3 c14
    have hkb := hK.mi.kb
    rw [ofN_clamp (show a < 2147483648 by omega)] at e49
    refine absurd ?_ c57
    rw [grE hK e49 85 35 (by omega), hK.mi.k]
    exact in_rng ha (by omega))
