/-! part 78: the machine, a new key, a new block -/
theorem RK_told0 {I J : Nat → Nat → Int32} {L K : Nat → Nat → Int64} {R : Nat → Nat} (h : RK I L R) (e : ∀ a b, ¬ scr a b → ¬ ((a = 1 ∧ b = 6) ∨ (a = 85 ∧ b = 34)) → J a b = I a b) (e1 : J 1 6 = 0) (e2 : J 85 34 = 0) (eL0 : ∀ k, k < 16 → K (19 + k) 0 = L (19 + k) 0) (eL1 : K 1 5 = 0) (eL15 : ∀ b, K 15 b = L 15 b) : RK J K R := by
  have q : szI J = 0 := by
    show (J 85 34).toNatClampNeg = 0
    rw [e2]; rfl
  refine RK_up_told h e eL0 eL15 (MI_up_told h.mi e ?_ ?_ ?_ ?_) ?_ ?_
  · rw [q, e2]; rfl
  · rw [q]; exact Nat.zero_le _
  · intro c hc; rw [q] at hc; exact absurd hc (Nat.not_lt_zero c)
  · intro c hc; rw [q] at hc; exact absurd hc (Nat.not_lt_zero _)
  · rw [e1, e2]
  · rw [q, eL1]; exact isCuts_0
/-! a new block -/
noncomputable def pfx (I : Nat → Nat → Int32) (sz len b : Nat) : Prop := ∀ c, c < sz → c < len → I 87 c = I 105 (6 * b + c)
noncomputable def blkC (I : Nat → Nat → Int32) (sz nb : Nat) (r : Int32 × (Nat → Nat → Int32)) : Prop := r.1 = Int32.ofNat nb ∧ r.2 104 nb = Int32.ofNat sz ∧ r.2 85 34 = 0 ∧ r.2 85 46 = Int32.ofNat (nb + 1) ∧ r.2 85 42 = 0 ∧ (∀ c, c < sz → r.2 105 (6 * nb + c) = I 87 c) ∧ ∀ a b, ¬ (a = 104 ∧ b = nb) → ¬ (a = 85 ∧ (b = 34 ∨ b = 46 ∨ b = 42)) → ¬ (a = 105 ∧ 6 * nb ≤ b) → r.2 a b = I a b
noncomputable def blkR (I : Nat → Nat → Int32) (len : Nat → Nat) (sz nb : Nat) (r : Int32 × (Nat → Nat → Int32)) : Prop := (sz = 0 ∧ r = (0, upI I 85 42 1)) ∨ (¬ sz = 0 ∧ (¬ ∀ b, b < nb → ¬ pfx I sz (len b) b) ∧ r = (0, upI I 85 42 2)) ∨ (¬ sz = 0 ∧ (∀ b, b < nb → ¬ pfx I sz (len b) b) ∧ nb = 4 ∧ r = (0, upI I 85 42 3)) ∨ (¬ sz = 0 ∧ (∀ b, b < nb → ¬ pfx I sz (len b) b) ∧ ¬ nb = 4 ∧ blkC I sz nb r)
theorem sem_266c {I : Nat → Nat → Int32} {sz nb : Nat} {x1 x3 x4 : Int32} (es : I 85 34 = Int32.ofNat sz) (hs : sz ≤ 6) (eb : I 85 46 = Int32.ofNat nb) (hb : nb ≤ 4) : ∀ n J j r, j ≤ sz → (∀ a b, ¬ (a = 85 ∧ b = 42) → ¬ (a = 105 ∧ 6 * nb ≤ b) → J a b = I a b) → J 85 42 = 0 → (∀ c, c < j → J 105 (6 * nb + c) = I 87 c) → F_266 n 142 J x1 (Int32.ofNat j) x3 x4 = some r → blkC I sz nb r
  | 0, _, _, _, _, _, _, _, h => by cases h
  | n + 1, J, j, r, hj, ha, h0, hd, h => by
    simp only [F_266, reduceIte] at h
    rw [ha 85 34 (by omega) (by omega), ha 85 46 (by omega) (by omega), es, eb, ofN_clamp (show nb < 2147483648 by omega)] at h
    by_cases g : Int32.ofNat sz ≤ Int32.ofNat j
    · have := (oN_le (by omega) (by omega)).mp g
      rw [if_pos g, i32_p1m1, oN_s] at h
      cases h
      refine ⟨rfl, ?_, ?_, (by dsimp only; rw [upI_s, oN_s]), ?_, fun c hc => ?_, fun a b q1 q2 q3 => ?_⟩
      · dsimp only; rw [upI_ne (by omega), upI_ne (by omega), upI_s]
      · dsimp only; rw [upI_ne (by omega), upI_s]
      · dsimp only; rw [upI_ne (by omega), upI_ne (by omega), upI_ne (by omega)]; exact h0
      · dsimp only; rw [upI_ne (by omega), upI_ne (by omega), upI_ne (by omega)]; exact hd c (by omega)
      · dsimp only; rw [upI_ne (by omega), upI_ne (by omega), upI_ne (by omega)]; exact ha a b (by omega) q3
    · have gj := mt (oN_le (by omega) (by omega)).mpr g
      rw [if_neg g, oN_6, ofN_clamp (by omega), ofN_clamp (by omega), oN_s, ha 87 j (by omega) (by omega)] at h
      refine sem_266c es hs eb hb n _ (j + 1) r (by omega) (fun a b q1 q2 => ?_) ?_ (fun c hc => ?_) h
      · rw [upI_ne (by omega)]; exact ha a b q1 q2
      · rw [upI_ne (by omega)]; exact h0
      · by_cases e : c = j
        · subst e; exact upI_s
        · rw [upI_ne (by omega)]; exact hd c (by omega)
theorem sem_266 {I : Nat → Nat → Int32} {sz nb : Nat} {len : Nat → Nat} (es : I 85 34 = Int32.ofNat sz) (hs : sz ≤ 6) (eb : I 85 46 = Int32.ofNat nb) (hb : nb ≤ 4) (hl : ∀ b, b < nb → I 104 b = Int32.ofNat (len b) ∧ len b ≤ 6) : ∀ n,
    (∀ x1 j x3 x4 r, j ≤ nb → (x1 = 0 ↔ ∀ b, b < j → ¬ pfx I sz (len b) b) → F_266 n 4 I x1 (Int32.ofNat j) x3 x4 = some r → blkR I len sz nb r) ∧
    (∀ x1 j x3 c r, j < nb → (x1 = 0 ↔ ∀ b, b < j → ¬ pfx I sz (len b) b) → c ≤ sz → c ≤ len j → (¬ x3 = 0 ↔ ∀ c', c' < c → I 87 c' = I 105 (6 * j + c')) → F_266 n 17 I x1 (Int32.ofNat j) x3 (Int32.ofNat c) = some r → blkR I len sz nb r)
  | 0 => ⟨fun _ _ _ _ _ _ _ h => (by cases h), fun _ _ _ _ _ _ _ _ _ _ h => (by cases h)⟩
  | n + 1 => by
    obtain ⟨ihA, ihB⟩ := sem_266 es hs eb hb hl n
    refine ⟨fun x1 j x3 x4 r hj h1 h => ?_, fun x1 j x3 c r hj h1 hc1 hc2 h3 h => ?_⟩
    · simp only [F_266, reduceIte] at h
      rw [es, eb] at h
      by_cases g : Int32.ofNat nb ≤ Int32.ofNat j
      · have := (oN_le (by omega) (by omega)).mp g
        have ej : j = nb := by omega
        subst ej
        rw [if_pos g] at h
        by_cases z : sz = 0
        · rw [if_pos (by rw [z]; rfl)] at h
          cases h
          exact .inl ⟨z, rfl⟩
        · rw [if_neg (show ¬ Int32.ofNat sz = 0 from fun q => z ((oN_inj (b := 0) (by omega) (by omega)).mp q))] at h
          by_cases y : x1 = 0
          · rw [if_pos y] at h
            by_cases w : j = 4
            · rw [if_pos (by rw [w]; rfl)] at h
              cases h
              exact .inr (.inr (.inl ⟨z, h1.mp y, w, rfl⟩))
            · rw [if_neg (show ¬ Int32.ofNat j = 4 from fun q => w ((oN_inj (b := 4) (by omega) (by omega)).mp q))] at h
              exact .inr (.inr (.inr ⟨z, h1.mp y, w, sem_266c es hs eb hb n _ 0 r (Nat.zero_le _) (fun a b q1 _ => upI_ne q1) upI_s (fun c hc => absurd hc (Nat.not_lt_zero c)) h⟩))
          · rw [if_neg y] at h
            cases h
            exact .inr (.inl ⟨z, fun q => y (h1.mpr q), rfl⟩)
      · have gj := mt (oN_le (by omega) (by omega)).mpr g
        rw [if_neg g] at h
        exact ihB x1 j 1 0 r (by omega) h1 (Nat.zero_le _) (Nat.zero_le _) ⟨fun _ c' hc => absurd hc (Nat.not_lt_zero c'), fun _ => by decide⟩ h
    · obtain ⟨l1, l2⟩ := hl j hj
      have fin : (sz ≤ c ∨ len j ≤ c) → (if x1 = 0 then if x3 = 0 then F_266 n 4 I (0 : Int32) (Int32.ofNat (j + 1)) x3 (Int32.ofNat c) else (F_266 n 4 I (1 : Int32) (Int32.ofNat (j + 1)) x3 (Int32.ofNat c)) else (F_266 n 4 I (1 : Int32) (Int32.ofNat (j + 1)) x3 (Int32.ofNat c))) = some r → blkR I len sz nb r := fun hm h => by
        have px : pfx I sz (len j) j ↔ ¬ x3 = 0 := by
          rw [h3]
          exact ⟨fun q c' hc' => q c' (by omega) (by omega), fun q c' q1 q2 => q c' (by omega)⟩
        have ex : ∀ {P : Nat → Prop}, (∀ b, b < j + 1 → P b) ↔ (∀ b, b < j → P b) ∧ P j := fun {P} => by
          constructor
          · exact fun q => ⟨fun b hb => q b (by omega), q j (by omega)⟩
          · rintro ⟨q1, q2⟩ b hb
            by_cases e : b = j
            · rw [e]; exact q2
            · exact q1 b (by omega)
        by_cases y : x1 = 0
        · rw [if_pos y] at h
          by_cases w : x3 = 0
          · rw [if_pos w] at h
            exact ihA 0 (j + 1) _ _ r (by omega) (by rw [ex, px]; exact ⟨fun _ => ⟨h1.mp y, fun q => q w⟩, fun _ => rfl⟩) h
          · rw [if_neg w] at h
            exact ihA 1 (j + 1) _ _ r (by omega) (by rw [ex, px]; exact ⟨fun q => absurd q (by decide), fun q => absurd w q.2⟩) h
        · rw [if_neg y] at h
          exact ihA 1 (j + 1) _ _ r (by omega) (by rw [ex]; exact ⟨fun q => absurd q (by decide), fun q => absurd (h1.mpr q.1) y⟩) h
      simp only [F_266, reduceIte] at h
      rw [es, ofN_clamp (show j < 2147483648 by omega), l1, oN_6, ofN_clamp (show c < 2147483648 by omega), ofN_clamp (show 6 * j + c < 2147483648 by omega), oN_s, oN_s] at h
      by_cases g : Int32.ofNat sz ≤ Int32.ofNat c
      · rw [if_pos g] at h
        exact fin (.inl ((oN_le (by omega) (by omega)).mp g)) h
      · rw [if_neg g] at h
        have gs := mt (oN_le (by omega) (by omega)).mpr g
        by_cases g2 : Int32.ofNat (len j) ≤ Int32.ofNat c
        · rw [if_pos g2] at h
          exact fin (.inr ((oN_le (by omega) (by omega)).mp g2)) h
        · rw [if_neg g2] at h
          have gl := mt (oN_le (by omega) (by omega)).mpr g2
          have ex : ∀ {P : Nat → Prop}, (∀ b, b < c + 1 → P b) ↔ (∀ b, b < c → P b) ∧ P c := fun {P} => by
            constructor
            · exact fun q => ⟨fun b hb => q b (by omega), q c (by omega)⟩
            · rintro ⟨q1, q2⟩ b hb
              by_cases e : b = c
              · rw [e]; exact q2
              · exact q1 b (by omega)
          by_cases w : x3 = 0
          · rw [if_pos w] at h
            refine ihB x1 j 0 (c + 1) r hj h1 (by omega) (by omega) ?_ h
            rw [ex]
            exact ⟨fun q => absurd rfl q, fun q => absurd w (h3.mpr q.1)⟩
          · rw [if_neg w] at h
            by_cases y : I 87 c = I 105 (6 * j + c)
            · rw [if_pos y] at h
              refine ihB x1 j 1 (c + 1) r hj h1 (by omega) (by omega) ?_ h
              rw [ex]
              exact ⟨fun _ => ⟨h3.mp w, y⟩, fun _ => by decide⟩
            · rw [if_neg y] at h
              refine ihB x1 j 0 (c + 1) r hj h1 (by omega) (by omega) ?_ h
              rw [ex]
              exact ⟨fun q => absurd rfl q, fun q => absurd q.2 y⟩
/-- the same question, of the class -/
theorem blk_pre {I : Nat → Nat → Int32} {L : Nat → Nat → Int64} {R : Nat → Nat} (h : RK I L R) {b : Nat} (hb : b < nbI I) : ((L 1 5 &&& (L 15 b ^^^ 18446744073709551615)) = 0 ∨ (L 15 b &&& (L 1 5 ^^^ 18446744073709551615)) = 0) ↔ pfx I (szI I) (I 104 b).toNatClampNeg b := by
  have hm := h.mi
  have sc := hm.sc
  have c6 := hm.c6
  have m6 := hm.m6
  obtain ⟨ln, l1, l2, l3⟩ := hm.bs b hb
  have tb' : ∀ c, c < szI I → (I 87 c).toNatClampNeg < 8 ∧ I 87 c = Int32.ofNat (I 87 c).toNatClampNeg := fun c hc => by
    obtain ⟨e, e1, e2⟩ := hm.told c hc
    rw [e2, ofN_clamp (by omega)]; exact ⟨by omega, rfl⟩
  have bb' : ∀ c, c < (I 104 b).toNatClampNeg → (I 105 (6 * b + c)).toNatClampNeg < 8 ∧ I 105 (6 * b + c) = Int32.ofNat (I 105 (6 * b + c)).toNatClampNeg := fun c hc => by
    obtain ⟨e, e1, e2⟩ := hm.bd b c hb hc
    rw [e2, ofN_clamp (by omega)]; exact ⟨by omega, rfl⟩
  have el : (I 104 b).toNatClampNeg = ln := by rw [l3, ofN_clamp (by omega)]
  rw [letIn_iff h.to (by omega) (fun c hc => (tb' c hc).1), letIn_iff (h.bl b hb) (by omega) (fun c hc => (bb' c hc).1)]
  have k1 : ∀ c, c < szI I → (lb (L 15 b) (8 * c + (I 87 c).toNatClampNeg) = true ↔ c < (I 104 b).toNatClampNeg ∧ (I 105 (6 * b + c)).toNatClampNeg = (I 87 c).toNatClampNeg) := fun c hc => by
    rw [h.bl b hb c _ (tb' c hc).1, decide_eq_true_eq]
  have k2 : ∀ c, c < (I 104 b).toNatClampNeg → (lb (L 1 5) (8 * c + (I 105 (6 * b + c)).toNatClampNeg) = true ↔ c < szI I ∧ (I 87 c).toNatClampNeg = (I 105 (6 * b + c)).toNatClampNeg) := fun c hc => by
    rw [h.to c _ (bb' c hc).1, decide_eq_true_eq]
  constructor
  · rintro (q | q) c h1 h2
    · rw [(tb' c h1).2, (bb' c h2).2, ((k1 c h1).mp (q c h1)).2]
    · rw [(tb' c h1).2, (bb' c h2).2, ((k2 c h2).mp (q c h2)).2]
  · intro q
    by_cases g : szI I ≤ (I 104 b).toNatClampNeg
    · exact .inl (fun c hc => (k1 c hc).mpr ⟨by omega, by rw [q c hc (by omega)]⟩)
    · exact .inr (fun c hc => (k2 c hc).mpr ⟨by omega, by rw [q c (by omega) hc]⟩)
theorem cnt_133 {I : Nat → Nat → Int32} {L : Nat → Nat → Int64} {R : Nat → Nat} (h : RK I L R) : ∀ m j, j + m ≤ nbI I → (G_133 L (L 1 5) j m = true ↔ ¬ ∀ b, j ≤ b → b < j + m → ¬ pfx I (szI I) (I 104 b).toNatClampNeg b)
  | 0, j, _ => ⟨fun z => (by cases z), fun z => absurd (fun b h1 h2 => absurd h2 (by omega)) z⟩
  | m + 1, j, hj => by
    have ih := cnt_133 h m (j + 1) (by omega)
    have hb4 := h.mi.bb
    have pj := blk_pre h (b := j) (by omega)
    have ex : (∀ b, j ≤ b → b < j + (m + 1) → ¬ pfx I (szI I) (I 104 b).toNatClampNeg b) ↔ ¬ pfx I (szI I) (I 104 j).toNatClampNeg j ∧ ∀ b, j + 1 ≤ b → b < j + 1 + m → ¬ pfx I (szI I) (I 104 b).toNatClampNeg b := by
      constructor
      · exact fun q => ⟨q j (by omega) (by omega), fun b h1 h2 => q b (by omega) (by omega)⟩
      · rintro ⟨q1, q2⟩ b h1 h2
        by_cases e : b = j
        · rw [e]; exact q1
        · exact q2 b (by omega) (by omega)
    rw [ex]
    show (if _ then _ else (if _ then _ else _)) = true ↔ _
    rw [ofN_clamp (by omega)]
    by_cases g1 : (L 1 5 &&& (L 15 j ^^^ 18446744073709551615)) = 0
    · rw [if_pos g1]
      exact ⟨fun _ q => q.1 (pj.mp (.inl g1)), fun _ => rfl⟩
    · rw [if_neg g1]
      by_cases g2 : (L 15 j &&& (L 1 5 ^^^ 18446744073709551615)) = 0
      · rw [if_pos g2]
        exact ⟨fun _ q => q.1 (pj.mp (.inr g2)), fun _ => rfl⟩
      · rw [if_neg g2, ih]
        have np : ¬ pfx I (szI I) (I 104 j).toNatClampNeg j := fun z => (pj.mpr z).elim g1 g2
        exact ⟨fun q z => q z.2, fun q z => q ⟨np, z⟩⟩
theorem RK.n12 {I : Nat → Nat → Int32} {L : Nat → Nat → Int64} {R : Nat → Nat} (h : RK I L R) : (I 0 12).toNatClampNeg = nbI I := by rw [h.nb]; rfl
theorem pfx_cg {I J : Nat → Nat → Int32} {sz l b : Nat} (e : ∀ b, J 87 b = I 87 b) (e' : ∀ b, J 105 b = I 105 b) : pfx J sz l b ↔ pfx I sz l b := by
  unfold pfx
  simp only [e, e']
theorem RK_blk {I M J : Nat → Nat → Int32} {L K : Nat → Nat → Int64} {R : Nat → Nat} (h : RK I L R) (hz : ¬ szI I = 0) (hb : nbI I < 4) (hp : ∀ b, b < nbI I → ¬ pfx I (szI I) (I 104 b).toNatClampNeg b) (eM : ∀ a b, ¬ (a = 0 ∧ b = 12) → ¬ (a = 1 ∧ b = 6) → M a b = I a b) (m1 : M 0 12 = Int32.ofNat (nbI I + 1)) (m2 : M 1 6 = 0) {v : Int32} (c : blkC M (szI I) (nbI I) (v, J)) (k0 : ∀ k, k < 16 → K (19 + k) 0 = L (19 + k) 0) (k1 : K 1 5 = 0) (k2 : K 15 (nbI I) = L 1 5) (k3 : ∀ b, b < nbI I → K 15 b = L 15 b) : RK J K R := by
  obtain ⟨_, c104, c34, c46, c42, c105, ce⟩ := c
  dsimp only at c104 c34 c46 c42 c105 ce
  have hm := h.mi
  have sc := hm.sc
  have c6 := hm.c6
  have e : ∀ a b, ¬ scr a b → ¬ (a = 104 ∨ a = 105 ∨ (a = 0 ∧ b = 12) ∨ (a = 1 ∧ b = 6) ∨ (a = 85 ∧ b = 46) ∨ (a = 85 ∧ b = 34)) → J a b = I a b := fun a b q1 q2 => by
    rw [ce a b (by omega) (fun z => by unfold scr at q1; omega) (by omega), eM a b (by omega) (by omega)]
  have q_nb : nbI J = nbI I + 1 := by
    show (J 85 46).toNatClampNeg = _
    rw [c46, ofN_clamp (by omega)]
  have q_sz : szI J = 0 := by
    show (J 85 34).toNatClampNeg = 0
    rw [c34]; rfl
  have q_nc : ncI J = ncI I := congrArg Int32.toNatClampNeg (e 85 31 (by unfold scr; omega) (by omega))
  have q_md : mdI J = mdI I := congrArg Int32.toNatClampNeg (e 85 32 (by unfold scr; omega) (by omega))
  have o104 : ∀ b, b < nbI I → J 104 b = I 104 b := fun b hb' => by
    rw [ce 104 b (by omega) (by omega) (by omega), eM 104 b (by omega) (by omega)]
  have o105 : ∀ b c, b < nbI I → c < 6 → J 105 (6 * b + c) = I 105 (6 * b + c) := fun b c hb' hc => by
    rw [ce 105 _ (by omega) (by omega) (by omega), eM 105 _ (by omega) (by omega)]
  have n105 : ∀ c, c < szI I → J 105 (6 * nbI I + c) = I 87 c := fun c hc => by
    rw [c105 c hc, eM 87 c (by omega) (by omega)]
  have ln : ∀ b, b < nbI I → (I 104 b).toNatClampNeg ≤ 6 := fun b hb' => by
    obtain ⟨x, x1, x2, x3⟩ := hm.bs b hb'
    rw [x3, ofN_clamp (by omega)]; omega
  have l104 : (J 104 (nbI I)).toNatClampNeg = szI I := by rw [c104, ofN_clamp (by omega)]
  have ne : ∀ b, b < nbI I → ∃ c, c < szI I ∧ c < (I 104 b).toNatClampNeg ∧ I 87 c ≠ I 105 (6 * b + c) := fun b hb' => by
    refine Classical.byContradiction (fun z => hp b hb' (fun c q1 q2 => ?_))
    exact Classical.byContradiction (fun y => z ⟨c, q1, q2, y⟩)
  refine RK_up_blk h e k0 (MI_up_blk hm e ?_ ?_ ?_ ?_ ?_ ?_ ?_ ?_ ?_) ?_ ?_ ?_ ?_
  · rw [q_sz, c34]; rfl
  · rw [q_sz]; exact Nat.zero_le _
  · rw [q_nb, c46]
  · rw [q_nb]; omega
  · intro c hc; rw [q_sz] at hc; exact absurd hc (Nat.not_lt_zero c)
  · intro c hc; rw [q_sz] at hc; exact absurd hc (Nat.not_lt_zero _)
  · intro b hb'
    rw [q_nb] at hb'
    rw [q_nc]
    by_cases g : b = nbI I
    · subst g; exact ⟨szI I, by omega, sc, c104⟩
    · rw [o104 b (by omega)]; exact hm.bs b (by omega)
  · intro b c hb' hc
    rw [q_nb] at hb'
    rw [q_md]
    by_cases g : b = nbI I
    · subst g
      rw [l104] at hc
      rw [n105 c hc]; exact hm.told c hc
    · rw [o104 b (by omega)] at hc
      have := ln b (by omega)
      rw [o105 b c (by omega) (by omega)]; exact hm.bd b c (by omega) hc
  · intro a b ha hb' hab
    rw [q_nb] at ha hb'
    by_cases g1 : a = nbI I
    · have g2 : b < nbI I := by omega
      obtain ⟨c, x1, x2, x3⟩ := ne b g2
      have := ln b g2
      subst g1
      exact ⟨c, by rw [l104]; exact x1, by rw [o104 b g2]; exact x2, by rw [n105 c x1, o105 b c g2 (by omega)]; exact x3⟩
    · have g1' : a < nbI I := by omega
      have la := ln a g1'
      by_cases g2 : b = nbI I
      · obtain ⟨c, x1, x2, x3⟩ := ne a g1'
        subst g2
        exact ⟨c, by rw [o104 a g1']; exact x2, by rw [l104]; exact x1, by rw [n105 c x1, o105 a c g1' (by omega)]; exact fun z => x3 z.symm⟩
      · have g2' : b < nbI I := by omega
        have lb := ln b g2'
        obtain ⟨c, x1, x2, x3⟩ := hm.bp a b g1' g2' hab
        exact ⟨c, by rw [o104 a g1']; exact x1, by rw [o104 b g2']; exact x2, by rw [o105 a c g1' (by omega), o105 b c g2' (by omega)]; exact x3⟩
  · rw [ce 1 6 (by omega) (by omega) (by omega), m2, c34]
  · rw [ce 0 12 (by omega) (by omega) (by omega), m1, c46]
  · rw [q_sz, k1]; exact isCuts_0
  · intro b hb'
    rw [q_nb] at hb'
    by_cases g : b = nbI I
    · subst g
      rw [k2, l104]
      exact isCuts_cg h.to (fun c hc => by rw [n105 c hc])
    · rw [k3 b (by omega), o104 b (by omega)]
      exact isCuts_cg (h.bl b (by omega)) (fun c hc => by
        have := ln b (by omega)
        rw [o105 b c (by omega) (by omega)])
/-! a new key -/
theorem qg_216 {h : sH} {r : sR} {Q : sR → Prop} (g : qGo 216 [.ref (85)] h r)
    (p1 : ∀ N lv, qLs lv [some (.ref (85)), some (.int ((0 : Int32)))] → qW 216 N 2 lv [] h Q) : Q r := by
  refine qGo_w g (fun N => ?_)
  have hl0 : qLs (lv_args 0 [.ref (85)]) [some (.ref (85)), none] := qLs_ar 1
  refine q_iconst (show mE (mtv 216) 0 = some (.iconst 0, 1, 0, 0) from rfl) kI_0 ?_
  refine q_istore_n (show mE (mtv 216) 1 = some (.istore_n 1, 1, 0, 0) from rfl) (Nat.le_of_ble_eq_true rfl) hl0 (fun lv1 (hl2 : qLs lv1 [some (.ref (85)), some (.int ((0 : Int32)))]) => ?_)
  exact p1 _ lv1 (qLs_wk hl2 (⟨rfl, rfl, trivial⟩))
theorem qg_216_2 {N : Nat} {lv : sL} {h : sH} {Q : sR → Prop} {x1 : Int32} {I : Nat → Nat → Int32} {L : Nat → Nat → Int64} {R : Nat → Nat} (th : qH h I L R) (hl : qLs lv [some (.ref (85)), some (.int (x1))])
    (p1 : ∀ (c1 : (I 85 31) ≤ x1), ∀ (c2 : (I 85 31) ≤ (I 85 34)), ∀ (v3 : Int32), ∀ (e4 : smP I v3), ∀ (c5 : v3 = (-1 : Int32)), ∀ (c6 : ¬ (I 85 35) = (16 : Int32)), ∀ (v15 : Int32), ∀ (j11 : Nat → Nat → Int32), ∀ (h12 : sH), ∀ (t13 : qH h12 j11 L R), ∀ (e14 : adP (upI (upI I 85 42 (0 : Int32)) 85 34 (0 : Int32)) (0 : Int32) j11 v15), Q (.inl (some (.int (v15))), h12))
    (p2 : ∀ (c1 : (I 85 31) ≤ x1), ∀ (c2 : (I 85 31) ≤ (I 85 34)), ∀ (v3 : Int32), ∀ (e4 : smP I v3), ∀ (c5 : v3 = (-1 : Int32)), ∀ (c6 : (I 85 35) = (16 : Int32)), ∀ (h16 : sH), ∀ (t17 : qH h16 (upI I 85 42 (3 : Int32)) L R), Q (.inl (some (.int ((0 : Int32)))), h16))
    (p3 : ∀ (c1 : (I 85 31) ≤ x1), ∀ (c2 : (I 85 31) ≤ (I 85 34)), ∀ (v3 : Int32), ∀ (e4 : smP I v3), ∀ (c5 : ¬ v3 = (-1 : Int32)), ∀ (h18 : sH), ∀ (t19 : qH h18 (upI I 85 42 (2 : Int32)) L R), Q (.inl (some (.int ((0 : Int32)))), h18))
    (p4 : ∀ (c1 : (I 85 31) ≤ x1), ∀ (c2 : ¬ (I 85 31) ≤ (I 85 34)), ∀ (h20 : sH), ∀ (t21 : qH h20 (upI I 85 42 (1 : Int32)) L R), Q (.inl (some (.int ((0 : Int32)))), h20))
    (p5 : ∀ (c1 : ¬ (I 85 31) ≤ x1), ∀ (bb22 : sIn x1 6 = true), ∀ (h24 : sH), ∀ (t25 : qH h24 (upI I 91 ((x1).toNatClampNeg) (I 87 ((x1).toNatClampNeg))) L R), ∀ lv, qLs lv [some (.ref (85)), some (.int (x1 + (1 : Int32)))] → qW 216 N 2 lv [] h24 Q) : qW 216 (N + 1) 2 lv [] h Q := by
  refine q1_iload_n (show mE (mtv 216) 2 = some (.iload_n 1, 1, 0, 0) from rfl) (hl 1 _ rfl) ?_
  refine q_aload_n (show mE (mtv 216) 3 = some (.aload_n 0, 1, 0, 0) from rfl) (hl 0 _ rfl) ?_
  refine q_getI th (show mE (mtv 216) 4 = some (.getfield 104, 3, 9, 31) from rfl) (by decide) rfl ?_
  refine q_ic_ge (t := 28) (show mE (mtv 216) 7 = some (.if_icmp .ge 21, 3, 0, 0) from rfl) rfl (fun c1 => ?_) (fun c1 => ?_)
  · refine q_aload_n (show mE (mtv 216) 28 = some (.aload_n 0, 1, 0, 0) from rfl) (hl 0 _ rfl) ?_
    refine q_aload_n (show mE (mtv 216) 29 = some (.aload_n 0, 1, 0, 0) from rfl) (hl 0 _ rfl) ?_
    refine q_getI th (show mE (mtv 216) 30 = some (.getfield 114, 3, 9, 34) from rfl) (by decide) rfl ?_
    refine q_aload_n (show mE (mtv 216) 33 = some (.aload_n 0, 1, 0, 0) from rfl) (hl 0 _ rfl) ?_
    refine q_getI th (show mE (mtv 216) 34 = some (.getfield 104, 3, 9, 31) from rfl) (by decide) rfl ?_
    refine q_ic_ge (t := 44) (show mE (mtv 216) 37 = some (.if_icmp .ge 7, 3, 0, 0) from rfl) rfl (fun c2 => ?_) (fun c2 => ?_)
    · refine q_aload_n (show mE (mtv 216) 44 = some (.aload_n 0, 1, 0, 0) from rfl) (hl 0 _ rfl) ?_
      refine q_virtualE (show mE (mtv 216) 45 = some (.invokevirtual 169, 3, 217, 9) from rfl) (by decide) rfl rfl rfl (fun _ g => sp_217 th g) ?_
      rintro _ ⟨v3, rfl, e4⟩
      refine qK_v ?_
      refine q_iconst (show mE (mtv 216) 48 = some (.iconst (-1), 1, 0, 0) from rfl) kI_m1 ?_
      refine q_ic_eq (t := 56) (show mE (mtv 216) 49 = some (.if_icmp .eq 7, 3, 0, 0) from rfl) rfl (fun c5 => ?_) (fun c5 => ?_)
      · refine q_aload_n (show mE (mtv 216) 56 = some (.aload_n 0, 1, 0, 0) from rfl) (hl 0 _ rfl) ?_
        refine q_getI th (show mE (mtv 216) 57 = some (.getfield 117, 3, 9, 35) from rfl) (by decide) rfl ?_
        refine q_bipush (show mE (mtv 216) 60 = some (.bipush 16, 2, 0, 0) from rfl) kB_16 ?_
        refine q_ic_ne (t := 69) (show mE (mtv 216) 62 = some (.if_icmp .ne 7, 3, 0, 0) from rfl) rfl (fun c6 => ?_) (fun c6 => ?_)
        · refine q_iconst (show mE (mtv 216) 69 = some (.iconst 0, 1, 0, 0) from rfl) kI_0 ?_
          refine q_putI th (show mE (mtv 216) 70 = some (.putfield 138, 3, 9, 42) from rfl) (by decide) rfl (fun h7 t8 => ?_)
          refine q_aload_n (show mE (mtv 216) 73 = some (.aload_n 0, 1, 0, 0) from rfl) (hl 0 _ rfl) ?_
          refine q_getIe t8 (show mE (mtv 216) 74 = some (.getfield 138, 3, 9, 42) from rfl) (by decide) rfl (upI_s) ?_
          refine q_ift (t := 82) (show mE (mtv 216) 77 = some (.ifCond .le 5, 3, 0, 0) from rfl) (by decide) rfl ?_
          refine q_aload_n (show mE (mtv 216) 82 = some (.aload_n 0, 1, 0, 0) from rfl) (hl 0 _ rfl) ?_
          refine q_iconst (show mE (mtv 216) 83 = some (.iconst 0, 1, 0, 0) from rfl) kI_0 ?_
          refine q_putI t8 (show mE (mtv 216) 84 = some (.putfield 114, 3, 9, 34) from rfl) (by decide) rfl (fun h9 t10 => ?_)
          refine q_aload_n (show mE (mtv 216) 87 = some (.aload_n 0, 1, 0, 0) from rfl) (hl 0 _ rfl) ?_
          refine q_iconst (show mE (mtv 216) 88 = some (.iconst 0, 1, 0, 0) from rfl) kI_0 ?_
          refine q_virtualE (show mE (mtv 216) 89 = some (.invokevirtual 172, 3, 218, 9) from rfl) (by decide) rfl rfl rfl (fun _ g => sp_218 t10 g) ?_
          rintro _ ⟨v15, j11, h12, rfl, t13, e14⟩
          refine qK_v ?_
          refine q_ireturn (show mE (mtv 216) 92 = some (.ireturn, 1, 0, 0) from rfl) ?_
          exact p1 c1 c2 v3 e4 c5 c6 v15 j11 h12 t13 e14
        · refine q_iconst (show mE (mtv 216) 65 = some (.iconst 3, 1, 0, 0) from rfl) kI_3 ?_
          refine q_goto (t := 70) (show mE (mtv 216) 66 = some (.goto 4, 3, 0, 0) from rfl) rfl ?_
          refine q_putI th (show mE (mtv 216) 70 = some (.putfield 138, 3, 9, 42) from rfl) (by decide) rfl (fun h16 t17 => ?_)
          refine q_aload_n (show mE (mtv 216) 73 = some (.aload_n 0, 1, 0, 0) from rfl) (hl 0 _ rfl) ?_
          refine q_getIe t17 (show mE (mtv 216) 74 = some (.getfield 138, 3, 9, 42) from rfl) (by decide) rfl (upI_s) ?_
          refine q_iff (t := 82) (show mE (mtv 216) 77 = some (.ifCond .le 5, 3, 0, 0) from rfl) (by decide) rfl ?_
          refine q_iconst (show mE (mtv 216) 80 = some (.iconst 0, 1, 0, 0) from rfl) kI_0 ?_
          refine q_ireturn (show mE (mtv 216) 81 = some (.ireturn, 1, 0, 0) from rfl) ?_
          exact p2 c1 c2 v3 e4 c5 c6 h16 t17
      · refine q_iconst (show mE (mtv 216) 52 = some (.iconst 2, 1, 0, 0) from rfl) kI_2 ?_
        refine q_goto (t := 70) (show mE (mtv 216) 53 = some (.goto 17, 3, 0, 0) from rfl) rfl ?_
        refine q_putI th (show mE (mtv 216) 70 = some (.putfield 138, 3, 9, 42) from rfl) (by decide) rfl (fun h18 t19 => ?_)
        refine q_aload_n (show mE (mtv 216) 73 = some (.aload_n 0, 1, 0, 0) from rfl) (hl 0 _ rfl) ?_
        refine q_getIe t19 (show mE (mtv 216) 74 = some (.getfield 138, 3, 9, 42) from rfl) (by decide) rfl (upI_s) ?_
        refine q_iff (t := 82) (show mE (mtv 216) 77 = some (.ifCond .le 5, 3, 0, 0) from rfl) (by decide) rfl ?_
        refine q_iconst (show mE (mtv 216) 80 = some (.iconst 0, 1, 0, 0) from rfl) kI_0 ?_
        refine q_ireturn (show mE (mtv 216) 81 = some (.ireturn, 1, 0, 0) from rfl) ?_
        exact p3 c1 c2 v3 e4 c5 h18 t19
    · refine q_iconst (show mE (mtv 216) 40 = some (.iconst 1, 1, 0, 0) from rfl) kI_1 ?_
      refine q_goto (t := 70) (show mE (mtv 216) 41 = some (.goto 29, 3, 0, 0) from rfl) rfl ?_
      refine q_putI th (show mE (mtv 216) 70 = some (.putfield 138, 3, 9, 42) from rfl) (by decide) rfl (fun h20 t21 => ?_)
      refine q_aload_n (show mE (mtv 216) 73 = some (.aload_n 0, 1, 0, 0) from rfl) (hl 0 _ rfl) ?_
      refine q_getIe t21 (show mE (mtv 216) 74 = some (.getfield 138, 3, 9, 42) from rfl) (by decide) rfl (upI_s) ?_
      refine q_iff (t := 82) (show mE (mtv 216) 77 = some (.ifCond .le 5, 3, 0, 0) from rfl) (by decide) rfl ?_
      refine q_iconst (show mE (mtv 216) 80 = some (.iconst 0, 1, 0, 0) from rfl) kI_0 ?_
      refine q_ireturn (show mE (mtv 216) 81 = some (.ireturn, 1, 0, 0) from rfl) ?_
      exact p4 c1 c2 h20 t21
  · refine q_aload_n (show mE (mtv 216) 10 = some (.aload_n 0, 1, 0, 0) from rfl) (hl 0 _ rfl) ?_
    refine q_getR (m := 91) th (show mE (mtv 216) 11 = some (.getfield 25, 3, 9, 5) from rfl) (by decide) rfl rfl ?_
    refine q_iload_n (show mE (mtv 216) 14 = some (.iload_n 1, 1, 0, 0) from rfl) (hl 1 _ rfl) ?_
    refine q_aload_n (show mE (mtv 216) 15 = some (.aload_n 0, 1, 0, 0) from rfl) (hl 0 _ rfl) ?_
    refine q_getR (m := 87) th (show mE (mtv 216) 16 = some (.getfield 13, 3, 9, 1) from rfl) (by decide) rfl rfl ?_
    refine q_iload_n (show mE (mtv 216) 19 = some (.iload_n 1, 1, 0, 0) from rfl) (hl 1 _ rfl) ?_
    refine q_iaload (n := 6) th (show mE (mtv 216) 20 = some (.iaload, 1, 0, 0) from rfl) (by decide) rfl (fun bb22 => ?_)
    refine q_iastore (n := 6) th (show mE (mtv 216) 21 = some (.iastore, 1, 0, 0) from rfl) (by decide) rfl (fun bb23 h24 t25 => ?_)
    refine q_iinc (show mE (mtv 216) 22 = some (.iinc 1 1, 3, 0, 0) from rfl) (Nat.le_of_ble_eq_true rfl) hl (hl 1 _ rfl) kI_1 (fun lv26 (hl27 : qLs lv26 [some (.ref (85)), some (.int (x1 + (1 : Int32)))]) => ?_)
    refine q_goto (t := 2) (show mE (mtv 216) 25 = some (.goto (-23), 3, 0, 0) from rfl) rfl ?_
    exact p5 c1 bb22 h24 t25 lv26 (qLs_wk hl27 (⟨rfl, rfl, trivial⟩))
theorem lk_216 {I : Nat → Nat → Int32} {L : Nat → Nat → Int64} {R : Nat → Nat} {Q : sR → Prop} {nc : Nat} (hc : I 85 31 = Int32.ofNat nc) (n6 : nc ≤ 6)
    (p1 : ∀ J, agr 91 J I → (∀ c, c < nc → J 91 c = I 87 c) → I 85 31 ≤ I 85 34 → ∀ v3, smP J v3 → v3 = -1 → ¬ I 85 35 = 16 → ∀ v15 j11 h12, qH h12 j11 L R → adP (upI (upI J 85 42 (0 : Int32)) 85 34 (0 : Int32)) (0 : Int32) j11 v15 → Q (.inl (some (.int v15)), h12))
    (p2 : ∀ J, agr 91 J I → (∀ c, c < nc → J 91 c = I 87 c) → I 85 31 ≤ I 85 34 → ∀ v3, smP J v3 → v3 = -1 → I 85 35 = 16 → ∀ h16, qH h16 (upI J 85 42 (3 : Int32)) L R → Q (.inl (some (.int ((0 : Int32)))), h16))
    (p3 : ∀ J, agr 91 J I → (∀ c, c < nc → J 91 c = I 87 c) → I 85 31 ≤ I 85 34 → ∀ v3, smP J v3 → ¬ v3 = -1 → ∀ h18, qH h18 (upI J 85 42 (2 : Int32)) L R → Q (.inl (some (.int ((0 : Int32)))), h18))
    (p4 : ∀ J, agr 91 J I → ¬ I 85 31 ≤ I 85 34 → ∀ h20, qH h20 (upI J 85 42 (1 : Int32)) L R → Q (.inl (some (.int ((0 : Int32)))), h20)) : ∀ N J j lv h, qH h J L R → agr 91 J I → (∀ c, c < j → J 91 c = I 87 c) → j ≤ nc → qLs lv [some (.ref (85)), some (.int (Int32.ofNat j))] → qW 216 N 2 lv [] h Q
  | 0, _, _, _, _, _, _, _, _, _ => qW_0
  | N + 1, J, j, lv, h, th, ha, hd, hj, hl => by
    have a31 := ha 85 31 (by decide)
    have a34 := ha 85 34 (by decide)
    have a35 := ha 85 35 (by decide)
    have fin : J 85 31 ≤ Int32.ofNat j → ∀ c, c < nc → J 91 c = I 87 c := fun g c hc' => by
      rw [a31, hc] at g
      have := (oN_le (by omega) (by omega)).mp g
      exact hd c (by omega)
    refine qg_216_2 th hl (fun c1 c2 v3 e4 c5 c6 v15 j11 h12 t13 e14 => ?_) (fun c1 c2 v3 e4 c5 c6 h16 t17 => ?_) (fun c1 c2 v3 e4 c5 h18 t19 => ?_) (fun c1 c2 h20 t21 => ?_) (fun c1 _ h24 t25 lv' hl' => ?_)
    · rw [a31, a34] at c2
      rw [a35] at c6
      exact p1 J ha (fin c1) c2 v3 e4 c5 c6 v15 j11 h12 t13 e14
    · rw [a31, a34] at c2
      rw [a35] at c6
      exact p2 J ha (fin c1) c2 v3 e4 c5 c6 h16 t17
    · rw [a31, a34] at c2
      exact p3 J ha (fin c1) c2 v3 e4 c5 h18 t19
    · rw [a31, a34] at c2
      exact p4 J ha c2 h20 t21
    · rw [a31, hc] at c1
      have gj := mt (oN_le (by omega) (by omega)).mpr c1
      rw [ofN_clamp (by omega), ha 87 j (by decide)] at t25
      rw [oN_s] at hl'
      refine lk_216 hc n6 p1 p2 p3 p4 N _ (j + 1) lv' h24 t25 (agr_up ha j _) (fun c hc' => ?_) (by omega) hl'
      by_cases e : c = j
      · subst e; exact upI_s
      · rw [upI_ne (by omega)]; exact hd c (by omega)
theorem cnt_56 {I : Nat → Nat → Int32} {L : Nat → Nat → Int64} {x : Int64} : ∀ m j, j + m ≤ 32 → (G_56 I L x j m = true ↔ ∃ i, j ≤ i ∧ i < j + m ∧ L (19 + i) 0 = x ∧ I (19 + i) 1 = I 1 4)
  | 0, j, _ => ⟨fun z => (by cases z), fun ⟨i, h1, h2, _⟩ => absurd h2 (by omega)⟩
  | m + 1, j, hj => by
    have ih := cnt_56 (I := I) (L := L) (x := x) m (j + 1) (by omega)
    have ex : (∃ i, j ≤ i ∧ i < j + (m + 1) ∧ L (19 + i) 0 = x ∧ I (19 + i) 1 = I 1 4) ↔ (L (19 + j) 0 = x ∧ I (19 + j) 1 = I 1 4) ∨ ∃ i, j + 1 ≤ i ∧ i < j + 1 + m ∧ L (19 + i) 0 = x ∧ I (19 + i) 1 = I 1 4 := by
      constructor
      · rintro ⟨i, h1, h2, h3⟩
        by_cases e : i = j
        · exact .inl (e ▸ h3)
        · exact .inr ⟨i, by omega, by omega, h3⟩
      · rintro (h3 | ⟨i, h1, h2, h3⟩)
        · exact ⟨j, Nat.le_refl j, by omega, h3⟩
        · exact ⟨i, by omega, by omega, h3⟩
    rw [ex, ← ih]
    show (if _ then (if _ then _ else _) else _) = true ↔ _
    rw [ofN_clamp (by omega)]
    by_cases g1 : L (19 + j) 0 = x
    · rw [if_pos g1]
      by_cases g2 : I (19 + j) 1 = I 1 4
      · rw [if_pos g2]; exact ⟨fun _ => .inl ⟨g1, g2⟩, fun _ => rfl⟩
      · rw [if_neg g2]; exact ⟨fun q => .inr q, fun q => q.elim (fun z => absurd z.2 g2) id⟩
    · rw [if_neg g1]; exact ⟨fun q => .inr q, fun q => q.elim (fun z => absurd z.1 g1) id⟩
/-- the told key is there already: of both sides -/
theorem same_E {I J : Nat → Nat → Int32} {L : Nat → Nat → Int64} {R : Nat → Nat} (h : RK I L R) (g14 : I 85 43 = I 1 4) (hs : I 1 1 ≤ I 1 6) (ha : ∀ a b, a ≠ 91 → ¬ (a = 85 ∧ b = 42) → 85 ≤ a → J a b = I a b) (ht : ∀ c, c < ncI I → J 91 c = I 87 c) {v : Int32} (e : smP J v) : (G_56 I L (L 1 5) 0 (I 0 9).toNatClampNeg = true ↔ ¬ v = -1) := by
  have hm := h.mi
  have c6 := hm.c6
  have m6 := hm.m6
  have hkb := hm.kb
  have sc := hm.sc
  have esz : szI I = ncI I := by
    rw [h.c1, h.s1] at hs
    have := (oN_le (by omega) (by omega)).mp hs
    omega
  have h0 := h.to
  rw [esz] at h0
  have td : ∀ c, c < ncI I → (I 87 c).toNatClampNeg < 8 ∧ I 87 c = Int32.ofNat (I 87 c).toNatClampNeg := fun c hc => by
    obtain ⟨e, e1, e2⟩ := hm.told c (by omega)
    rw [e2, ofN_clamp (by omega)]; exact ⟨by omega, rfl⟩
  have sm : ∀ i, i < nkI I → (sameM J (ncI I) i ↔ L (19 + i) 0 = L 1 5 ∧ I (19 + i) 1 = I 1 4) := fun i hi => by
    unfold sameM
    rw [ha 95 i (by decide) (by omega) (by decide), ha 85 43 (by decide) (by omega) (by decide), h.kp i hi, g14]
    constructor
    · rintro ⟨q1, q2⟩
      refine ⟨isCuts_inj (h.kc i hi) h0 (fun c hc => ?_), q1⟩
      have := q2 c hc
      rw [ha 86 _ (by decide) (by omega) (by decide), ht c hc] at this
      unfold dpM
      rw [this]
    · rintro ⟨q1, q2⟩
      refine ⟨q2, fun c hc => ?_⟩
      obtain ⟨d1, d2⟩ := dp_lt hm hi hc
      rw [ha 86 _ (by decide) (by omega) (by decide), ht c hc, d2, (td c hc).2]
      have := isCuts_at (h.kc i hi) hc (by omega)
      rw [q1, h0 c _ (by omega), decide_eq_true_eq] at this
      have t2 : (I 87 c).toNatClampNeg = dpM I i c := this.2
      rw [t2]
  rw [h.n9, cnt_56 (nkI I) 0 (by omega)]
  rcases e (nkI I) (ncI I) ((ha 85 35 (by decide) (by omega) (by decide)).trans hm.k) ((ha 85 31 (by decide) (by omega) (by decide)).trans hm.c) hkb c6 with ⟨q1, q2⟩ | ⟨i, q1, q2, q3⟩
  · exact ⟨fun ⟨i, _, h2, h3⟩ => absurd ((sm i (by omega)).mpr h3) (q2 i (by omega)), fun z => absurd q1 z⟩
  · refine ⟨fun _ z => ?_, fun _ => ⟨i, Nat.zero_le _, by omega, (sm i q1).mp q2⟩⟩
    rw [q3] at z
    have := congrArg Int32.toInt z
    rw [ofN_toInt (by omega), show (-1 : Int32).toInt = -1 by decide] at this
    omega
/-! the machine -/
theorem qg_210 {h : sH} {r : sR} {Q : sR → Prop} {a0 : Int32} {a1 : Int32} {a2 : Int32} {I : Nat → Nat → Int32} {L : Nat → Nat → Int64} {R : Nat → Nat} (th : qH h I L R) (g : qGo 210 [.ref (85), .int (a0), .int (a1), .int (a2)] h r)
    (p1 : ∀ (c1 : ¬ ((3 : Int32) ≤ a0 ∧ a0 ≤ (6 : Int32))), ∀ (h2 : sH), ∀ (t3 : qH h2 (upI I 85 42 (1 : Int32)) L R), Q (.inl (some (.int ((0 : Int32)))), h2))
    (p2 : ∀ (c1 : (3 : Int32) ≤ a0 ∧ a0 ≤ (6 : Int32)), ∀ (c4 : ¬ ((2 : Int32) ≤ a1 ∧ a1 ≤ (6 : Int32))), ∀ (h5 : sH), ∀ (t6 : qH h5 (upI I 85 42 (1 : Int32)) L R), Q (.inl (some (.int ((0 : Int32)))), h5))
    (p3 : ∀ (c1 : (3 : Int32) ≤ a0 ∧ a0 ≤ (6 : Int32)), ∀ (c4 : (2 : Int32) ≤ a1 ∧ a1 ≤ (6 : Int32)), ∀ (c7 : (1 : Int32) ≤ a2 ∧ a2 ≤ (5 : Int32)), ∀ (c8 : 0 < (I 85 35)), ∀ (h9 : sH), ∀ (t10 : qH h9 (upI I 85 42 (2 : Int32)) L R), Q (.inl (some (.int ((0 : Int32)))), h9))
    (p4 : ∀ (c1 : (3 : Int32) ≤ a0 ∧ a0 ≤ (6 : Int32)), ∀ (c4 : (2 : Int32) ≤ a1 ∧ a1 ≤ (6 : Int32)), ∀ (c7 : (1 : Int32) ≤ a2 ∧ a2 ≤ (5 : Int32)), ∀ (c8 : ¬ 0 < (I 85 35)), ∀ (c11 : (I 85 46) ≤ 0), ∀ (h20 : sH), ∀ (t21 : qH h20 (upI (upI (upI (upI (upI I 85 42 (0 : Int32)) 85 31 a0) 85 32 a1) 85 33 a2) 85 34 (0 : Int32)) L R), ∀ N lv, qLs lv [some (.ref (85)), none, none, none, some (.int ((0 : Int32)))] → qW 210 N 88 lv [] h20 Q)
    (p5 : ∀ (c1 : (3 : Int32) ≤ a0 ∧ a0 ≤ (6 : Int32)), ∀ (c4 : (2 : Int32) ≤ a1 ∧ a1 ≤ (6 : Int32)), ∀ (c7 : (1 : Int32) ≤ a2 ∧ a2 ≤ (5 : Int32)), ∀ (c8 : ¬ 0 < (I 85 35)), ∀ (c11 : ¬ (I 85 46) ≤ 0), ∀ (h24 : sH), ∀ (t25 : qH h24 (upI I 85 42 (2 : Int32)) L R), Q (.inl (some (.int ((0 : Int32)))), h24))
    (p6 : ∀ (c1 : (3 : Int32) ≤ a0 ∧ a0 ≤ (6 : Int32)), ∀ (c4 : (2 : Int32) ≤ a1 ∧ a1 ≤ (6 : Int32)), ∀ (c7 : ¬ ((1 : Int32) ≤ a2 ∧ a2 ≤ (5 : Int32))), ∀ (h26 : sH), ∀ (t27 : qH h26 (upI I 85 42 (1 : Int32)) L R), Q (.inl (some (.int ((0 : Int32)))), h26)) : Q r := by
  refine qGo_w g (fun N => ?_)
  have hl0 : qLs (lv_args 0 [.ref (85), .int (a0), .int (a1), .int (a2)]) [some (.ref (85)), some (.int (a0)), some (.int (a1)), some (.int (a2)), none] := qLs_ar 1
  refine q_aload_n (show mE (mtv 210) 0 = some (.aload_n 0, 1, 0, 0) from rfl) (hl0 0 _ rfl) ?_
  refine q_iload_n (show mE (mtv 210) 1 = some (.iload_n 1, 1, 0, 0) from rfl) (hl0 1 _ rfl) ?_
  refine q_iconst (show mE (mtv 210) 2 = some (.iconst 3, 1, 0, 0) from rfl) kI_3 ?_
  refine q_bipush (show mE (mtv 210) 3 = some (.bipush 6, 2, 0, 0) from rfl) kB_6 ?_
  refine q_staticP (show mE (mtv 210) 5 = some (.invokestatic 157, 3, 211, 0) from rfl) (by decide) rfl rfl rfl (fun _ g => sp_211 g) ?_
  refine q_ifb_eq (t := 30) (show mE (mtv 210) 8 = some (.ifCond .eq 22, 3, 0, 0) from rfl) rfl (fun c1 => ?_) (fun c1 => ?_)
  · refine q_iconst (show mE (mtv 210) 30 = some (.iconst 1, 1, 0, 0) from rfl) kI_1 ?_
    refine q_goto (t := 53) (show mE (mtv 210) 31 = some (.goto 22, 3, 0, 0) from rfl) rfl ?_
    refine q_putI th (show mE (mtv 210) 53 = some (.putfield 138, 3, 9, 42) from rfl) (by decide) rfl (fun h2 t3 => ?_)
    refine q_aload_n (show mE (mtv 210) 56 = some (.aload_n 0, 1, 0, 0) from rfl) (hl0 0 _ rfl) ?_
    refine q_getIe t3 (show mE (mtv 210) 57 = some (.getfield 138, 3, 9, 42) from rfl) (by decide) rfl (upI_s) ?_
    refine q_iff (t := 65) (show mE (mtv 210) 60 = some (.ifCond .le 5, 3, 0, 0) from rfl) (by decide) rfl ?_
    refine q_iconst (show mE (mtv 210) 63 = some (.iconst 0, 1, 0, 0) from rfl) kI_0 ?_
    refine q_ireturn (show mE (mtv 210) 64 = some (.ireturn, 1, 0, 0) from rfl) ?_
    exact p1 c1 h2 t3
  · refine q_iload_n (show mE (mtv 210) 11 = some (.iload_n 2, 1, 0, 0) from rfl) (hl0 2 _ rfl) ?_
    refine q_iconst (show mE (mtv 210) 12 = some (.iconst 2, 1, 0, 0) from rfl) kI_2 ?_
    refine q_bipush (show mE (mtv 210) 13 = some (.bipush 6, 2, 0, 0) from rfl) kB_6 ?_
    refine q_staticP (show mE (mtv 210) 15 = some (.invokestatic 157, 3, 211, 0) from rfl) (by decide) rfl rfl rfl (fun _ g => sp_211 g) ?_
    refine q_ifb_eq (t := 30) (show mE (mtv 210) 18 = some (.ifCond .eq 12, 3, 0, 0) from rfl) rfl (fun c4 => ?_) (fun c4 => ?_)
    · refine q_iconst (show mE (mtv 210) 30 = some (.iconst 1, 1, 0, 0) from rfl) kI_1 ?_
      refine q_goto (t := 53) (show mE (mtv 210) 31 = some (.goto 22, 3, 0, 0) from rfl) rfl ?_
      refine q_putI th (show mE (mtv 210) 53 = some (.putfield 138, 3, 9, 42) from rfl) (by decide) rfl (fun h5 t6 => ?_)
      refine q_aload_n (show mE (mtv 210) 56 = some (.aload_n 0, 1, 0, 0) from rfl) (hl0 0 _ rfl) ?_
      refine q_getIe t6 (show mE (mtv 210) 57 = some (.getfield 138, 3, 9, 42) from rfl) (by decide) rfl (upI_s) ?_
      refine q_iff (t := 65) (show mE (mtv 210) 60 = some (.ifCond .le 5, 3, 0, 0) from rfl) (by decide) rfl ?_
      refine q_iconst (show mE (mtv 210) 63 = some (.iconst 0, 1, 0, 0) from rfl) kI_0 ?_
      refine q_ireturn (show mE (mtv 210) 64 = some (.ireturn, 1, 0, 0) from rfl) ?_
      exact p2 c1 c4 h5 t6
    · refine q_iload_n (show mE (mtv 210) 21 = some (.iload_n 3, 1, 0, 0) from rfl) (hl0 3 _ rfl) ?_
      refine q_iconst (show mE (mtv 210) 22 = some (.iconst 1, 1, 0, 0) from rfl) kI_1 ?_
      refine q_iconst (show mE (mtv 210) 23 = some (.iconst 5, 1, 0, 0) from rfl) kI_5 ?_
      refine q_staticP (show mE (mtv 210) 24 = some (.invokestatic 157, 3, 211, 0) from rfl) (by decide) rfl rfl rfl (fun _ g => sp_211 g) ?_
      refine q_ifb_ne (t := 34) (show mE (mtv 210) 27 = some (.ifCond .ne 7, 3, 0, 0) from rfl) rfl (fun c7 => ?_) (fun c7 => ?_)
      · refine q_aload_n (show mE (mtv 210) 34 = some (.aload_n 0, 1, 0, 0) from rfl) (hl0 0 _ rfl) ?_
        refine q_getI th (show mE (mtv 210) 35 = some (.getfield 117, 3, 9, 35) from rfl) (by decide) rfl ?_
        refine q_if_gt (t := 48) (show mE (mtv 210) 38 = some (.ifCond .gt 10, 3, 0, 0) from rfl) rfl (fun c8 => ?_) (fun c8 => ?_)
        · refine q_iconst (show mE (mtv 210) 48 = some (.iconst 2, 1, 0, 0) from rfl) kI_2 ?_
          refine q_goto (t := 53) (show mE (mtv 210) 49 = some (.goto 4, 3, 0, 0) from rfl) rfl ?_
          refine q_putI th (show mE (mtv 210) 53 = some (.putfield 138, 3, 9, 42) from rfl) (by decide) rfl (fun h9 t10 => ?_)
          refine q_aload_n (show mE (mtv 210) 56 = some (.aload_n 0, 1, 0, 0) from rfl) (hl0 0 _ rfl) ?_
          refine q_getIe t10 (show mE (mtv 210) 57 = some (.getfield 138, 3, 9, 42) from rfl) (by decide) rfl (upI_s) ?_
          refine q_iff (t := 65) (show mE (mtv 210) 60 = some (.ifCond .le 5, 3, 0, 0) from rfl) (by decide) rfl ?_
          refine q_iconst (show mE (mtv 210) 63 = some (.iconst 0, 1, 0, 0) from rfl) kI_0 ?_
          refine q_ireturn (show mE (mtv 210) 64 = some (.ireturn, 1, 0, 0) from rfl) ?_
          exact p3 c1 c4 c7 c8 h9 t10
        · refine q_aload_n (show mE (mtv 210) 41 = some (.aload_n 0, 1, 0, 0) from rfl) (hl0 0 _ rfl) ?_
          refine q_getI th (show mE (mtv 210) 42 = some (.getfield 150, 3, 9, 46) from rfl) (by decide) rfl ?_
          refine q_if_le (t := 52) (show mE (mtv 210) 45 = some (.ifCond .le 7, 3, 0, 0) from rfl) rfl (fun c11 => ?_) (fun c11 => ?_)
          · refine q_iconst (show mE (mtv 210) 52 = some (.iconst 0, 1, 0, 0) from rfl) kI_0 ?_
            refine q_putI th (show mE (mtv 210) 53 = some (.putfield 138, 3, 9, 42) from rfl) (by decide) rfl (fun h12 t13 => ?_)
            refine q_aload_n (show mE (mtv 210) 56 = some (.aload_n 0, 1, 0, 0) from rfl) (hl0 0 _ rfl) ?_
            refine q_getIe t13 (show mE (mtv 210) 57 = some (.getfield 138, 3, 9, 42) from rfl) (by decide) rfl (upI_s) ?_
            refine q_ift (t := 65) (show mE (mtv 210) 60 = some (.ifCond .le 5, 3, 0, 0) from rfl) (by decide) rfl ?_
            refine q_aload_n (show mE (mtv 210) 65 = some (.aload_n 0, 1, 0, 0) from rfl) (hl0 0 _ rfl) ?_
            refine q_iload_n (show mE (mtv 210) 66 = some (.iload_n 1, 1, 0, 0) from rfl) (hl0 1 _ rfl) ?_
            refine q_putI t13 (show mE (mtv 210) 67 = some (.putfield 104, 3, 9, 31) from rfl) (by decide) rfl (fun h14 t15 => ?_)
            refine q_aload_n (show mE (mtv 210) 70 = some (.aload_n 0, 1, 0, 0) from rfl) (hl0 0 _ rfl) ?_
            refine q_iload_n (show mE (mtv 210) 71 = some (.iload_n 2, 1, 0, 0) from rfl) (hl0 2 _ rfl) ?_
            refine q_putI t15 (show mE (mtv 210) 72 = some (.putfield 108, 3, 9, 32) from rfl) (by decide) rfl (fun h16 t17 => ?_)
            refine q_aload_n (show mE (mtv 210) 75 = some (.aload_n 0, 1, 0, 0) from rfl) (hl0 0 _ rfl) ?_
            refine q_iload_n (show mE (mtv 210) 76 = some (.iload_n 3, 1, 0, 0) from rfl) (hl0 3 _ rfl) ?_
            refine q_putI t17 (show mE (mtv 210) 77 = some (.putfield 111, 3, 9, 33) from rfl) (by decide) rfl (fun h18 t19 => ?_)
            refine q_aload_n (show mE (mtv 210) 80 = some (.aload_n 0, 1, 0, 0) from rfl) (hl0 0 _ rfl) ?_
            refine q_iconst (show mE (mtv 210) 81 = some (.iconst 0, 1, 0, 0) from rfl) kI_0 ?_
            refine q_putI t19 (show mE (mtv 210) 82 = some (.putfield 114, 3, 9, 34) from rfl) (by decide) rfl (fun h20 t21 => ?_)
            refine q_iconst (show mE (mtv 210) 85 = some (.iconst 0, 1, 0, 0) from rfl) kI_0 ?_
            refine q_istore (show mE (mtv 210) 86 = some (.istore 4, 2, 0, 0) from rfl) (Nat.le_of_ble_eq_true rfl) hl0 (fun lv22 (hl23 : qLs lv22 [some (.ref (85)), some (.int (a0)), some (.int (a1)), some (.int (a2)), some (.int ((0 : Int32)))]) => ?_)
            exact p4 c1 c4 c7 c8 c11 h20 t21 _ lv22 (qLs_wk hl23 (⟨rfl, rfl, trivial⟩))
          · refine q_iconst (show mE (mtv 210) 48 = some (.iconst 2, 1, 0, 0) from rfl) kI_2 ?_
            refine q_goto (t := 53) (show mE (mtv 210) 49 = some (.goto 4, 3, 0, 0) from rfl) rfl ?_
            refine q_putI th (show mE (mtv 210) 53 = some (.putfield 138, 3, 9, 42) from rfl) (by decide) rfl (fun h24 t25 => ?_)
            refine q_aload_n (show mE (mtv 210) 56 = some (.aload_n 0, 1, 0, 0) from rfl) (hl0 0 _ rfl) ?_
            refine q_getIe t25 (show mE (mtv 210) 57 = some (.getfield 138, 3, 9, 42) from rfl) (by decide) rfl (upI_s) ?_
            refine q_iff (t := 65) (show mE (mtv 210) 60 = some (.ifCond .le 5, 3, 0, 0) from rfl) (by decide) rfl ?_
            refine q_iconst (show mE (mtv 210) 63 = some (.iconst 0, 1, 0, 0) from rfl) kI_0 ?_
            refine q_ireturn (show mE (mtv 210) 64 = some (.ireturn, 1, 0, 0) from rfl) ?_
            exact p5 c1 c4 c7 c8 c11 h24 t25
      · refine q_iconst (show mE (mtv 210) 30 = some (.iconst 1, 1, 0, 0) from rfl) kI_1 ?_
        refine q_goto (t := 53) (show mE (mtv 210) 31 = some (.goto 22, 3, 0, 0) from rfl) rfl ?_
        refine q_putI th (show mE (mtv 210) 53 = some (.putfield 138, 3, 9, 42) from rfl) (by decide) rfl (fun h26 t27 => ?_)
        refine q_aload_n (show mE (mtv 210) 56 = some (.aload_n 0, 1, 0, 0) from rfl) (hl0 0 _ rfl) ?_
        refine q_getIe t27 (show mE (mtv 210) 57 = some (.getfield 138, 3, 9, 42) from rfl) (by decide) rfl (upI_s) ?_
        refine q_iff (t := 65) (show mE (mtv 210) 60 = some (.ifCond .le 5, 3, 0, 0) from rfl) (by decide) rfl ?_
        refine q_iconst (show mE (mtv 210) 63 = some (.iconst 0, 1, 0, 0) from rfl) kI_0 ?_
        refine q_ireturn (show mE (mtv 210) 64 = some (.ireturn, 1, 0, 0) from rfl) ?_
        exact p6 c1 c4 c7 h26 t27
theorem qg_210_88 {N : Nat} {lv : sL} {h : sH} {Q : sR → Prop} {x4 : Int32} {I : Nat → Nat → Int32} {L : Nat → Nat → Int64} {R : Nat → Nat} (th : qH h I L R) (hl : qLs lv [some (.ref (85)), none, none, none, some (.int (x4))])
    (p1 : ∀ (c1 : (6 : Int32) ≤ x4), ∀ (v6 : Int32), ∀ (j2 : Nat → Nat → Int32), ∀ (h3 : sH), ∀ (t4 : qH h3 j2 L R), ∀ (e5 : cntP I j2 v6), Q (.inl (some (.int (v6))), h3))
    (p2 : ∀ (c1 : ¬ (6 : Int32) ≤ x4), ∀ (bb7 : sIn x4 6 = true), ∀ (h8 : sH), ∀ (t9 : qH h8 (upI I 106 ((x4).toNatClampNeg) (63 : Int32)) L R), ∀ lv, qLs lv [some (.ref (85)), none, none, none, some (.int (x4 + (1 : Int32)))] → qW 210 N 88 lv [] h8 Q) : qW 210 (N + 1) 88 lv [] h Q := by
  refine q1_iload (show mE (mtv 210) 88 = some (.iload 4, 2, 0, 0) from rfl) (hl 4 _ rfl) ?_
  refine q_bipush (show mE (mtv 210) 90 = some (.bipush 6, 2, 0, 0) from rfl) kB_6 ?_
  refine q_ic_ge (t := 110) (show mE (mtv 210) 92 = some (.if_icmp .ge 18, 3, 0, 0) from rfl) rfl (fun c1 => ?_) (fun c1 => ?_)
  · refine q_aload_n (show mE (mtv 210) 110 = some (.aload_n 0, 1, 0, 0) from rfl) (hl 0 _ rfl) ?_
    refine q_virtualE (show mE (mtv 210) 111 = some (.invokevirtual 165, 3, 212, 9) from rfl) (by decide) rfl rfl rfl (fun _ g => sp_212 th g) ?_
    rintro _ ⟨v6, j2, h3, rfl, t4, e5⟩
    refine qK_v ?_
    refine q_ireturn (show mE (mtv 210) 114 = some (.ireturn, 1, 0, 0) from rfl) ?_
    exact p1 c1 v6 j2 h3 t4 e5
  · refine q_aload_n (show mE (mtv 210) 95 = some (.aload_n 0, 1, 0, 0) from rfl) (hl 0 _ rfl) ?_
    refine q_getR (m := 106) th (show mE (mtv 210) 96 = some (.getfield 71, 3, 9, 20) from rfl) (by decide) rfl rfl ?_
    refine q_iload (show mE (mtv 210) 99 = some (.iload 4, 2, 0, 0) from rfl) (hl 4 _ rfl) ?_
    refine q_bipush (show mE (mtv 210) 101 = some (.bipush 63, 2, 0, 0) from rfl) kB_63 ?_
    refine q_iastore (n := 6) th (show mE (mtv 210) 103 = some (.iastore, 1, 0, 0) from rfl) (by decide) rfl (fun bb7 h8 t9 => ?_)
    refine q_iinc (show mE (mtv 210) 104 = some (.iinc 4 1, 3, 0, 0) from rfl) (Nat.le_of_ble_eq_true rfl) hl (hl 4 _ rfl) kI_1 (fun lv10 (hl11 : qLs lv10 [some (.ref (85)), none, none, none, some (.int (x4 + (1 : Int32)))]) => ?_)
    refine q_goto (t := 88) (show mE (mtv 210) 107 = some (.goto (-19), 3, 0, 0) from rfl) rfl ?_
    exact p2 c1 bb7 h8 t9 lv10 (qLs_wk hl11 (⟨rfl, rfl, trivial⟩))
theorem lk_210 {I : Nat → Nat → Int32} {L : Nat → Nat → Int64} {R : Nat → Nat} : ∀ N J j lv h, qH h J L R → agr 106 J I → (∀ c, c < j → J 106 c = 63) → j ≤ 6 → qLs lv [some (.ref (85)), none, none, none, some (.int (Int32.ofNat j))] → qW 210 N 88 lv [] h (fun r => ∃ v J J2 h1, r = (.inl (some (.int v)), h1) ∧ qH h1 J2 L R ∧ agr 106 J I ∧ (∀ c, c < 6 → J 106 c = 63) ∧ cntP J J2 v)
  | 0, _, _, _, _, _, _, _, _, _ => qW_0
  | N + 1, J, j, lv, h, th, ha, hd, hj, hl => by
    refine qg_210_88 th hl (fun c1 v6 j2 h3 t4 e5 => ?_) (fun c1 _ h8 t9 lv' hl' => ?_)
    · have := (oN_le (a := 6) (by omega) (by omega)).mp c1
      exact ⟨v6, J, j2, h3, rfl, t4, ha, fun c hc => hd c (by omega), e5⟩
    · have gj := mt (oN_le (a := 6) (by omega) (by omega)).mpr c1
      rw [ofN_clamp (by omega)] at t9
      rw [oN_s] at hl'
      refine lk_210 N _ (j + 1) lv' h8 t9 (agr_up ha j _) (fun c hc => ?_) (by omega) hl'
      by_cases e : c = j
      · subst e; exact upI_s
      · rw [upI_ne (by omega)]; exact hd c (by omega)
theorem tb_63 : ∀ e, e < 6 → tb (63 : Int32) e = true := by decide
/-- a new key, as both sides write it -/
theorem RK_add {I J : Nat → Nat → Int32} {L K : Nat → Nat → Int64} {R : Nat → Nat} (h : RK I L R) (g14 : I 85 43 = I 1 4) (n16 : nkI I < 16) (esz : szI I = ncI I)
    (e : ∀ a b, ¬ scr a b → ¬ ((a = 0 ∧ b = 9) ∨ (a = 85 ∧ b = 35) ∨ a = 86 ∨ a = 88 ∨ a = 95 ∨ (19 ≤ a ∧ a ≤ 34 ∧ b = 1) ∨ (19 ≤ a ∧ a ≤ 34 ∧ b = 3)) → ¬ (a = 1 ∧ b = 6) → ¬ (a = 85 ∧ b = 34) → J a b = I a b)
    (z1 : J 1 6 = 0) (z2 : J 85 34 = 0) (k5 : K 1 5 = 0) (k15 : ∀ b, K 15 b = L 15 b) (k8 : K (19 + nkI I) 0 = L 1 5) (k9 : ∀ k, k < nkI I → K (19 + k) 0 = L (19 + k) 0)
    (c1 : J 85 35 = Int32.ofNat (nkI I + 1)) (c2 : J 0 9 = Int32.ofNat (nkI I + 1)) (c3 : ∀ c, c < ncI I → J 86 (6 * nkI I + c) = I 87 c) (c4 : ∀ k c, k < nkI I → c < ncI I → J 86 (6 * k + c) = I 86 (6 * k + c))
    (c5 : J 88 (nkI I) = 0) (c5' : ∀ k, ¬ k = nkI I → J 88 k = I 88 k) (c6 : J 95 (nkI I) = I 85 43) (c7 : ∀ k, k < nkI I → J 95 k = I 95 k)
    (d1 : J (19 + nkI I) 1 = I 85 43) (d2 : ∀ k, k < nkI I → J (19 + k) 1 = I (19 + k) 1) (d3 : J (19 + nkI I) 3 = (1 : Int32) <<< (Int32.ofNat (nkI I) &&& 31)) (d4 : ∀ k, k < nkI I → J (19 + k) 3 = I (19 + k) 3) : RK J K R := by
  have hm := h.mi
  have c6' := hm.c6
  have m6 := hm.m6
  have hkb := hm.kb
  have hK0 : RK (upI (upI I 1 6 (0 : Int32)) 85 34 (0 : Int32)) (upL L 1 5 (0 : Int64)) R := RK_told0 h (fun a b y1 y2 => by rw [upI_ne (by omega), upI_ne (by omega)]) (by rw [upI_ne (by omega), upI_s]) upI_s (fun k hk => upL_ne (by omega)) upL_s (fun b => upL_ne (by omega))
  have e0 : ∀ a b, ¬ (a = 1 ∧ b = 6) → ¬ (a = 85 ∧ b = 34) → upI (upI I 1 6 (0 : Int32)) 85 34 (0 : Int32) a b = I a b := fun a b y1 y2 => by rw [upI_ne y2, upI_ne y1]
  have q_nk : nkI (upI (upI I 1 6 (0 : Int32)) 85 34 (0 : Int32)) = nkI I := congrArg Int32.toNatClampNeg (e0 85 35 (by omega) (by omega))
  have q_nc : ncI (upI (upI I 1 6 (0 : Int32)) 85 34 (0 : Int32)) = ncI I := congrArg Int32.toNatClampNeg (e0 85 31 (by omega) (by omega))
  have q_md : mdI (upI (upI I 1 6 (0 : Int32)) 85 34 (0 : Int32)) = mdI I := congrArg Int32.toNatClampNeg (e0 85 32 (by omega) (by omega))
  have q_43 := e0 85 43 (by omega) (by omega)
  have td : ∀ c, c < ncI I → (I 87 c).toNatClampNeg < mdI I ∧ I 87 c = Int32.ofNat (I 87 c).toNatClampNeg := fun c hc => by
    obtain ⟨x, x1, x2⟩ := hm.told c (by omega)
    rw [x2, ofN_clamp (by omega)]; exact ⟨x1, rfl⟩
  have hto := h.to
  rw [esz] at hto
  refine RK_key hK0 (t := fun c => (I 87 c).toNatClampNeg) (D := 0) (v := L 1 5) ?_ ?_ ?_ ?_ ?_ ?_ ?_ ?_ ?_ ?_ ?_ ?_ ?_ ?_ ?_ ?_ ?_ ?_ ?_ ?_ ?_ ?_ ?_
  · rw [q_43, e0 1 4 (by omega) (by omega)]; exact g14
  · rw [q_nk]; exact n16
  · rw [q_nc, q_md]; exact fun c hc => (td c hc).1
  · intro i h1 h2
    rw [q_nc] at h2
    have := hm.toldn (i - 1) (by omega)
    rw [show i - 1 + 1 = i by omega] at this
    unfold cA
    rw [e0 85 33 (by omega) (by omega)]
    exact this
  · intro d z; rw [tb_0] at z; cases z
  · rw [q_nc]; exact hto
  · intro a b y1 y2
    by_cases g1 : a = 1 ∧ b = 6
    · rw [g1.1, g1.2, z1, upI_ne (by omega), upI_s]
    · by_cases g2 : a = 85 ∧ b = 34
      · rw [g2.1, g2.2, z2, upI_s]
      · rw [e0 a b g1 g2]; exact e a b y1 (by omega) g1 g2
  · rw [k5, upL_s]
  · intro b; rw [k15 b, upL_ne (by omega)]
  · rw [q_nk]; exact c1
  · rw [q_nk]; exact c2
  · rw [q_nk, q_nc]; exact fun c hc => (c3 c hc).trans (td c hc).2
  · rw [q_nk, q_nc]; exact fun k c h1 h2 => (c4 k c h1 h2).trans (e0 86 _ (by omega) (by omega)).symm
  · rw [q_nk]
    intro k hk
    by_cases g : k = nkI I
    · rw [if_pos g, g]; exact c5
    · rw [if_neg g, e0 88 k (by omega) (by omega)]; exact c5' k g
  · rw [q_nk, q_43]; exact c6
  · rw [q_nk]; exact fun k hk => (c7 k hk).trans (e0 95 k (by omega) (by omega)).symm
  · rw [q_nk]; exact k8
  · rw [q_nk]; exact fun k hk => by rw [k9 k hk, upL_ne (by omega)]
  · rw [q_nk, q_43]; exact d1
  · rw [q_nk]; exact fun k hk => (d2 k hk).trans (e0 _ 1 (by omega) (by omega)).symm
  · rw [q_nk]; intro j hj; rw [d3, tb_1shl (by omega)]
  · rw [q_nk]; exact fun k hk => (d4 k hk).trans (e0 _ 3 (by omega) (by omega)).symm
  · rw [q_nk]
    intro d k hd
    have hr := h.rr d hd
    rw [e (R d) 1 (by unfold scr; omega) (by omega) (by omega) (by omega), e0 (R d) 1 (by omega) (by omega)]
    by_cases g : k = nkI I
    · rw [if_pos g, g, tb_0, h.wi d _ hd n16]
      exact Bool.eq_false_iff.mpr (fun z => absurd (hm.wu d _ n16 z).1 (by omega))
    · rw [if_neg g]
/-- one depth more is told -/
theorem isCuts_1 {y : Int64} {f g : Nat → Nat} {i d : Nat} (hi : i < 8) (hd : d < 8) (h : isCuts y f i) (e : ∀ c, c < i → g c = f c) (eg : g i = d) : isCuts (y ||| bitL (Int32.ofNat i) (Int32.ofNat d)) g (i + 1) := fun c x hx => by
  rw [lb_or, h c x hx, lb_bit hi hd]
  rcases Nat.lt_trichotomy c i with q | q | q
  · rw [e c q, decide_eq_false (show ¬ 8 * c + x = 8 * i + d by omega), Bool.or_false]
    by_cases z : f c = x
    · rw [decide_eq_true ⟨q, z⟩, decide_eq_true ⟨by omega, z⟩]
    · rw [decide_eq_false (fun w => z w.2), decide_eq_false (fun w => z w.2)]
  · subst q
    rw [eg, decide_eq_false (fun w => absurd w.1 (Nat.lt_irrefl c)), Bool.false_or]
    by_cases z : d = x
    · rw [decide_eq_true (show 8 * c + x = 8 * c + d by omega), decide_eq_true ⟨by omega, z⟩]
    · rw [decide_eq_false (show ¬ 8 * c + x = 8 * c + d by omega), decide_eq_false (fun w => z w.2)]
  · rw [decide_eq_false (fun w => absurd w.1 (by omega)), decide_eq_false (show ¬ 8 * c + x = 8 * i + d by omega), decide_eq_false (fun w => absurd w.1 (by omega))]; rfl
theorem RK_cutOp {I : Nat → Nat → Int32} {L : Nat → Nat → Int64} {R : Nat → Nat} (h : RK I L R) {d : Nat} {t : Int32} (hn : szI I < ncI I) (hd : d < mdI I) (nr : 0 < szI I → cA I d (I 87 (szI I - 1)).toNatClampNeg = true) : RK (upI (upI (upI (upI I 1 6 ((I 1 6) + (1 : Int32))) 85 42 t) 87 ((I 1 6)).toNatClampNeg (Int32.ofNat d)) 85 34 ((I 1 6) + (1 : Int32))) (upL L 1 5 ((L 1 5) ||| (bitL (I 1 6) (Int32.ofNat d)))) R := by
  have hm := h.mi
  have c6 := hm.c6
  have m6 := hm.m6
  have es : (I 1 6).toNatClampNeg = szI I := by rw [h.sz]; rfl
  rw [es]
  have e : ∀ a b, ¬ scr a b → ¬ (a = 87 ∨ (a = 1 ∧ b = 6) ∨ (a = 85 ∧ b = 34)) → upI (upI (upI (upI I 1 6 ((I 1 6) + (1 : Int32))) 85 42 t) 87 (szI I) (Int32.ofNat d)) 85 34 ((I 1 6) + (1 : Int32)) a b = I a b := fun a b q1 q2 => by
    rw [upI_ne (by omega), upI_ne (by omega), upI_ne (fun z => q1 (by unfold scr; omega)), upI_ne (by omega)]
  have e34 : upI (upI (upI (upI I 1 6 ((I 1 6) + (1 : Int32))) 85 42 t) 87 (szI I) (Int32.ofNat d)) 85 34 ((I 1 6) + (1 : Int32)) 85 34 = Int32.ofNat (szI I + 1) := by
    rw [upI_s, h.s1, oN_s]
  have q_sz : szI (upI (upI (upI (upI I 1 6 ((I 1 6) + (1 : Int32))) 85 42 t) 87 (szI I) (Int32.ofNat d)) 85 34 ((I 1 6) + (1 : Int32))) = szI I + 1 := by
    show (upI (upI (upI (upI I 1 6 ((I 1 6) + (1 : Int32))) 85 42 t) 87 (szI I) (Int32.ofNat d)) 85 34 ((I 1 6) + (1 : Int32)) 85 34).toNatClampNeg = _
    rw [e34, ofN_clamp (by omega)]
  have q_nc := congrArg Int32.toNatClampNeg (e 85 31 (by unfold scr; omega) (by omega))
  have q_md := congrArg Int32.toNatClampNeg (e 85 32 (by unfold scr; omega) (by omega))
  have n87 : upI (upI (upI (upI I 1 6 ((I 1 6) + (1 : Int32))) 85 42 t) 87 (szI I) (Int32.ofNat d)) 85 34 ((I 1 6) + (1 : Int32)) 87 (szI I) = Int32.ofNat d := by
    rw [upI_ne (by omega), upI_s]
  have o87 : ∀ c, c < szI I → upI (upI (upI (upI I 1 6 ((I 1 6) + (1 : Int32))) 85 42 t) 87 (szI I) (Int32.ofNat d)) 85 34 ((I 1 6) + (1 : Int32)) 87 c = I 87 c := fun c hc => by
    rw [upI_ne (by omega), upI_ne (by omega), upI_ne (by omega), upI_ne (by omega)]
  have q_ca : ∀ a b, cA (upI (upI (upI (upI I 1 6 ((I 1 6) + (1 : Int32))) 85 42 t) 87 (szI I) (Int32.ofNat d)) 85 34 ((I 1 6) + (1 : Int32))) a b = cA I a b := fun a b => by
    unfold cA; rw [e 85 33 (by unfold scr; omega) (by omega)]
  refine RK_up_cut h e (fun k hk => upL_ne (by omega)) (fun b => upL_ne (by omega)) (MI_up_cut hm e ?_ ?_ ?_ ?_) ?_ ?_
  · rw [q_sz, e34]
  · rw [q_sz]; show _ ≤ (_ : Int32).toNatClampNeg; rw [q_nc]; exact hn
  · intro c hc
    rw [q_sz] at hc
    show ∃ x, x < (_ : Int32).toNatClampNeg ∧ _
    rw [q_md]
    by_cases g : c = szI I
    · rw [g, n87]; exact ⟨d, hd, rfl⟩
    · rw [o87 c (by omega)]; exact hm.told c (by omega)
  · intro c hc
    rw [q_sz] at hc
    rw [q_ca]
    by_cases g : c + 1 = szI I
    · rw [g, n87, o87 c (by omega), ofN_clamp (by omega)]
      have := nr (by omega)
      rw [show szI I - 1 = c by omega] at this
      exact this
    · rw [o87 (c + 1) (by omega), o87 c (by omega)]
      exact hm.toldn c (by omega)
  · rw [upI_ne (by omega), upI_ne (by omega), upI_ne (by omega), upI_s, e34, h.s1, oN_s]
  · have hb : bitL (I 1 6) (Int32.ofNat d) = bitL (Int32.ofNat (szI I)) (Int32.ofNat d) := by rw [h.s1]
    rw [q_sz, upL_s, hb]
    exact isCuts_1 (by omega) (by omega) h.to (fun c hc => by show (_ : Int32).toNatClampNeg = _; rw [o87 c hc]) (by show (_ : Int32).toNatClampNeg = _; rw [n87, ofN_clamp (by omega)])
/-- the depth told last, of both sides -/
theorem last_E {I : Nat → Nat → Int32} {L : Nat → Nat → Int64} {R : Nat → Nat} (h : RK I L R) (hz : ¬ I 1 6 = 0) : 0 < szI I ∧ dpL (L 1 5) ((I 1 6) - (1 : Int32)) = I 87 (szI I - 1) ∧ ((I 1 6) - (1 : Int32)).toNatClampNeg = szI I - 1 := by
  have hm := h.mi
  have c6 := hm.c6
  have m6 := hm.m6
  have sc := hm.sc
  have hp : 0 < szI I := Nat.pos_of_ne_zero (fun z => hz (by rw [h.s1, z]; rfl))
  obtain ⟨s', hs'⟩ : ∃ s', szI I = s' + 1 := ⟨szI I - 1, by omega⟩
  obtain ⟨x, x1, x2⟩ := hm.told s' (by omega)
  have ex : (I 87 s').toNatClampNeg = x := by rw [x2, ofN_clamp (by omega)]
  rw [h.s1, hs', ← oN_s, i32_p1m1, Nat.add_sub_cancel]
  refine ⟨Nat.succ_pos s', ?_, ofN_clamp (by omega)⟩
  have := isCuts_dp h.to (c := s') (by omega) (by omega) (by show (I 87 s').toNatClampNeg < 8; omega)
  rw [this]
  show Int32.ofNat (I 87 s').toNatClampNeg = _
  rw [ex, x2]
theorem T213_if (x : Int32) : T_213 x = if 0 ≤ x then x else 0 - x := by
  unfold T_213
  by_cases g : 0 ≤ x
  · rw [if_pos g, if_pos g]
  · rw [if_neg g, if_neg g, Int32.zero_sub]
noncomputable def opX (rW rM : Option Value ⊕ Nat) (h2 : sH) (RR : (Nat → Nat → Int32) → (Nat → Nat → Int64) → (Nat → Nat) → Prop) : Prop := ∃ (k v : Int32) (I2 : Nat → Nat → Int32) (L2 : Nat → Nat → Int64) (R2 : Nat → Nat), rW = .inl (some (.int k)) ∧ rM = .inl (some (.int v)) ∧ qH h2 I2 L2 R2 ∧ RR I2 L2 R2
theorem RK.gm {I : Nat → Nat → Int32} {L : Nat → Nat → Int64} {R : Nat → Nat} (h : RK I L R) {x : Int32} (c : (0 : Int32) ≤ x ∧ x ≤ ((I 1 2) - (1 : Int32))) : ∃ d, d < mdI I ∧ x = Int32.ofNat d := by
  have m2 := h.mi.m2
  have m6 := h.mi.m6
  have mp : I 1 2 - 1 = Int32.ofNat (mdI I - 1) := by
    obtain ⟨m', hm'⟩ : ∃ m', mdI I = m' + 1 := ⟨mdI I - 1, by omega⟩
    rw [h.m1, hm', ← oN_s, i32_p1m1]; rfl
  obtain ⟨d, _, h2, e⟩ := rg_b (a := 0) (b := mdI I - 1) rfl mp (by omega) (by omega) c
  exact ⟨d, by omega, e⟩
theorem RK.sc_no {I : Nat → Nat → Int32} {L : Nat → Nat → Int64} {R : Nat → Nat} (h : RK I L R) (h1 : ¬ I 1 6 < I 1 1) (h2 : ¬ I 1 6 = I 1 1) : False := by
  have sc := h.mi.sc
  have c6 := h.mi.c6
  rw [h.s1, h.c1] at h1 h2
  have := mt (oN_lt (by omega) (by omega)).mpr h1
  exact h2 (by rw [show szI I = ncI I by omega])
set_option maxHeartbeats 4000000 in
theorem qp_28 {h : sH} {I : Nat → Nat → Int32} {L : Nat → Nat → Int64} {R : Nat → Nat} (th : qH h I L R) (hK : RK I L R) (hG : RG I) {r : sR} (gW : qGo 131 [.ref (0), .ref (117)] h r)
    (p1 : ∀ (c2 : ¬ (I 1 6) = 0), ∀ (c3 : ¬ (G_133 L ((L 1 5)) 0 ((I 0 12)).toNatClampNeg = true)), ∀ (c4 : (I 0 12) < (4 : Int32)), ∀ (bb7 : sIn (I 0 12) 4 = true), ∀ (bb19 : sIn (0 : Int32) 1 = true), ∀ (h20 : sH), ∀ (t21 : qH h20 (upI (upI I 0 12 ((I 0 12) + (1 : Int32))) 1 6 (0 : Int32)) (upL (upL (upL L 15 ((I 0 12).toNatClampNeg) (L 1 5)) 1 5 (0 : Int64)) 117 (((0 : Int32)).toNatClampNeg) ((I 0 12).toInt64)) R), ∀ N lv, qLs lv [some (.ref (85)), some (.int ((0 : Int32))), some (.int ((0 : Int32))), none, none] → qW 266 N 4 lv [] h20 (fun r2 => opE (.inl (some (.int ((0 : Int32))))) r2.1 r2.2 RK))
    (p2 : ∀ (c2 : ¬ (I 1 6) = 0), ∀ (c3 : ¬ (G_133 L ((L 1 5)) 0 ((I 0 12)).toNatClampNeg = true)), ∀ (c4 : ¬ (I 0 12) < (4 : Int32)), ∀ N lv, qLs lv [some (.ref (85)), some (.int ((0 : Int32))), some (.int ((0 : Int32))), none, none] → qW 266 N 4 lv [] h (fun r2 => opE (.inl (some (.int ((3 : Int32))))) r2.1 r2.2 RK))
    (p3 : ∀ (c2 : ¬ (I 1 6) = 0), ∀ (c3 : G_133 L ((L 1 5)) 0 ((I 0 12)).toNatClampNeg = true), ∀ N lv, qLs lv [some (.ref (85)), some (.int ((0 : Int32))), some (.int ((0 : Int32))), none, none] → qW 266 N 4 lv [] h (fun r2 => opE (.inl (some (.int ((2 : Int32))))) r2.1 r2.2 RK))
    (p4 : ∀ (c2 : (I 1 6) = 0), ∀ N lv, qLs lv [some (.ref (85)), some (.int ((0 : Int32))), some (.int ((0 : Int32))), none, none] → qW 266 N 4 lv [] h (fun r2 => opE (.inl (some (.int ((1 : Int32))))) r2.1 r2.2 RK)) : ∀ r2 : sR, qGo 266 [.ref (85)] r.2 r2 → opE r.1 r2.1 r2.2 RK := by
  refine qGo_w (Q := fun r => ∀ r2 : sR, qGo 266 [.ref (85)] r.2 r2 → opE r.1 r2.1 r2.2 RK) gW (fun N => ?_)
  have hl0 : qLs (lv_args 0 [.ref (0), .ref (117)]) [some (.ref (0)), some (.ref (117)), none] := qLs_ar 1
  refine q_aload_n (show mE (mtv 131) 0 = some (.aload_n 1, 1, 0, 0) from rfl) (hl0 1 _ rfl) ?_
  refine q_iconst (show mE (mtv 131) 1 = some (.iconst 0, 1, 0, 0) from rfl) kI_0 ?_
  refine q_aload_n (show mE (mtv 131) 2 = some (.aload_n 0, 1, 0, 0) from rfl) (hl0 0 _ rfl) ?_
  refine q_virtualIh (show mE (mtv 131) 3 = some (.invokevirtual 95, 3, 132, 8) from rfl) (by decide) rfl rfl rfl (fun _ => ?_)
  have hl1 : qLs (lv_args 0 [.ref (0)]) [some (.ref (0)), none] := qLs_ar 1
  refine q_aload_n (show mE (mtv 132) 0 = some (.aload_n 0, 1, 0, 0) from rfl) (hl1 0 _ rfl) ?_
  refine q_getR (m := 1) th (show mE (mtv 132) 1 = some (.getfield 10, 3, 8, 0) from rfl) (by decide) rfl rfl ?_
  refine q_getI th (show mE (mtv 132) 4 = some (.getfield 120, 3, 4, 6) from rfl) (by decide) rfl ?_
  refine q_if_ne (t := 21) (show mE (mtv 132) 7 = some (.ifCond .ne 14, 3, 0, 0) from rfl) rfl (fun c2 => ?_) (fun c2 => ?_)
  · refine q_aload_n (show mE (mtv 132) 21 = some (.aload_n 0, 1, 0, 0) from rfl) (hl1 0 _ rfl) ?_
    refine q_aload_n (show mE (mtv 132) 22 = some (.aload_n 0, 1, 0, 0) from rfl) (hl1 0 _ rfl) ?_
    refine q_getR (m := 1) th (show mE (mtv 132) 23 = some (.getfield 10, 3, 8, 0) from rfl) (by decide) rfl rfl ?_
    refine q_getL th (show mE (mtv 132) 26 = some (.getfield 141, 3, 4, 5) from rfl) (by decide) rfl ?_
    refine q_virtualP (show mE (mtv 132) 29 = some (.invokevirtual 331, 3, 133, 8) from rfl) (by decide) rfl rfl rfl (fun _ g => sp_133 th g) ?_
    refine q_ifb_eq (t := 46) (show mE (mtv 132) 32 = some (.ifCond .eq 14, 3, 0, 0) from rfl) rfl (fun c3 => ?_) (fun c3 => ?_)
    · refine q_aload_n (show mE (mtv 132) 46 = some (.aload_n 0, 1, 0, 0) from rfl) (hl1 0 _ rfl) ?_
      refine q_getI th (show mE (mtv 132) 47 = some (.getfield 91, 3, 8, 12) from rfl) (by decide) rfl ?_
      refine q_iconst (show mE (mtv 132) 50 = some (.iconst 4, 1, 0, 0) from rfl) kI_4 ?_
      refine q_ic_lt (t := 65) (show mE (mtv 132) 51 = some (.if_icmp .lt 14, 3, 0, 0) from rfl) rfl (fun c4 => ?_) (fun c4 => ?_)
      · refine q_aload_n (show mE (mtv 132) 65 = some (.aload_n 0, 1, 0, 0) from rfl) (hl1 0 _ rfl) ?_
        refine q_getI th (show mE (mtv 132) 66 = some (.getfield 91, 3, 8, 12) from rfl) (by decide) rfl ?_
        refine q_istore_n (show mE (mtv 132) 69 = some (.istore_n 1, 1, 0, 0) from rfl) (Nat.le_of_ble_eq_true rfl) hl1 (fun lv5 (hl6 : qLs lv5 [some (.ref (0)), some (.int (I 0 12))]) => ?_)
        refine q_aload_n (show mE (mtv 132) 70 = some (.aload_n 0, 1, 0, 0) from rfl) (hl6 0 _ rfl) ?_
        refine q_getR (m := 15) th (show mE (mtv 132) 71 = some (.getfield 41, 3, 8, 5) from rfl) (by decide) rfl rfl ?_
        refine q_iload_n (show mE (mtv 132) 74 = some (.iload_n 1, 1, 0, 0) from rfl) (hl6 1 _ rfl) ?_
        refine q_aload_n (show mE (mtv 132) 75 = some (.aload_n 0, 1, 0, 0) from rfl) (hl6 0 _ rfl) ?_
        refine q_getR (m := 1) th (show mE (mtv 132) 76 = some (.getfield 10, 3, 8, 0) from rfl) (by decide) rfl rfl ?_
        refine q_getL th (show mE (mtv 132) 79 = some (.getfield 141, 3, 4, 5) from rfl) (by decide) rfl ?_
        refine q_lastore (n := 4) th (show mE (mtv 132) 82 = some (.lastore, 1, 0, 0) from rfl) (by decide) rfl (fun bb7 h8 t9 => ?_)
        refine q_aload_n (show mE (mtv 132) 83 = some (.aload_n 0, 1, 0, 0) from rfl) (hl6 0 _ rfl) ?_
        refine q_iload_n (show mE (mtv 132) 84 = some (.iload_n 1, 1, 0, 0) from rfl) (hl6 1 _ rfl) ?_
        refine q_iconst (show mE (mtv 132) 85 = some (.iconst 1, 1, 0, 0) from rfl) kI_1 ?_
        refine q_iadd (show mE (mtv 132) 86 = some (.iadd, 1, 0, 0) from rfl) ?_
        refine q_putI t9 (show mE (mtv 132) 87 = some (.putfield 91, 3, 8, 12) from rfl) (by decide) rfl (fun h10 t11 => ?_)
        refine q_aload_n (show mE (mtv 132) 90 = some (.aload_n 0, 1, 0, 0) from rfl) (hl6 0 _ rfl) ?_
        refine q_getR (m := 1) t11 (show mE (mtv 132) 91 = some (.getfield 10, 3, 8, 0) from rfl) (by decide) rfl rfl ?_
        refine q_virtualI (show mE (mtv 132) 94 = some (.invokevirtual 135, 3, 10, 4) from rfl) (by decide) rfl rfl rfl (fun _ => ?_)
        have hl12 : qLs (lv_args 0 [.ref (1)]) [some (.ref (1)), none] := qLs_ar 1
        refine q_aload_n (show mE (mtv 10) 0 = some (.aload_n 0, 1, 0, 0) from rfl) (hl12 0 _ rfl) ?_
        refine q_getIe t11 (show mE (mtv 10) 1 = some (.getfield 30, 3, 4, 6) from rfl) (by decide) rfl (upI_n (Or.inr (by decide))) ?_
        refine q_istore_n (show mE (mtv 10) 4 = some (.istore_n 1, 1, 0, 0) from rfl) (Nat.le_of_ble_eq_true rfl) hl12 (fun lv13 (hl14 : qLs lv13 [some (.ref (1)), some (.int (I 1 6))]) => ?_)
        refine q_aload_n (show mE (mtv 10) 5 = some (.aload_n 0, 1, 0, 0) from rfl) (hl14 0 _ rfl) ?_
        refine q_lconst (show mE (mtv 10) 6 = some (.lconst 0, 1, 0, 0) from rfl) kL_0 ?_
        refine q_putL t11 (show mE (mtv 10) 7 = some (.putfield 33, 3, 4, 5) from rfl) (by decide) rfl (fun h15 t16 => ?_)
        refine q_aload_n (show mE (mtv 10) 10 = some (.aload_n 0, 1, 0, 0) from rfl) (hl14 0 _ rfl) ?_
        refine q_iconst (show mE (mtv 10) 11 = some (.iconst 0, 1, 0, 0) from rfl) kI_0 ?_
        refine q_putI t16 (show mE (mtv 10) 12 = some (.putfield 30, 3, 4, 6) from rfl) (by decide) rfl (fun h17 t18 => ?_)
        refine q_iload_n (show mE (mtv 10) 15 = some (.iload_n 1, 1, 0, 0) from rfl) (hl14 1 _ rfl) ?_
        refine q_ireturn (show mE (mtv 10) 16 = some (.ireturn, 1, 0, 0) from rfl) ?_
        refine qK_v ?_
        refine q_popI (show mE (mtv 132) 97 = some (.pop, 1, 0, 0) from rfl) ?_
        refine q_iload_n (show mE (mtv 132) 98 = some (.iload_n 1, 1, 0, 0) from rfl) (hl6 1 _ rfl) ?_
        refine q_ireturn (show mE (mtv 132) 99 = some (.ireturn, 1, 0, 0) from rfl) ?_
        refine qKh_v ?_
        refine q_i2l (show mE (mtv 131) 6 = some (.i2l, 1, 0, 0) from rfl) ?_
        refine q_lastore (n := 1) t18 (show mE (mtv 131) 7 = some (.lastore, 1, 0, 0) from rfl) (by decide) rfl (fun bb19 h20 t21 => ?_)
        refine q_goto (t := 20) (show mE (mtv 131) 8 = some (.goto 12, 3, 0, 0) from rfl) rfl ?_
        refine q_iconst (show mE (mtv 131) 20 = some (.iconst 0, 1, 0, 0) from rfl) kI_0 ?_
        refine q_ireturn (show mE (mtv 131) 21 = some (.ireturn, 1, 0, 0) from rfl) ?_
        intro r22 g23
        have g23 : qGo 266 [.ref (85)] h20 r22 := g23
        refine qGo_w (Q := fun r2 => opE (.inl (some (.int ((0 : Int32))))) r2.1 r2.2 RK) g23 (fun _ => ?_)
        have hl24 : qLs (lv_args 0 [.ref (85)]) [some (.ref (85)), none, none, none, none] := qLs_ar 4
        refine q_iconst (show mE (mtv 266) 0 = some (.iconst 0, 1, 0, 0) from rfl) kI_0 ?_
        refine q_istore_n (show mE (mtv 266) 1 = some (.istore_n 1, 1, 0, 0) from rfl) (Nat.le_of_ble_eq_true rfl) hl24 (fun lv25 (hl26 : qLs lv25 [some (.ref (85)), some (.int ((0 : Int32))), none, none, none]) => ?_)
        refine q_iconst (show mE (mtv 266) 2 = some (.iconst 0, 1, 0, 0) from rfl) kI_0 ?_
        refine q_istore_n (show mE (mtv 266) 3 = some (.istore_n 2, 1, 0, 0) from rfl) (Nat.le_of_ble_eq_true rfl) hl26 (fun lv27 (hl28 : qLs lv27 [some (.ref (85)), some (.int ((0 : Int32))), some (.int ((0 : Int32))), none, none]) => ?_)
        exact p1 c2 c3 c4 bb7 bb19 h20 t21 _ lv27 (qLs_wk hl28 (⟨rfl, rfl, rfl, trivial⟩))
      · refine q_throw (show mE (mtv 132) 54 = some (.new 126, 3, 1001, 0) from rfl) (by decide) ?_
        refine qKh_x (hp := 17) (c := (18, sDr 2 (lv_args 0 [.ref (0), .ref (117)]), [], h)) rfl (by decide) (fun _ _ => rfl) ?_
        refine q_iconst (show mE (mtv 131) 18 = some (.iconst 3, 1, 0, 0) from rfl) kI_3 ?_
        refine q_ireturn (show mE (mtv 131) 19 = some (.ireturn, 1, 0, 0) from rfl) ?_
        intro r29 g30
        have g30 : qGo 266 [.ref (85)] h r29 := g30
        refine qGo_w (Q := fun r2 => opE (.inl (some (.int ((3 : Int32))))) r2.1 r2.2 RK) g30 (fun _ => ?_)
        have hl31 : qLs (lv_args 0 [.ref (85)]) [some (.ref (85)), none, none, none, none] := qLs_ar 4
        refine q_iconst (show mE (mtv 266) 0 = some (.iconst 0, 1, 0, 0) from rfl) kI_0 ?_
        refine q_istore_n (show mE (mtv 266) 1 = some (.istore_n 1, 1, 0, 0) from rfl) (Nat.le_of_ble_eq_true rfl) hl31 (fun lv32 (hl33 : qLs lv32 [some (.ref (85)), some (.int ((0 : Int32))), none, none, none]) => ?_)
        refine q_iconst (show mE (mtv 266) 2 = some (.iconst 0, 1, 0, 0) from rfl) kI_0 ?_
        refine q_istore_n (show mE (mtv 266) 3 = some (.istore_n 2, 1, 0, 0) from rfl) (Nat.le_of_ble_eq_true rfl) hl33 (fun lv34 (hl35 : qLs lv34 [some (.ref (85)), some (.int ((0 : Int32))), some (.int ((0 : Int32))), none, none]) => ?_)
        exact p2 c2 c3 c4 _ lv34 (qLs_wk hl35 (⟨rfl, rfl, rfl, trivial⟩))
    · refine q_throw (show mE (mtv 132) 35 = some (.new 94, 3, 1003, 0) from rfl) (by decide) ?_
      refine qKh_x (hp := 14) (c := (15, sDr 2 (lv_args 0 [.ref (0), .ref (117)]), [], h)) rfl (by decide) (fun _ _ => rfl) ?_
      refine q_iconst (show mE (mtv 131) 15 = some (.iconst 2, 1, 0, 0) from rfl) kI_2 ?_
      refine q_ireturn (show mE (mtv 131) 16 = some (.ireturn, 1, 0, 0) from rfl) ?_
      intro r36 g37
      have g37 : qGo 266 [.ref (85)] h r36 := g37
      refine qGo_w (Q := fun r2 => opE (.inl (some (.int ((2 : Int32))))) r2.1 r2.2 RK) g37 (fun _ => ?_)
      have hl38 : qLs (lv_args 0 [.ref (85)]) [some (.ref (85)), none, none, none, none] := qLs_ar 4
      refine q_iconst (show mE (mtv 266) 0 = some (.iconst 0, 1, 0, 0) from rfl) kI_0 ?_
      refine q_istore_n (show mE (mtv 266) 1 = some (.istore_n 1, 1, 0, 0) from rfl) (Nat.le_of_ble_eq_true rfl) hl38 (fun lv39 (hl40 : qLs lv39 [some (.ref (85)), some (.int ((0 : Int32))), none, none, none]) => ?_)
      refine q_iconst (show mE (mtv 266) 2 = some (.iconst 0, 1, 0, 0) from rfl) kI_0 ?_
      refine q_istore_n (show mE (mtv 266) 3 = some (.istore_n 2, 1, 0, 0) from rfl) (Nat.le_of_ble_eq_true rfl) hl40 (fun lv41 (hl42 : qLs lv41 [some (.ref (85)), some (.int ((0 : Int32))), some (.int ((0 : Int32))), none, none]) => ?_)
      exact p3 c2 c3 _ lv41 (qLs_wk hl42 (⟨rfl, rfl, rfl, trivial⟩))
  · refine q_throw (show mE (mtv 132) 10 = some (.new 81, 3, 1000, 0) from rfl) (by decide) ?_
    refine qKh_x (hp := 11) (c := (12, sDr 2 (lv_args 0 [.ref (0), .ref (117)]), [], h)) rfl (by decide) (fun _ _ => rfl) ?_
    refine q_iconst (show mE (mtv 131) 12 = some (.iconst 1, 1, 0, 0) from rfl) kI_1 ?_
    refine q_ireturn (show mE (mtv 131) 13 = some (.ireturn, 1, 0, 0) from rfl) ?_
    intro r43 g44
    have g44 : qGo 266 [.ref (85)] h r43 := g44
    refine qGo_w (Q := fun r2 => opE (.inl (some (.int ((1 : Int32))))) r2.1 r2.2 RK) g44 (fun _ => ?_)
    have hl45 : qLs (lv_args 0 [.ref (85)]) [some (.ref (85)), none, none, none, none] := qLs_ar 4
    refine q_iconst (show mE (mtv 266) 0 = some (.iconst 0, 1, 0, 0) from rfl) kI_0 ?_
    refine q_istore_n (show mE (mtv 266) 1 = some (.istore_n 1, 1, 0, 0) from rfl) (Nat.le_of_ble_eq_true rfl) hl45 (fun lv46 (hl47 : qLs lv46 [some (.ref (85)), some (.int ((0 : Int32))), none, none, none]) => ?_)
    refine q_iconst (show mE (mtv 266) 2 = some (.iconst 0, 1, 0, 0) from rfl) kI_0 ?_
    refine q_istore_n (show mE (mtv 266) 3 = some (.istore_n 2, 1, 0, 0) from rfl) (Nat.le_of_ble_eq_true rfl) hl47 (fun lv48 (hl49 : qLs lv48 [some (.ref (85)), some (.int ((0 : Int32))), some (.int ((0 : Int32))), none, none]) => ?_)
    exact p4 c2 _ lv48 (qLs_wk hl49 (⟨rfl, rfl, rfl, trivial⟩))
theorem ok_28 {h : sH} {I : Nat → Nat → Int32} {L : Nat → Nat → Int64} {R : Nat → Nat} (th : qH h I L R) (hK : RK I L R) (hG : RG I) {r : sR} (gW : qGo 131 [.ref (0), .ref (117)] h r) : ∀ r2 : sR, qGo 266 [.ref (85)] r.2 r2 → opE r.1 r2.1 r2.2 RK := qp_28 th hK hG gW
  (fun c2 c3 c4 _ _ h20 t21 N lv hl => by
    have hm := hK.mi
    have hbb := hm.bb
    have sc := hm.sc
    have c6 := hm.c6
    have e : ∀ a b, ¬ (a = 0 ∧ b = 12) → ¬ (a = 1 ∧ b = 6) → upI (upI I 0 12 ((I 0 12) + (1 : Int32))) 1 6 (0 : Int32) a b = I a b := fun a b q1 q2 => by rw [upI_ne q2, upI_ne q1]
    have nz : ¬ szI I = 0 := fun z => c2 (by rw [hK.s1, z]; rfl)
    have n4 : nbI I < 4 := by
      rw [hK.b1] at c4
      exact (oN_lt (b := 4) (by omega) (by decide)).mp c4
    have pc : ∀ b l, pfx (upI (upI I 0 12 ((I 0 12) + (1 : Int32))) 1 6 (0 : Int32)) (szI I) l b ↔ pfx I (szI I) l b := fun b l => pfx_cg (fun b => e 87 b (by omega) (by omega)) (fun b => e 105 b (by omega) (by omega))
    have np : ∀ b, b < nbI I → ¬ pfx I (szI I) (I 104 b).toNatClampNeg b := by
      rw [hK.n12, cnt_133 hK (nbI I) 0 (by omega)] at c3
      have := Classical.not_not.mp c3
      exact fun b hb => this b (Nat.zero_le _) (by omega)
    rw [hK.n12] at t21
    refine qW_mono ?_ ((fl_266 N).1 _ _ _ 0 0 lv h20 t21 hl)
    rintro r ⟨n, x, ex, h1, rfl, q2⟩
    rcases (sem_266 (len := fun b => (I 104 b).toNatClampNeg) ((e 85 34 (by omega) (by omega)).trans hm.s) (by omega) ((e 85 46 (by omega) (by omega)).trans hm.b) hbb (fun b hb => by
      obtain ⟨y, y1, y2, y3⟩ := hm.bs b hb
      refine ⟨?_, ?_⟩
      · show _ = Int32.ofNat ((I 104 b).toNatClampNeg)
        rw [e 104 b (by omega) (by omega), y3, ofN_clamp (by omega)]
      · show (I 104 b).toNatClampNeg ≤ 6
        rw [y3, ofN_clamp (by omega)]; omega) n).1 0 0 0 0 x (Nat.zero_le _) ⟨fun _ b hb => absurd hb (Nat.not_lt_zero b), fun _ => rfl⟩ ex with ⟨s1, _⟩ | ⟨_, s2, _⟩ | ⟨_, _, s3, _⟩ | ⟨_, _, _, s4⟩
    · exact absurd s1 nz
    · exact absurd (fun b hb => fun z => np b hb ((pc b _).mp z)) s2
    · omega
    · refine ⟨0, x.1, x.2, _, R, rfl, rfl, q2, s4.2.2.2.2.1, fun _ => upL_s.trans (congrArg Int32.toInt64 ?_), RK_L (RK_blk (v := x.1) hK nz n4 np e ?_ upI_s s4 (fun k hk => ?_) upL_s ?_ (fun b hb => ?_))⟩
      · rw [hK.b1, s4.1]
      · rw [upI_ne (by omega), upI_s, hK.b1, oN_s]
      · rw [upL_ne (by omega), upL_ne (by omega)]
      · rw [upL_ne (by omega), upL_s]
      · rw [upL_ne (by omega), upL_ne (by omega)])
  (fun c2 c3 c4 N lv hl => by
    have hm := hK.mi
    have hbb := hm.bb
    have sc := hm.sc
    have c6 := hm.c6
    have nz : ¬ szI I = 0 := fun z => c2 (by rw [hK.s1, z]; rfl)
    have np : ∀ b, b < nbI I → ¬ pfx I (szI I) (I 104 b).toNatClampNeg b := by
      rw [hK.n12, cnt_133 hK (nbI I) 0 (by omega)] at c3
      have := Classical.not_not.mp c3
      exact fun b hb => this b (Nat.zero_le _) (by omega)
    have n4 : nbI I = 4 := by
      rw [hK.b1] at c4
      have := mt (oN_lt (b := 4) (by omega) (by decide)).mpr c4
      omega
    refine qW_mono ?_ ((fl_266 N).1 _ _ _ 0 0 lv h th hl)
    rintro r ⟨n, x, ex, h1, rfl, q2⟩
    rcases (sem_266 (len := fun b => (I 104 b).toNatClampNeg) hm.s (by omega) hm.b hbb (fun b hb => by
      obtain ⟨y, y1, y2, y3⟩ := hm.bs b hb
      refine ⟨?_, ?_⟩
      · show _ = Int32.ofNat ((I 104 b).toNatClampNeg)
        rw [y3, ofN_clamp (by omega)]
      · show (I 104 b).toNatClampNeg ≤ 6
        rw [y3, ofN_clamp (by omega)]; omega) n).1 0 0 0 0 x (Nat.zero_le _) ⟨fun _ b hb => absurd hb (Nat.not_lt_zero b), fun _ => rfl⟩ ex with ⟨s1, s0⟩ | ⟨s1, s2, s0⟩ | ⟨s1, s2, s3, s0⟩ | ⟨s1, s2, s3, s4⟩
    · exact absurd s1 nz
    · exact absurd np s2
    · subst s0
      exact ⟨3, 0, upI I 85 42 3, L, R, rfl, rfl, q2, upI_s, fun z => absurd z (by decide), RK_t 3 hK⟩
    · exact absurd n4 s3)
  (fun c2 c3 N lv hl => by
    have hm := hK.mi
    have hbb := hm.bb
    have sc := hm.sc
    have c6 := hm.c6
    have nz : ¬ szI I = 0 := fun z => c2 (by rw [hK.s1, z]; rfl)
    have ny : ¬ ∀ b, b < nbI I → ¬ pfx I (szI I) (I 104 b).toNatClampNeg b := by
      rw [hK.n12, cnt_133 hK (nbI I) 0 (by omega)] at c3
      exact fun z => c3 (fun b _ hb => z b (by omega))
    refine qW_mono ?_ ((fl_266 N).1 _ _ _ 0 0 lv h th hl)
    rintro r ⟨n, x, ex, h1, rfl, q2⟩
    rcases (sem_266 (len := fun b => (I 104 b).toNatClampNeg) hm.s (by omega) hm.b hbb (fun b hb => by
      obtain ⟨y, y1, y2, y3⟩ := hm.bs b hb
      refine ⟨?_, ?_⟩
      · show _ = Int32.ofNat ((I 104 b).toNatClampNeg)
        rw [y3, ofN_clamp (by omega)]
      · show (I 104 b).toNatClampNeg ≤ 6
        rw [y3, ofN_clamp (by omega)]; omega) n).1 0 0 0 0 x (Nat.zero_le _) ⟨fun _ b hb => absurd hb (Nat.not_lt_zero b), fun _ => rfl⟩ ex with ⟨s1, s0⟩ | ⟨s1, s2, s0⟩ | ⟨s1, s2, s3, s0⟩ | ⟨s1, s2, s3, s4⟩
    · exact absurd s1 nz
    · subst s0
      exact ⟨2, 0, upI I 85 42 2, L, R, rfl, rfl, q2, upI_s, fun z => absurd z (by decide), RK_t 2 hK⟩
    · exact absurd s2 ny
    · exact absurd s2 ny)
  (fun c2 N lv hl => by
    have hm := hK.mi
    have hbb := hm.bb
    have sc := hm.sc
    have c6 := hm.c6
    have z0 : szI I = 0 := by
      rw [hK.s1] at c2
      exact (oN_inj (b := 0) (by omega) (by omega)).mp c2
    refine qW_mono ?_ ((fl_266 N).1 _ _ _ 0 0 lv h th hl)
    rintro r ⟨n, x, ex, h1, rfl, q2⟩
    rcases (sem_266 (len := fun b => (I 104 b).toNatClampNeg) hm.s (by omega) hm.b hbb (fun b hb => by
      obtain ⟨y, y1, y2, y3⟩ := hm.bs b hb
      refine ⟨?_, ?_⟩
      · show _ = Int32.ofNat ((I 104 b).toNatClampNeg)
        rw [y3, ofN_clamp (by omega)]
      · show (I 104 b).toNatClampNeg ≤ 6
        rw [y3, ofN_clamp (by omega)]; omega) n).1 0 0 0 0 x (Nat.zero_le _) ⟨fun _ b hb => absurd hb (Nat.not_lt_zero b), fun _ => rfl⟩ ex with ⟨s1, s0⟩ | ⟨s1, s2, s0⟩ | ⟨s1, s2, s3, s0⟩ | ⟨s1, s2, s3, s4⟩
    · subst s0
      exact ⟨1, 0, upI I 85 42 1, L, R, rfl, rfl, q2, upI_s, fun z => absurd z (by decide), RK_t 1 hK⟩
    · exact absurd z0 s1
    · exact absurd z0 s1
    · exact absurd z0 s1)
set_option maxHeartbeats 4000000 in
theorem qp_3 {h : sH} {I : Nat → Nat → Int32} {L : Nat → Nat → Int64} {R : Nat → Nat} (th : qH h I L R) (hK : RK I L R) (hG : RG I) {r : sR} (gW : qGo 54 [.ref (0), .ref (117)] h r)
    (p1 : ∀ (c2 : (I 1 1) ≤ (I 1 6)), ∀ (c3 : ¬ (G_56 I L ((L 1 5)) 0 ((I 0 9)).toNatClampNeg = true)), ∀ (c5 : (I 0 9) < (16 : Int32)), ∀ (bb9 : sIn (I 0 9) 16 = true), ∀ (bb29 : sIn (0 : Int32) 1 = true), ∀ (h30 : sH), ∀ (t31 : qH h30 (upI (upI (upI (upI I (19 + (I 0 9).toNatClampNeg) 1 (I 1 4)) (19 + (I 0 9).toNatClampNeg) 3 ((1 : Int32) <<< ((I 0 9) &&& 31))) 0 9 ((I 0 9) + (1 : Int32))) 1 6 (0 : Int32)) (upL (upL (upL L (19 + (I 0 9).toNatClampNeg) 0 (L 1 5)) 1 5 (0 : Int64)) 117 (((0 : Int32)).toNatClampNeg) ((I 0 9).toInt64)) R), ∀ N lv, qLs lv [some (.ref (85)), some (.int ((0 : Int32)))] → qW 216 N 2 lv [] h30 (fun r2 => opE (.inl (some (.int ((0 : Int32))))) r2.1 r2.2 RK))
    (p2 : ∀ (c2 : (I 1 1) ≤ (I 1 6)), ∀ (c3 : ¬ (G_56 I L ((L 1 5)) 0 ((I 0 9)).toNatClampNeg = true)), ∀ (c5 : ¬ (I 0 9) < (16 : Int32)), ∀ N lv, qLs lv [some (.ref (85)), some (.int ((0 : Int32)))] → qW 216 N 2 lv [] h (fun r2 => opE (.inl (some (.int ((3 : Int32))))) r2.1 r2.2 RK))
    (p3 : ∀ (c2 : (I 1 1) ≤ (I 1 6)), ∀ (c3 : G_56 I L ((L 1 5)) 0 ((I 0 9)).toNatClampNeg = true), ∀ N lv, qLs lv [some (.ref (85)), some (.int ((0 : Int32)))] → qW 216 N 2 lv [] h (fun r2 => opE (.inl (some (.int ((2 : Int32))))) r2.1 r2.2 RK))
    (p4 : ∀ (c2 : ¬ (I 1 1) ≤ (I 1 6)), ∀ N lv, qLs lv [some (.ref (85)), some (.int ((0 : Int32)))] → qW 216 N 2 lv [] h (fun r2 => opE (.inl (some (.int ((1 : Int32))))) r2.1 r2.2 RK)) : ∀ r2 : sR, qGo 216 [.ref (85)] r.2 r2 → opE r.1 r2.1 r2.2 RK := by
  refine qGo_w (Q := fun r => ∀ r2 : sR, qGo 216 [.ref (85)] r.2 r2 → opE r.1 r2.1 r2.2 RK) gW (fun N => ?_)
  have hl0 : qLs (lv_args 0 [.ref (0), .ref (117)]) [some (.ref (0)), some (.ref (117)), none] := qLs_ar 1
  refine q_aload_n (show mE (mtv 54) 0 = some (.aload_n 1, 1, 0, 0) from rfl) (hl0 1 _ rfl) ?_
  refine q_iconst (show mE (mtv 54) 1 = some (.iconst 0, 1, 0, 0) from rfl) kI_0 ?_
  refine q_aload_n (show mE (mtv 54) 2 = some (.aload_n 0, 1, 0, 0) from rfl) (hl0 0 _ rfl) ?_
  refine q_virtualIh (show mE (mtv 54) 3 = some (.invokevirtual 23, 3, 55, 8) from rfl) (by decide) rfl rfl rfl (fun _ => ?_)
  have hl1 : qLs (lv_args 0 [.ref (0)]) [some (.ref (0)), none] := qLs_ar 1
  refine q_aload_n (show mE (mtv 55) 0 = some (.aload_n 0, 1, 0, 0) from rfl) (hl1 0 _ rfl) ?_
  refine q_getR (m := 1) th (show mE (mtv 55) 1 = some (.getfield 10, 3, 8, 0) from rfl) (by decide) rfl rfl ?_
  refine q_getI th (show mE (mtv 55) 4 = some (.getfield 120, 3, 4, 6) from rfl) (by decide) rfl ?_
  refine q_aload_n (show mE (mtv 55) 7 = some (.aload_n 0, 1, 0, 0) from rfl) (hl1 0 _ rfl) ?_
  refine q_getR (m := 1) th (show mE (mtv 55) 8 = some (.getfield 10, 3, 8, 0) from rfl) (by decide) rfl rfl ?_
  refine q_getI th (show mE (mtv 55) 11 = some (.getfield 123, 3, 4, 1) from rfl) (by decide) rfl ?_
  refine q_ic_ge (t := 27) (show mE (mtv 55) 14 = some (.if_icmp .ge 13, 3, 0, 0) from rfl) rfl (fun c2 => ?_) (fun c2 => ?_)
  · refine q_aload_n (show mE (mtv 55) 27 = some (.aload_n 0, 1, 0, 0) from rfl) (hl1 0 _ rfl) ?_
    refine q_aload_n (show mE (mtv 55) 28 = some (.aload_n 0, 1, 0, 0) from rfl) (hl1 0 _ rfl) ?_
    refine q_getR (m := 1) th (show mE (mtv 55) 29 = some (.getfield 10, 3, 8, 0) from rfl) (by decide) rfl rfl ?_
    refine q_getL th (show mE (mtv 55) 32 = some (.getfield 141, 3, 4, 5) from rfl) (by decide) rfl ?_
    refine q_virtualP (show mE (mtv 55) 35 = some (.invokevirtual 145, 3, 56, 8) from rfl) (by decide) rfl rfl rfl (fun _ g => sp_56 th g) ?_
    refine q_ifb_eq (t := 51) (show mE (mtv 55) 38 = some (.ifCond .eq 13, 3, 0, 0) from rfl) rfl (fun c3 => ?_) (fun c3 => ?_)
    · refine q_aload_n (show mE (mtv 55) 51 = some (.aload_n 0, 1, 0, 0) from rfl) (hl1 0 _ rfl) ?_
      refine q_virtualI (show mE (mtv 55) 52 = some (.invokevirtual 151, 3, 57, 8) from rfl) (by decide) rfl rfl rfl (fun _ => ?_)
      have hl4 : qLs (lv_args 0 [.ref (0)]) [some (.ref (0))] := qLs_ar 0
      refine q_aload_n (show mE (mtv 57) 0 = some (.aload_n 0, 1, 0, 0) from rfl) (hl4 0 _ rfl) ?_
      refine q_getI th (show mE (mtv 57) 1 = some (.getfield 88, 3, 8, 9) from rfl) (by decide) rfl ?_
      refine q_bipush (show mE (mtv 57) 4 = some (.bipush 16, 2, 0, 0) from rfl) kB_16 ?_
      refine q_ic_lt (t := 20) (show mE (mtv 57) 6 = some (.if_icmp .lt 14, 3, 0, 0) from rfl) rfl (fun c5 => ?_) (fun c5 => ?_)
      · refine q_return_ (show mE (mtv 57) 20 = some (.return_, 1, 0, 0) from rfl) ?_
        refine qK_n ?_
        refine q_aload_n (show mE (mtv 55) 55 = some (.aload_n 0, 1, 0, 0) from rfl) (hl1 0 _ rfl) ?_
        refine q_aload_n (show mE (mtv 55) 56 = some (.aload_n 0, 1, 0, 0) from rfl) (hl1 0 _ rfl) ?_
        refine q_getR (m := 1) th (show mE (mtv 55) 57 = some (.getfield 10, 3, 8, 0) from rfl) (by decide) rfl rfl ?_
        refine q_getL th (show mE (mtv 55) 60 = some (.getfield 141, 3, 4, 5) from rfl) (by decide) rfl ?_
        refine q_virtualI (show mE (mtv 55) 63 = some (.invokevirtual 154, 3, 58, 8) from rfl) (by decide) rfl rfl rfl (fun _ => ?_)
        have hl6 : qLs (lv_args 0 [.ref (0), .long (L 1 5)]) [some (.ref (0)), some (.long (L 1 5)), none, none] := qLs_ar 1
        refine q_aload_n (show mE (mtv 58) 0 = some (.aload_n 0, 1, 0, 0) from rfl) (hl6 0 _ rfl) ?_
        refine q_getI th (show mE (mtv 58) 1 = some (.getfield 88, 3, 8, 9) from rfl) (by decide) rfl ?_
        refine q_istore_n (show mE (mtv 58) 4 = some (.istore_n 3, 1, 0, 0) from rfl) (Nat.le_of_ble_eq_true rfl) hl6 (fun lv7 (hl8 : qLs lv7 [some (.ref (0)), some (.long (L 1 5)), none, some (.int (I 0 9))]) => ?_)
        refine q_aload_n (show mE (mtv 58) 5 = some (.aload_n 0, 1, 0, 0) from rfl) (hl8 0 _ rfl) ?_
        refine q_getR (m := 12) th (show mE (mtv 58) 6 = some (.getfield 25, 3, 8, 2) from rfl) (by decide) rfl rfl ?_
        refine q_iload_n (show mE (mtv 58) 9 = some (.iload_n 3, 1, 0, 0) from rfl) (hl8 3 _ rfl) ?_
        refine q_aaload (n := 16) (t := 4) (m := 19) th (show mE (mtv 58) 10 = some (.aaload, 1, 0, 0) from rfl) (by decide) rfl (fun _ _ => rfl) (fun bb9 => ?_)
        refine q_lload_n (show mE (mtv 58) 11 = some (.lload_n 1, 1, 0, 0) from rfl) (hl8 1 _ rfl) ?_
        refine q_putL th (show mE (mtv 58) 12 = some (.putfield 165, 3, 3, 0) from rfl) (qB bb9 (by decide)) rfl (fun h10 t11 => ?_)
        refine q_aload_n (show mE (mtv 58) 15 = some (.aload_n 0, 1, 0, 0) from rfl) (hl8 0 _ rfl) ?_
        refine q_getR (m := 12) t11 (show mE (mtv 58) 16 = some (.getfield 25, 3, 8, 2) from rfl) (by decide) rfl rfl ?_
        refine q_iload_n (show mE (mtv 58) 19 = some (.iload_n 3, 1, 0, 0) from rfl) (hl8 3 _ rfl) ?_
        refine q_aaload (n := 16) (t := 4) (m := 19) t11 (show mE (mtv 58) 20 = some (.aaload, 1, 0, 0) from rfl) (by decide) rfl (fun _ _ => rfl) (fun bb12 => ?_)
        refine q_aload_n (show mE (mtv 58) 21 = some (.aload_n 0, 1, 0, 0) from rfl) (hl8 0 _ rfl) ?_
        refine q_getR (m := 1) t11 (show mE (mtv 58) 22 = some (.getfield 10, 3, 8, 0) from rfl) (by decide) rfl rfl ?_
        refine q_getI t11 (show mE (mtv 58) 25 = some (.getfield 260, 3, 4, 4) from rfl) (by decide) rfl ?_
        refine q_putI t11 (show mE (mtv 58) 28 = some (.putfield 263, 3, 3, 1) from rfl) (qB bb12 (by decide)) rfl (fun h13 t14 => ?_)
        refine q_aload_n (show mE (mtv 58) 31 = some (.aload_n 0, 1, 0, 0) from rfl) (hl8 0 _ rfl) ?_
        refine q_getR (m := 12) t14 (show mE (mtv 58) 32 = some (.getfield 25, 3, 8, 2) from rfl) (by decide) rfl rfl ?_
        refine q_iload_n (show mE (mtv 58) 35 = some (.iload_n 3, 1, 0, 0) from rfl) (hl8 3 _ rfl) ?_
        refine q_aaload (n := 16) (t := 4) (m := 19) t14 (show mE (mtv 58) 36 = some (.aaload, 1, 0, 0) from rfl) (by decide) rfl (fun _ _ => rfl) (fun bb15 => ?_)
        refine q_iconst (show mE (mtv 58) 37 = some (.iconst 1, 1, 0, 0) from rfl) kI_1 ?_
        refine q_iload_n (show mE (mtv 58) 38 = some (.iload_n 3, 1, 0, 0) from rfl) (hl8 3 _ rfl) ?_
        refine q_ishl (show mE (mtv 58) 39 = some (.ishl, 1, 0, 0) from rfl) ?_
        refine q_putI t14 (show mE (mtv 58) 40 = some (.putfield 372, 3, 3, 3) from rfl) (qB bb15 (by decide)) rfl (fun h16 t17 => ?_)
        refine q_aload_n (show mE (mtv 58) 43 = some (.aload_n 0, 1, 0, 0) from rfl) (hl8 0 _ rfl) ?_
        refine q_iload_n (show mE (mtv 58) 44 = some (.iload_n 3, 1, 0, 0) from rfl) (hl8 3 _ rfl) ?_
        refine q_iconst (show mE (mtv 58) 45 = some (.iconst 1, 1, 0, 0) from rfl) kI_1 ?_
        refine q_iadd (show mE (mtv 58) 46 = some (.iadd, 1, 0, 0) from rfl) ?_
        refine q_putI t17 (show mE (mtv 58) 47 = some (.putfield 88, 3, 8, 9) from rfl) (by decide) rfl (fun h18 t19 => ?_)
        refine q_iload_n (show mE (mtv 58) 50 = some (.iload_n 3, 1, 0, 0) from rfl) (hl8 3 _ rfl) ?_
        refine q_ireturn (show mE (mtv 58) 51 = some (.ireturn, 1, 0, 0) from rfl) ?_
        refine qK_v ?_
        refine q_istore_n (show mE (mtv 55) 66 = some (.istore_n 1, 1, 0, 0) from rfl) (Nat.le_of_ble_eq_true rfl) hl1 (fun lv20 (hl21 : qLs lv20 [some (.ref (0)), some (.int (I 0 9))]) => ?_)
        refine q_aload_n (show mE (mtv 55) 67 = some (.aload_n 0, 1, 0, 0) from rfl) (hl21 0 _ rfl) ?_
        refine q_getR (m := 1) t19 (show mE (mtv 55) 68 = some (.getfield 10, 3, 8, 0) from rfl) (by decide) rfl rfl ?_
        refine q_virtualI (show mE (mtv 55) 71 = some (.invokevirtual 135, 3, 10, 4) from rfl) (by decide) rfl rfl rfl (fun _ => ?_)
        have hl22 : qLs (lv_args 0 [.ref (1)]) [some (.ref (1)), none] := qLs_ar 1
        refine q_aload_n (show mE (mtv 10) 0 = some (.aload_n 0, 1, 0, 0) from rfl) (hl22 0 _ rfl) ?_
        refine q_getIe t19 (show mE (mtv 10) 1 = some (.getfield 30, 3, 4, 6) from rfl) (by decide) rfl ((upI_n (Or.inr (by decide))).trans ((upI_n (Or.inr (by decide))).trans (upI_n (Or.inr (by decide))))) ?_
        refine q_istore_n (show mE (mtv 10) 4 = some (.istore_n 1, 1, 0, 0) from rfl) (Nat.le_of_ble_eq_true rfl) hl22 (fun lv23 (hl24 : qLs lv23 [some (.ref (1)), some (.int (I 1 6))]) => ?_)
        refine q_aload_n (show mE (mtv 10) 5 = some (.aload_n 0, 1, 0, 0) from rfl) (hl24 0 _ rfl) ?_
        refine q_lconst (show mE (mtv 10) 6 = some (.lconst 0, 1, 0, 0) from rfl) kL_0 ?_
        refine q_putL t19 (show mE (mtv 10) 7 = some (.putfield 33, 3, 4, 5) from rfl) (by decide) rfl (fun h25 t26 => ?_)
        refine q_aload_n (show mE (mtv 10) 10 = some (.aload_n 0, 1, 0, 0) from rfl) (hl24 0 _ rfl) ?_
        refine q_iconst (show mE (mtv 10) 11 = some (.iconst 0, 1, 0, 0) from rfl) kI_0 ?_
        refine q_putI t26 (show mE (mtv 10) 12 = some (.putfield 30, 3, 4, 6) from rfl) (by decide) rfl (fun h27 t28 => ?_)
        refine q_iload_n (show mE (mtv 10) 15 = some (.iload_n 1, 1, 0, 0) from rfl) (hl24 1 _ rfl) ?_
        refine q_ireturn (show mE (mtv 10) 16 = some (.ireturn, 1, 0, 0) from rfl) ?_
        refine qK_v ?_
        refine q_popI (show mE (mtv 55) 74 = some (.pop, 1, 0, 0) from rfl) ?_
        refine q_iload_n (show mE (mtv 55) 75 = some (.iload_n 1, 1, 0, 0) from rfl) (hl21 1 _ rfl) ?_
        refine q_ireturn (show mE (mtv 55) 76 = some (.ireturn, 1, 0, 0) from rfl) ?_
        refine qKh_v ?_
        refine q_i2l (show mE (mtv 54) 6 = some (.i2l, 1, 0, 0) from rfl) ?_
        refine q_lastore (n := 1) t28 (show mE (mtv 54) 7 = some (.lastore, 1, 0, 0) from rfl) (by decide) rfl (fun bb29 h30 t31 => ?_)
        refine q_goto (t := 20) (show mE (mtv 54) 8 = some (.goto 12, 3, 0, 0) from rfl) rfl ?_
        refine q_iconst (show mE (mtv 54) 20 = some (.iconst 0, 1, 0, 0) from rfl) kI_0 ?_
        refine q_ireturn (show mE (mtv 54) 21 = some (.ireturn, 1, 0, 0) from rfl) ?_
        intro r32 g33
        have g33 : qGo 216 [.ref (85)] h30 r32 := g33
        refine qGo_w (Q := fun r2 => opE (.inl (some (.int ((0 : Int32))))) r2.1 r2.2 RK) g33 (fun _ => ?_)
        have hl34 : qLs (lv_args 0 [.ref (85)]) [some (.ref (85)), none] := qLs_ar 1
        refine q_iconst (show mE (mtv 216) 0 = some (.iconst 0, 1, 0, 0) from rfl) kI_0 ?_
        refine q_istore_n (show mE (mtv 216) 1 = some (.istore_n 1, 1, 0, 0) from rfl) (Nat.le_of_ble_eq_true rfl) hl34 (fun lv35 (hl36 : qLs lv35 [some (.ref (85)), some (.int ((0 : Int32)))]) => ?_)
        exact p1 c2 c3 c5 bb9 bb29 h30 t31 _ lv35 (qLs_wk hl36 (⟨rfl, rfl, trivial⟩))
      · refine q_throw (show mE (mtv 57) 9 = some (.new 126, 3, 1001, 0) from rfl) (by decide) ?_
        refine qK_x ?_
        refine qKh_x (hp := 17) (c := (18, sDr 2 (lv_args 0 [.ref (0), .ref (117)]), [], h)) rfl (by decide) (fun _ _ => rfl) ?_
        refine q_iconst (show mE (mtv 54) 18 = some (.iconst 3, 1, 0, 0) from rfl) kI_3 ?_
        refine q_ireturn (show mE (mtv 54) 19 = some (.ireturn, 1, 0, 0) from rfl) ?_
        intro r37 g38
        have g38 : qGo 216 [.ref (85)] h r37 := g38
        refine qGo_w (Q := fun r2 => opE (.inl (some (.int ((3 : Int32))))) r2.1 r2.2 RK) g38 (fun _ => ?_)
        have hl39 : qLs (lv_args 0 [.ref (85)]) [some (.ref (85)), none] := qLs_ar 1
        refine q_iconst (show mE (mtv 216) 0 = some (.iconst 0, 1, 0, 0) from rfl) kI_0 ?_
        refine q_istore_n (show mE (mtv 216) 1 = some (.istore_n 1, 1, 0, 0) from rfl) (Nat.le_of_ble_eq_true rfl) hl39 (fun lv40 (hl41 : qLs lv40 [some (.ref (85)), some (.int ((0 : Int32)))]) => ?_)
        exact p2 c2 c3 c5 _ lv40 (qLs_wk hl41 (⟨rfl, rfl, trivial⟩))
    · refine q_throw (show mE (mtv 55) 41 = some (.new 94, 3, 1003, 0) from rfl) (by decide) ?_
      refine qKh_x (hp := 14) (c := (15, sDr 2 (lv_args 0 [.ref (0), .ref (117)]), [], h)) rfl (by decide) (fun _ _ => rfl) ?_
      refine q_iconst (show mE (mtv 54) 15 = some (.iconst 2, 1, 0, 0) from rfl) kI_2 ?_
      refine q_ireturn (show mE (mtv 54) 16 = some (.ireturn, 1, 0, 0) from rfl) ?_
      intro r42 g43
      have g43 : qGo 216 [.ref (85)] h r42 := g43
      refine qGo_w (Q := fun r2 => opE (.inl (some (.int ((2 : Int32))))) r2.1 r2.2 RK) g43 (fun _ => ?_)
      have hl44 : qLs (lv_args 0 [.ref (85)]) [some (.ref (85)), none] := qLs_ar 1
      refine q_iconst (show mE (mtv 216) 0 = some (.iconst 0, 1, 0, 0) from rfl) kI_0 ?_
      refine q_istore_n (show mE (mtv 216) 1 = some (.istore_n 1, 1, 0, 0) from rfl) (Nat.le_of_ble_eq_true rfl) hl44 (fun lv45 (hl46 : qLs lv45 [some (.ref (85)), some (.int ((0 : Int32)))]) => ?_)
      exact p3 c2 c3 _ lv45 (qLs_wk hl46 (⟨rfl, rfl, trivial⟩))
  · refine q_throw (show mE (mtv 55) 17 = some (.new 81, 3, 1000, 0) from rfl) (by decide) ?_
    refine qKh_x (hp := 11) (c := (12, sDr 2 (lv_args 0 [.ref (0), .ref (117)]), [], h)) rfl (by decide) (fun _ _ => rfl) ?_
    refine q_iconst (show mE (mtv 54) 12 = some (.iconst 1, 1, 0, 0) from rfl) kI_1 ?_
    refine q_ireturn (show mE (mtv 54) 13 = some (.ireturn, 1, 0, 0) from rfl) ?_
    intro r47 g48
    have g48 : qGo 216 [.ref (85)] h r47 := g48
    refine qGo_w (Q := fun r2 => opE (.inl (some (.int ((1 : Int32))))) r2.1 r2.2 RK) g48 (fun _ => ?_)
    have hl49 : qLs (lv_args 0 [.ref (85)]) [some (.ref (85)), none] := qLs_ar 1
    refine q_iconst (show mE (mtv 216) 0 = some (.iconst 0, 1, 0, 0) from rfl) kI_0 ?_
    refine q_istore_n (show mE (mtv 216) 1 = some (.istore_n 1, 1, 0, 0) from rfl) (Nat.le_of_ble_eq_true rfl) hl49 (fun lv50 (hl51 : qLs lv50 [some (.ref (85)), some (.int ((0 : Int32)))]) => ?_)
    exact p4 c2 _ lv50 (qLs_wk hl51 (⟨rfl, rfl, trivial⟩))
theorem ok_3 {h : sH} {I : Nat → Nat → Int32} {L : Nat → Nat → Int64} {R : Nat → Nat} (th : qH h I L R) (hK : RK I L R) (hG : RG I) {r : sR} (gW : qGo 54 [.ref (0), .ref (117)] h r) : ∀ r2 : sR, qGo 216 [.ref (85)] r.2 r2 → opE r.1 r2.1 r2.2 RK := qp_3 th hK hG gW
  (fun c2 c3 c5 _ _ h30 t31 N lv hl => by
    have hm := hK.mi
    have hkb := hm.kb
    have c6 := hm.c6
    have sc := hm.sc
    have g14 : I 85 43 = I 1 4 := hG.1.2.2.2.2.2.2.2
    have n16 : nkI I < 16 := by
      rw [hK.k1] at c5
      exact (oN_lt (b := 16) (by omega) (by decide)).mp c5
    have esz : szI I = ncI I := by
      rw [hK.c1, hK.s1] at c2
      have := (oN_le (by omega) (by omega)).mp c2
      omega
    rw [hK.n9] at t31
    have e1 : ∀ a b, 45 ≤ a → upI (upI (upI (upI I (19 + nkI I) 1 (I 1 4)) (19 + nkI I) 3 ((1 : Int32) <<< ((I 0 9) &&& 31))) 0 9 ((I 0 9) + (1 : Int32))) 1 6 (0 : Int32) a b = I a b := fun a b q => by
      rw [upI_ne (by omega), upI_ne (by omega), upI_ne (by omega), upI_ne (by omega)]
    refine lk_216 ((e1 85 31 (by omega)).trans hm.c) c6 (fun J ha ht _ v3 q1 q2 q3 v15 j11 h12 t13 ad => ?_) (fun J ha ht _ v3 q1 q2 q3 h16 t17 => ?_) (fun J ha ht _ v3 q1 q2 h18 t19 => ?_) (fun J ha q1 h20 t21 => ?_) N _ 0 lv h30 t31 (fun _ _ _ => rfl) (fun c hc => absurd hc (Nat.not_lt_zero c)) (Nat.zero_le _) hl
    · have aJ : ∀ a b, a ≠ 91 → 45 ≤ a → J a b = I a b := fun a b y1 y2 => (ha a b y1).trans (e1 a b y2)
      obtain ⟨r1, r2, r3, r4, r5, r6⟩ := ad (nkI I) (ncI I) (by rw [upI_ne (by omega), upI_ne (by omega), aJ 85 35 (by omega) (by omega)]; exact hm.k) n16 (by rw [upI_ne (by omega), upI_ne (by omega), aJ 85 31 (by omega) (by omega)]; exact hm.c) c6
      have jB : ∀ a b, ¬ ((a = 85 ∧ b = 35) ∨ (a = 88 ∧ b = nkI I) ∨ (a = 95 ∧ b = nkI I) ∨ (a = 86 ∧ 6 * nkI I ≤ b)) → a ≠ 91 → ¬ (a = 85 ∧ b = 42) → ¬ (a = 85 ∧ b = 34) → j11 a b = upI (upI (upI (upI I (19 + nkI I) 1 (I 1 4)) (19 + nkI I) 3 ((1 : Int32) <<< ((I 0 9) &&& 31))) 0 9 ((I 0 9) + (1 : Int32))) 1 6 (0 : Int32) a b := fun a b y1 y2 y3 y4 => by
        rw [r6 a b y1, upI_ne y4, upI_ne y3, ha a b y2]
      have jE : ∀ a b, ¬ ((a = 85 ∧ b = 35) ∨ (a = 88 ∧ b = nkI I) ∨ (a = 95 ∧ b = nkI I) ∨ (a = 86 ∧ 6 * nkI I ≤ b)) → a ≠ 91 → ¬ (a = 85 ∧ b = 42) → ¬ (a = 85 ∧ b = 34) → ¬ (a = 1 ∧ b = 6) → ¬ (a = 0 ∧ b = 9) → ¬ (a = 19 + nkI I ∧ (b = 1 ∨ b = 3)) → j11 a b = I a b := fun a b y1 y2 y3 y4 y5 y6 y7 => by
        rw [jB a b y1 y2 y3 y4, upI_ne y5, upI_ne y6, upI_ne (by omega), upI_ne (by omega)]
      refine ⟨0, v15, j11, _, R, rfl, rfl, t13, ?_, fun _ => upL_s.trans (congrArg Int32.toInt64 ?_), RK_L (RK_add hK g14 n16 esz (fun a b y1 y2 y3 y4 => ?_) ?_ ?_ upL_s (fun b => ?_) ?_ (fun k hk => ?_) r2 ?_ (fun c hc => ?_) (fun k c h1 h2 => ?_) r3 (fun k hk => ?_) ?_ (fun k hk => ?_) ?_ (fun k hk => ?_) ?_ (fun k hk => ?_))⟩
      · rw [r6 85 42 (by omega), upI_ne (by omega), upI_s]
      · rw [r1, hK.k1]
      · exact jE a b (by omega) (fun z => y1 (by unfold scr; omega)) (fun z => y1 (by unfold scr; omega)) y4 y3 (by omega) (by omega)
      · rw [jB 1 6 (by omega) (by omega) (by omega) (by omega), upI_s]
      · rw [r6 85 34 (by omega), upI_s]
      · rw [upL_ne (by omega), upL_ne (by omega)]
      · rw [upL_ne (by omega), upL_s]
      · rw [upL_ne (by omega), upL_ne (by omega)]
      · rw [jB 0 9 (by omega) (by omega) (by omega) (by omega), upI_ne (by omega), upI_s, hK.k1, oN_s]
      · rw [r5 c hc, upI_ne (by omega), upI_ne (by omega), ht c hc, e1 87 c (by omega)]
      · exact jE 86 _ (by omega) (by omega) (by omega) (by omega) (by omega) (by omega) (by omega)
      · exact jE 88 k (by omega) (by omega) (by omega) (by omega) (by omega) (by omega) (by omega)
      · rw [r4, upI_ne (by omega), upI_ne (by omega), aJ 85 43 (by omega) (by omega)]
      · exact jE 95 k (by omega) (by omega) (by omega) (by omega) (by omega) (by omega) (by omega)
      · rw [jB _ 1 (by omega) (by omega) (by omega) (by omega), upI_ne (by omega), upI_ne (by omega), upI_ne (by omega), upI_s, g14]
      · exact jE _ 1 (by omega) (by omega) (by omega) (by omega) (by omega) (by omega) (by omega)
      · rw [jB _ 3 (by omega) (by omega) (by omega) (by omega), upI_ne (by omega), upI_ne (by omega), upI_s, hK.k1]
      · exact jE _ 3 (by omega) (by omega) (by omega) (by omega) (by omega) (by omega) (by omega)
    · exfalso
      rw [e1 85 35 (by omega), hm.k] at q3
      have := (oN_inj (b := 16) (by omega) (by omega)).mp q3
      omega
    · exact absurd ((same_E hK g14 c2 (fun a b y1 y2 y3 => (ha a b y1).trans (e1 a b (by omega))) (fun c hc => (ht c hc).trans (e1 87 c (by omega))) q1).mpr q2) c3
    · exfalso
      rw [e1 85 31 (by omega), e1 85 34 (by omega), ← hK.ch, ← hK.sz] at q1
      exact q1 c2)
  (fun c2 c3 c5 N lv hl => by
    have hm := hK.mi
    have hkb := hm.kb
    have g14 : I 85 43 = I 1 4 := hG.1.2.2.2.2.2.2.2
    refine lk_216 hm.c hm.c6 (fun J ha ht _ v3 q1 q2 q3 v15 j11 h12 t13 ad => ?_) (fun J ha ht _ v3 q1 q2 q3 h16 t17 => ?_) (fun J ha ht _ v3 q1 q2 h18 t19 => ?_) (fun J ha q1 h20 t21 => ?_) N _ 0 lv h th (fun _ _ _ => rfl) (fun c hc => absurd hc (Nat.not_lt_zero c)) (Nat.zero_le _) hl
    · exfalso
      rw [hK.k1] at c5
      have := mt (oN_lt (b := 16) (by omega) (by decide)).mpr c5
      exact q3 (by rw [hm.k, show nkI I = 16 by omega]; rfl)
    · exact ⟨3, 0, _, L, R, rfl, rfl, t17, upI_s, fun z => absurd z (by decide), RK_s hK (agS_up scr_t (agS9 ha)) (fun _ _ => rfl) rfl (fun _ => rfl)⟩
    · exact absurd ((same_E hK g14 c2 (fun a b y1 y2 y3 => ha a b y1) ht q1).mpr q2) c3
    · exact absurd (by rw [← hK.ch, ← hK.sz]; exact c2) q1)
  (fun c2 c3 N lv hl => by
    have hm := hK.mi
    have g14 : I 85 43 = I 1 4 := hG.1.2.2.2.2.2.2.2
    refine lk_216 hm.c hm.c6 (fun J ha ht _ v3 q1 q2 q3 v15 j11 h12 t13 ad => ?_) (fun J ha ht _ v3 q1 q2 q3 h16 t17 => ?_) (fun J ha ht _ v3 q1 q2 h18 t19 => ?_) (fun J ha q1 h20 t21 => ?_) N _ 0 lv h th (fun _ _ _ => rfl) (fun c hc => absurd hc (Nat.not_lt_zero c)) (Nat.zero_le _) hl
    · exact absurd q2 ((same_E hK g14 c2 (fun a b y1 y2 y3 => ha a b y1) ht q1).mp c3)
    · exact absurd q2 ((same_E hK g14 c2 (fun a b y1 y2 y3 => ha a b y1) ht q1).mp c3)
    · exact ⟨2, 0, _, L, R, rfl, rfl, t19, upI_s, fun z => absurd z (by decide), RK_s hK (agS_up scr_t (agS9 ha)) (fun _ _ => rfl) rfl (fun _ => rfl)⟩
    · exact absurd (by rw [← hK.ch, ← hK.sz]; exact c2) q1)
  (fun c2 N lv hl => by
    have hm := hK.mi
    have nc2 : ¬ I 85 31 ≤ I 85 34 := by rw [← hK.ch, ← hK.sz]; exact c2
    refine lk_216 hm.c hm.c6 (fun J ha ht q _ _ _ _ _ _ _ _ _ => absurd q nc2) (fun J ha ht q _ _ _ _ _ _ => absurd q nc2) (fun J ha ht q _ _ _ _ _ => absurd q nc2) (fun J ha q1 h20 t21 => ?_) N _ 0 lv h th (fun _ _ _ => rfl) (fun c hc => absurd hc (Nat.not_lt_zero c)) (Nat.zero_le _) hl
    exact ⟨1, 0, _, L, R, rfl, rfl, t21, upI_s, fun z => absurd z (by decide), RK_s hK (agS_up scr_t (agS9 ha)) (fun _ _ => rfl) rfl (fun _ => rfl)⟩)
set_option maxHeartbeats 4000000 in
theorem qp_0 {h : sH} {I : Nat → Nat → Int32} {L : Nat → Nat → Int64} {R : Nat → Nat} (th : qH h I L R) (hK : RK I L R) (hG : RG I) {a1 : Int32} {a2 : Int32} {a3 : Int32} {r : sR} (gW : qGo 45 [.ref (0), .int (a1), .int (a2), .int (a3), .ref (117)] h r)
    (p1 : ∀ (c2 : (3 : Int32) ≤ a1 ∧ a1 ≤ (6 : Int32)), ∀ (c11 : (2 : Int32) ≤ a2 ∧ a2 ≤ (6 : Int32)), ∀ (c21 : (1 : Int32) ≤ a3 ∧ a3 ≤ (5 : Int32)), ∀ (c34 : ¬ 0 < (I 0 9)), ∀ (c45 : (I 0 12) ≤ 0), ∀ (v60 : Int64), ∀ (e61 : allP (upI (upI (upI (upI I 1 1 a1) 1 2 a2) 1 3 a3) 1 6 (0 : Int32)) v60), ∀ (v66 : Int32), ∀ (j62 : Nat → Nat → Int32), ∀ (e65 : cwP (upI (upI (upI (upI I 1 1 a1) 1 2 a2) 1 3 a3) 1 6 (0 : Int32)) v60 a3 j62 v66), ∀ (bb67 : sIn (0 : Int32) 1 = true), ∀ (c76 : 0 < (j62 85 35)), False)
    (p2 : ∀ (c2 : (3 : Int32) ≤ a1 ∧ a1 ≤ (6 : Int32)), ∀ (c11 : (2 : Int32) ≤ a2 ∧ a2 ≤ (6 : Int32)), ∀ (c21 : (1 : Int32) ≤ a3 ∧ a3 ≤ (5 : Int32)), ∀ (c34 : ¬ 0 < (I 0 9)), ∀ (c45 : (I 0 12) ≤ 0), ∀ (v60 : Int64), ∀ (e61 : allP (upI (upI (upI (upI I 1 1 a1) 1 2 a2) 1 3 a3) 1 6 (0 : Int32)) v60), ∀ (v66 : Int32), ∀ (j62 : Nat → Nat → Int32), ∀ (e65 : cwP (upI (upI (upI (upI I 1 1 a1) 1 2 a2) 1 3 a3) 1 6 (0 : Int32)) v60 a3 j62 v66), ∀ (bb67 : sIn (0 : Int32) 1 = true), ∀ (c76 : ¬ 0 < (j62 85 35)), ∀ (c79 : (j62 85 46) ≤ 0), ∀ (h88 : sH), ∀ (t89 : qH h88 (upI (upI (upI (upI (upI j62 85 42 (0 : Int32)) 85 31 a1) 85 32 a2) 85 33 a3) 85 34 (0 : Int32)) (upL (upL L 1 5 (0 : Int64)) 117 (((0 : Int32)).toNatClampNeg) ((v66).toInt64)) R), ∀ N lv, qLs lv [some (.ref (85)), none, none, none, some (.int ((0 : Int32)))] → qW 210 N 88 lv [] h88 (fun r2 => opE (.inl (some (.int ((0 : Int32))))) r2.1 r2.2 RK))
    (p3 : ∀ (c2 : (3 : Int32) ≤ a1 ∧ a1 ≤ (6 : Int32)), ∀ (c11 : (2 : Int32) ≤ a2 ∧ a2 ≤ (6 : Int32)), ∀ (c21 : (1 : Int32) ≤ a3 ∧ a3 ≤ (5 : Int32)), ∀ (c34 : ¬ 0 < (I 0 9)), ∀ (c45 : (I 0 12) ≤ 0), ∀ (v60 : Int64), ∀ (e61 : allP (upI (upI (upI (upI I 1 1 a1) 1 2 a2) 1 3 a3) 1 6 (0 : Int32)) v60), ∀ (v66 : Int32), ∀ (j62 : Nat → Nat → Int32), ∀ (e65 : cwP (upI (upI (upI (upI I 1 1 a1) 1 2 a2) 1 3 a3) 1 6 (0 : Int32)) v60 a3 j62 v66), ∀ (bb67 : sIn (0 : Int32) 1 = true), ∀ (c76 : ¬ 0 < (j62 85 35)), ∀ (c79 : ¬ (j62 85 46) ≤ 0), False) : ∀ r2 : sR, qGo 210 [.ref (85), .int (a1), .int (a2), .int (a3)] r.2 r2 → opE r.1 r2.1 r2.2 RK := by
  refine qGo_w (Q := fun r => ∀ r2 : sR, qGo 210 [.ref (85), .int (a1), .int (a2), .int (a3)] r.2 r2 → opE r.1 r2.1 r2.2 RK) gW (fun N => ?_)
  have hl0 : qLs (lv_args 0 [.ref (0), .int (a1), .int (a2), .int (a3), .ref (117)]) [some (.ref (0)), some (.int (a1)), some (.int (a2)), some (.int (a3)), some (.ref (117)), none] := qLs_ar 1
  refine q_aload (show mE (mtv 45) 0 = some (.aload 4, 2, 0, 0) from rfl) (hl0 4 _ rfl) ?_
  refine q_iconst (show mE (mtv 45) 2 = some (.iconst 0, 1, 0, 0) from rfl) kI_0 ?_
  refine q_aload_n (show mE (mtv 45) 3 = some (.aload_n 0, 1, 0, 0) from rfl) (hl0 0 _ rfl) ?_
  refine q_iload_n (show mE (mtv 45) 4 = some (.iload_n 1, 1, 0, 0) from rfl) (hl0 1 _ rfl) ?_
  refine q_iload_n (show mE (mtv 45) 5 = some (.iload_n 2, 1, 0, 0) from rfl) (hl0 2 _ rfl) ?_
  refine q_iload_n (show mE (mtv 45) 6 = some (.iload_n 3, 1, 0, 0) from rfl) (hl0 3 _ rfl) ?_
  refine q_virtualIh (show mE (mtv 45) 7 = some (.invokevirtual 7, 3, 46, 8) from rfl) (by decide) rfl rfl rfl (fun _ => ?_)
  have hl1 : qLs (lv_args 0 [.ref (0), .int (a1), .int (a2), .int (a3)]) [some (.ref (0)), some (.int (a1)), some (.int (a2)), some (.int (a3)), none] := qLs_ar 1
  refine q_iload_n (show mE (mtv 46) 0 = some (.iload_n 1, 1, 0, 0) from rfl) (hl1 1 _ rfl) ?_
  refine q_iconst (show mE (mtv 46) 1 = some (.iconst 3, 1, 0, 0) from rfl) kI_3 ?_
  refine q_bipush (show mE (mtv 46) 2 = some (.bipush 6, 2, 0, 0) from rfl) kB_6 ?_
  refine q_staticP (show mE (mtv 46) 4 = some (.invokestatic 77, 3, 47, 0) from rfl) (by decide) rfl rfl rfl (fun _ g => sp_47 g) ?_
  refine q_ifb_eq (t := 33) (show mE (mtv 46) 7 = some (.ifCond .eq 26, 3, 0, 0) from rfl) rfl (fun c2 => ?_) (fun c2 => ?_)
  · refine q_iconst (show mE (mtv 46) 33 = some (.iconst 0, 1, 0, 0) from rfl) kI_0 ?_
    refine q_istore (show mE (mtv 46) 34 = some (.istore 4, 2, 0, 0) from rfl) (Nat.le_of_ble_eq_true rfl) hl1 (fun lv3 (hl4 : qLs lv3 [some (.ref (0)), some (.int (a1)), some (.int (a2)), some (.int (a3)), some (.int ((0 : Int32)))]) => ?_)
    refine q_iload (show mE (mtv 46) 36 = some (.iload 4, 2, 0, 0) from rfl) (hl4 4 _ rfl) ?_
    refine q_iff (t := 51) (show mE (mtv 46) 38 = some (.ifCond .ne 13, 3, 0, 0) from rfl) (by decide) rfl ?_
    refine q_throw (show mE (mtv 46) 41 = some (.new 81, 3, 1000, 0) from rfl) (by decide) ?_
    refine qKh_x (hp := 15) (c := (17, sDr 5 (lv_args 0 [.ref (0), .int (a1), .int (a2), .int (a3), .ref (117)]), [], h)) rfl (by decide) (fun _ _ => rfl) ?_
    refine q_iconst (show mE (mtv 45) 17 = some (.iconst 1, 1, 0, 0) from rfl) kI_1 ?_
    refine q_ireturn (show mE (mtv 45) 18 = some (.ireturn, 1, 0, 0) from rfl) ?_
    intro r5 g6
    have g6 : qGo 210 [.ref (85), .int (a1), .int (a2), .int (a3)] h r5 := g6
    refine qGo_w (Q := fun r2 => opE (.inl (some (.int ((1 : Int32))))) r2.1 r2.2 RK) g6 (fun _ => ?_)
    have hl7 : qLs (lv_args 0 [.ref (85), .int (a1), .int (a2), .int (a3)]) [some (.ref (85)), some (.int (a1)), some (.int (a2)), some (.int (a3)), none] := qLs_ar 1
    refine q_aload_n (show mE (mtv 210) 0 = some (.aload_n 0, 1, 0, 0) from rfl) (hl7 0 _ rfl) ?_
    refine q_iload_n (show mE (mtv 210) 1 = some (.iload_n 1, 1, 0, 0) from rfl) (hl7 1 _ rfl) ?_
    refine q_iconst (show mE (mtv 210) 2 = some (.iconst 3, 1, 0, 0) from rfl) kI_3 ?_
    refine q_bipush (show mE (mtv 210) 3 = some (.bipush 6, 2, 0, 0) from rfl) kB_6 ?_
    refine q_staticP (show mE (mtv 210) 5 = some (.invokestatic 157, 3, 211, 0) from rfl) (by decide) rfl rfl rfl (fun _ g => sp_211 g) ?_
    refine q_ifb_eq (t := 30) (show mE (mtv 210) 8 = some (.ifCond .eq 22, 3, 0, 0) from rfl) rfl (fun c8 => ?_) (fun c8 => ?_)
    · clear c8
      refine q_iconst (show mE (mtv 210) 30 = some (.iconst 1, 1, 0, 0) from rfl) kI_1 ?_
      refine q_goto (t := 53) (show mE (mtv 210) 31 = some (.goto 22, 3, 0, 0) from rfl) rfl ?_
      refine q_putI th (show mE (mtv 210) 53 = some (.putfield 138, 3, 9, 42) from rfl) (by decide) rfl (fun h9 t10 => ?_)
      refine q_aload_n (show mE (mtv 210) 56 = some (.aload_n 0, 1, 0, 0) from rfl) (hl7 0 _ rfl) ?_
      refine q_getIe t10 (show mE (mtv 210) 57 = some (.getfield 138, 3, 9, 42) from rfl) (by decide) rfl (upI_s) ?_
      refine q_iff (t := 65) (show mE (mtv 210) 60 = some (.ifCond .le 5, 3, 0, 0) from rfl) (by decide) rfl ?_
      refine q_iconst (show mE (mtv 210) 63 = some (.iconst 0, 1, 0, 0) from rfl) kI_0 ?_
      refine q_ireturn (show mE (mtv 210) 64 = some (.ireturn, 1, 0, 0) from rfl) ?_
      exact ⟨(1 : Int32), (0 : Int32), _, _, _, rfl, rfl, t10, upI_s, (fun e => absurd e (by decide)), (RK_t (1 : Int32) hK)⟩
    · exact absurd c8 c2
  · refine q_iload_n (show mE (mtv 46) 10 = some (.iload_n 2, 1, 0, 0) from rfl) (hl1 2 _ rfl) ?_
    refine q_iconst (show mE (mtv 46) 11 = some (.iconst 2, 1, 0, 0) from rfl) kI_2 ?_
    refine q_bipush (show mE (mtv 46) 12 = some (.bipush 6, 2, 0, 0) from rfl) kB_6 ?_
    refine q_staticP (show mE (mtv 46) 14 = some (.invokestatic 77, 3, 47, 0) from rfl) (by decide) rfl rfl rfl (fun _ g => sp_47 g) ?_
    refine q_ifb_eq (t := 33) (show mE (mtv 46) 17 = some (.ifCond .eq 16, 3, 0, 0) from rfl) rfl (fun c11 => ?_) (fun c11 => ?_)
    · refine q_iconst (show mE (mtv 46) 33 = some (.iconst 0, 1, 0, 0) from rfl) kI_0 ?_
      refine q_istore (show mE (mtv 46) 34 = some (.istore 4, 2, 0, 0) from rfl) (Nat.le_of_ble_eq_true rfl) hl1 (fun lv12 (hl13 : qLs lv12 [some (.ref (0)), some (.int (a1)), some (.int (a2)), some (.int (a3)), some (.int ((0 : Int32)))]) => ?_)
      refine q_iload (show mE (mtv 46) 36 = some (.iload 4, 2, 0, 0) from rfl) (hl13 4 _ rfl) ?_
      refine q_iff (t := 51) (show mE (mtv 46) 38 = some (.ifCond .ne 13, 3, 0, 0) from rfl) (by decide) rfl ?_
      refine q_throw (show mE (mtv 46) 41 = some (.new 81, 3, 1000, 0) from rfl) (by decide) ?_
      refine qKh_x (hp := 15) (c := (17, sDr 5 (lv_args 0 [.ref (0), .int (a1), .int (a2), .int (a3), .ref (117)]), [], h)) rfl (by decide) (fun _ _ => rfl) ?_
      refine q_iconst (show mE (mtv 45) 17 = some (.iconst 1, 1, 0, 0) from rfl) kI_1 ?_
      refine q_ireturn (show mE (mtv 45) 18 = some (.ireturn, 1, 0, 0) from rfl) ?_
      intro r14 g15
      have g15 : qGo 210 [.ref (85), .int (a1), .int (a2), .int (a3)] h r14 := g15
      refine qGo_w (Q := fun r2 => opE (.inl (some (.int ((1 : Int32))))) r2.1 r2.2 RK) g15 (fun _ => ?_)
      have hl16 : qLs (lv_args 0 [.ref (85), .int (a1), .int (a2), .int (a3)]) [some (.ref (85)), some (.int (a1)), some (.int (a2)), some (.int (a3)), none] := qLs_ar 1
      refine q_aload_n (show mE (mtv 210) 0 = some (.aload_n 0, 1, 0, 0) from rfl) (hl16 0 _ rfl) ?_
      refine q_iload_n (show mE (mtv 210) 1 = some (.iload_n 1, 1, 0, 0) from rfl) (hl16 1 _ rfl) ?_
      refine q_iconst (show mE (mtv 210) 2 = some (.iconst 3, 1, 0, 0) from rfl) kI_3 ?_
      refine q_bipush (show mE (mtv 210) 3 = some (.bipush 6, 2, 0, 0) from rfl) kB_6 ?_
      refine q_staticP (show mE (mtv 210) 5 = some (.invokestatic 157, 3, 211, 0) from rfl) (by decide) rfl rfl rfl (fun _ g => sp_211 g) ?_
      refine q_ifb_eq (t := 30) (show mE (mtv 210) 8 = some (.ifCond .eq 22, 3, 0, 0) from rfl) rfl (fun c17 => ?_) (fun c17 => ?_)
      · exact absurd c2 c17
      · clear c17
        refine q_iload_n (show mE (mtv 210) 11 = some (.iload_n 2, 1, 0, 0) from rfl) (hl16 2 _ rfl) ?_
        refine q_iconst (show mE (mtv 210) 12 = some (.iconst 2, 1, 0, 0) from rfl) kI_2 ?_
        refine q_bipush (show mE (mtv 210) 13 = some (.bipush 6, 2, 0, 0) from rfl) kB_6 ?_
        refine q_staticP (show mE (mtv 210) 15 = some (.invokestatic 157, 3, 211, 0) from rfl) (by decide) rfl rfl rfl (fun _ g => sp_211 g) ?_
        refine q_ifb_eq (t := 30) (show mE (mtv 210) 18 = some (.ifCond .eq 12, 3, 0, 0) from rfl) rfl (fun c18 => ?_) (fun c18 => ?_)
        · clear c18
          refine q_iconst (show mE (mtv 210) 30 = some (.iconst 1, 1, 0, 0) from rfl) kI_1 ?_
          refine q_goto (t := 53) (show mE (mtv 210) 31 = some (.goto 22, 3, 0, 0) from rfl) rfl ?_
          refine q_putI th (show mE (mtv 210) 53 = some (.putfield 138, 3, 9, 42) from rfl) (by decide) rfl (fun h19 t20 => ?_)
          refine q_aload_n (show mE (mtv 210) 56 = some (.aload_n 0, 1, 0, 0) from rfl) (hl16 0 _ rfl) ?_
          refine q_getIe t20 (show mE (mtv 210) 57 = some (.getfield 138, 3, 9, 42) from rfl) (by decide) rfl (upI_s) ?_
          refine q_iff (t := 65) (show mE (mtv 210) 60 = some (.ifCond .le 5, 3, 0, 0) from rfl) (by decide) rfl ?_
          refine q_iconst (show mE (mtv 210) 63 = some (.iconst 0, 1, 0, 0) from rfl) kI_0 ?_
          refine q_ireturn (show mE (mtv 210) 64 = some (.ireturn, 1, 0, 0) from rfl) ?_
          exact ⟨(1 : Int32), (0 : Int32), _, _, _, rfl, rfl, t20, upI_s, (fun e => absurd e (by decide)), (RK_t (1 : Int32) hK)⟩
        · exact absurd c18 c11
    · refine q_iload_n (show mE (mtv 46) 20 = some (.iload_n 3, 1, 0, 0) from rfl) (hl1 3 _ rfl) ?_
      refine q_iconst (show mE (mtv 46) 21 = some (.iconst 1, 1, 0, 0) from rfl) kI_1 ?_
      refine q_iconst (show mE (mtv 46) 22 = some (.iconst 5, 1, 0, 0) from rfl) kI_5 ?_
      refine q_staticP (show mE (mtv 46) 23 = some (.invokestatic 77, 3, 47, 0) from rfl) (by decide) rfl rfl rfl (fun _ g => sp_47 g) ?_
      refine q_ifb_eq (t := 33) (show mE (mtv 46) 26 = some (.ifCond .eq 7, 3, 0, 0) from rfl) rfl (fun c21 => ?_) (fun c21 => ?_)
      · refine q_iconst (show mE (mtv 46) 33 = some (.iconst 0, 1, 0, 0) from rfl) kI_0 ?_
        refine q_istore (show mE (mtv 46) 34 = some (.istore 4, 2, 0, 0) from rfl) (Nat.le_of_ble_eq_true rfl) hl1 (fun lv22 (hl23 : qLs lv22 [some (.ref (0)), some (.int (a1)), some (.int (a2)), some (.int (a3)), some (.int ((0 : Int32)))]) => ?_)
        refine q_iload (show mE (mtv 46) 36 = some (.iload 4, 2, 0, 0) from rfl) (hl23 4 _ rfl) ?_
        refine q_iff (t := 51) (show mE (mtv 46) 38 = some (.ifCond .ne 13, 3, 0, 0) from rfl) (by decide) rfl ?_
        refine q_throw (show mE (mtv 46) 41 = some (.new 81, 3, 1000, 0) from rfl) (by decide) ?_
        refine qKh_x (hp := 15) (c := (17, sDr 5 (lv_args 0 [.ref (0), .int (a1), .int (a2), .int (a3), .ref (117)]), [], h)) rfl (by decide) (fun _ _ => rfl) ?_
        refine q_iconst (show mE (mtv 45) 17 = some (.iconst 1, 1, 0, 0) from rfl) kI_1 ?_
        refine q_ireturn (show mE (mtv 45) 18 = some (.ireturn, 1, 0, 0) from rfl) ?_
        intro r24 g25
        have g25 : qGo 210 [.ref (85), .int (a1), .int (a2), .int (a3)] h r24 := g25
        refine qGo_w (Q := fun r2 => opE (.inl (some (.int ((1 : Int32))))) r2.1 r2.2 RK) g25 (fun _ => ?_)
        have hl26 : qLs (lv_args 0 [.ref (85), .int (a1), .int (a2), .int (a3)]) [some (.ref (85)), some (.int (a1)), some (.int (a2)), some (.int (a3)), none] := qLs_ar 1
        refine q_aload_n (show mE (mtv 210) 0 = some (.aload_n 0, 1, 0, 0) from rfl) (hl26 0 _ rfl) ?_
        refine q_iload_n (show mE (mtv 210) 1 = some (.iload_n 1, 1, 0, 0) from rfl) (hl26 1 _ rfl) ?_
        refine q_iconst (show mE (mtv 210) 2 = some (.iconst 3, 1, 0, 0) from rfl) kI_3 ?_
        refine q_bipush (show mE (mtv 210) 3 = some (.bipush 6, 2, 0, 0) from rfl) kB_6 ?_
        refine q_staticP (show mE (mtv 210) 5 = some (.invokestatic 157, 3, 211, 0) from rfl) (by decide) rfl rfl rfl (fun _ g => sp_211 g) ?_
        refine q_ifb_eq (t := 30) (show mE (mtv 210) 8 = some (.ifCond .eq 22, 3, 0, 0) from rfl) rfl (fun c27 => ?_) (fun c27 => ?_)
        · exact absurd c2 c27
        · clear c27
          refine q_iload_n (show mE (mtv 210) 11 = some (.iload_n 2, 1, 0, 0) from rfl) (hl26 2 _ rfl) ?_
          refine q_iconst (show mE (mtv 210) 12 = some (.iconst 2, 1, 0, 0) from rfl) kI_2 ?_
          refine q_bipush (show mE (mtv 210) 13 = some (.bipush 6, 2, 0, 0) from rfl) kB_6 ?_
          refine q_staticP (show mE (mtv 210) 15 = some (.invokestatic 157, 3, 211, 0) from rfl) (by decide) rfl rfl rfl (fun _ g => sp_211 g) ?_
          refine q_ifb_eq (t := 30) (show mE (mtv 210) 18 = some (.ifCond .eq 12, 3, 0, 0) from rfl) rfl (fun c28 => ?_) (fun c28 => ?_)
          · exact absurd c11 c28
          · clear c28
            refine q_iload_n (show mE (mtv 210) 21 = some (.iload_n 3, 1, 0, 0) from rfl) (hl26 3 _ rfl) ?_
            refine q_iconst (show mE (mtv 210) 22 = some (.iconst 1, 1, 0, 0) from rfl) kI_1 ?_
            refine q_iconst (show mE (mtv 210) 23 = some (.iconst 5, 1, 0, 0) from rfl) kI_5 ?_
            refine q_staticP (show mE (mtv 210) 24 = some (.invokestatic 157, 3, 211, 0) from rfl) (by decide) rfl rfl rfl (fun _ g => sp_211 g) ?_
            refine q_ifb_ne (t := 34) (show mE (mtv 210) 27 = some (.ifCond .ne 7, 3, 0, 0) from rfl) rfl (fun c29 => ?_) (fun c29 => ?_)
            · exact absurd c29 c21
            · clear c29
              refine q_iconst (show mE (mtv 210) 30 = some (.iconst 1, 1, 0, 0) from rfl) kI_1 ?_
              refine q_goto (t := 53) (show mE (mtv 210) 31 = some (.goto 22, 3, 0, 0) from rfl) rfl ?_
              refine q_putI th (show mE (mtv 210) 53 = some (.putfield 138, 3, 9, 42) from rfl) (by decide) rfl (fun h30 t31 => ?_)
              refine q_aload_n (show mE (mtv 210) 56 = some (.aload_n 0, 1, 0, 0) from rfl) (hl26 0 _ rfl) ?_
              refine q_getIe t31 (show mE (mtv 210) 57 = some (.getfield 138, 3, 9, 42) from rfl) (by decide) rfl (upI_s) ?_
              refine q_iff (t := 65) (show mE (mtv 210) 60 = some (.ifCond .le 5, 3, 0, 0) from rfl) (by decide) rfl ?_
              refine q_iconst (show mE (mtv 210) 63 = some (.iconst 0, 1, 0, 0) from rfl) kI_0 ?_
              refine q_ireturn (show mE (mtv 210) 64 = some (.ireturn, 1, 0, 0) from rfl) ?_
              exact ⟨(1 : Int32), (0 : Int32), _, _, _, rfl, rfl, t31, upI_s, (fun e => absurd e (by decide)), (RK_t (1 : Int32) hK)⟩
      · refine q_iconst (show mE (mtv 46) 29 = some (.iconst 1, 1, 0, 0) from rfl) kI_1 ?_
        refine q_goto (t := 34) (show mE (mtv 46) 30 = some (.goto 4, 3, 0, 0) from rfl) rfl ?_
        refine q_istore (show mE (mtv 46) 34 = some (.istore 4, 2, 0, 0) from rfl) (Nat.le_of_ble_eq_true rfl) hl1 (fun lv32 (hl33 : qLs lv32 [some (.ref (0)), some (.int (a1)), some (.int (a2)), some (.int (a3)), some (.int ((1 : Int32)))]) => ?_)
        refine q_iload (show mE (mtv 46) 36 = some (.iload 4, 2, 0, 0) from rfl) (hl33 4 _ rfl) ?_
        refine q_ift (t := 51) (show mE (mtv 46) 38 = some (.ifCond .ne 13, 3, 0, 0) from rfl) (by decide) rfl ?_
        refine q_aload_n (show mE (mtv 46) 51 = some (.aload_n 0, 1, 0, 0) from rfl) (hl33 0 _ rfl) ?_
        refine q_getI th (show mE (mtv 46) 52 = some (.getfield 88, 3, 8, 9) from rfl) (by decide) rfl ?_
        refine q_if_gt (t := 65) (show mE (mtv 46) 55 = some (.ifCond .gt 10, 3, 0, 0) from rfl) rfl (fun c34 => ?_) (fun c34 => ?_)
        · refine q_throw (show mE (mtv 46) 65 = some (.new 94, 3, 1003, 0) from rfl) (by decide) ?_
          refine qKh_x (hp := 19) (c := (21, sDr 5 (lv_args 0 [.ref (0), .int (a1), .int (a2), .int (a3), .ref (117)]), [], h)) rfl (by decide) (fun _ _ => rfl) ?_
          refine q_iconst (show mE (mtv 45) 21 = some (.iconst 2, 1, 0, 0) from rfl) kI_2 ?_
          refine q_ireturn (show mE (mtv 45) 22 = some (.ireturn, 1, 0, 0) from rfl) ?_
          intro r35 g36
          have g36 : qGo 210 [.ref (85), .int (a1), .int (a2), .int (a3)] h r35 := g36
          refine qGo_w (Q := fun r2 => opE (.inl (some (.int ((2 : Int32))))) r2.1 r2.2 RK) g36 (fun _ => ?_)
          have hl37 : qLs (lv_args 0 [.ref (85), .int (a1), .int (a2), .int (a3)]) [some (.ref (85)), some (.int (a1)), some (.int (a2)), some (.int (a3)), none] := qLs_ar 1
          refine q_aload_n (show mE (mtv 210) 0 = some (.aload_n 0, 1, 0, 0) from rfl) (hl37 0 _ rfl) ?_
          refine q_iload_n (show mE (mtv 210) 1 = some (.iload_n 1, 1, 0, 0) from rfl) (hl37 1 _ rfl) ?_
          refine q_iconst (show mE (mtv 210) 2 = some (.iconst 3, 1, 0, 0) from rfl) kI_3 ?_
          refine q_bipush (show mE (mtv 210) 3 = some (.bipush 6, 2, 0, 0) from rfl) kB_6 ?_
          refine q_staticP (show mE (mtv 210) 5 = some (.invokestatic 157, 3, 211, 0) from rfl) (by decide) rfl rfl rfl (fun _ g => sp_211 g) ?_
          refine q_ifb_eq (t := 30) (show mE (mtv 210) 8 = some (.ifCond .eq 22, 3, 0, 0) from rfl) rfl (fun c38 => ?_) (fun c38 => ?_)
          · exact absurd c2 c38
          · clear c38
            refine q_iload_n (show mE (mtv 210) 11 = some (.iload_n 2, 1, 0, 0) from rfl) (hl37 2 _ rfl) ?_
            refine q_iconst (show mE (mtv 210) 12 = some (.iconst 2, 1, 0, 0) from rfl) kI_2 ?_
            refine q_bipush (show mE (mtv 210) 13 = some (.bipush 6, 2, 0, 0) from rfl) kB_6 ?_
            refine q_staticP (show mE (mtv 210) 15 = some (.invokestatic 157, 3, 211, 0) from rfl) (by decide) rfl rfl rfl (fun _ g => sp_211 g) ?_
            refine q_ifb_eq (t := 30) (show mE (mtv 210) 18 = some (.ifCond .eq 12, 3, 0, 0) from rfl) rfl (fun c39 => ?_) (fun c39 => ?_)
            · exact absurd c11 c39
            · clear c39
              refine q_iload_n (show mE (mtv 210) 21 = some (.iload_n 3, 1, 0, 0) from rfl) (hl37 3 _ rfl) ?_
              refine q_iconst (show mE (mtv 210) 22 = some (.iconst 1, 1, 0, 0) from rfl) kI_1 ?_
              refine q_iconst (show mE (mtv 210) 23 = some (.iconst 5, 1, 0, 0) from rfl) kI_5 ?_
              refine q_staticP (show mE (mtv 210) 24 = some (.invokestatic 157, 3, 211, 0) from rfl) (by decide) rfl rfl rfl (fun _ g => sp_211 g) ?_
              refine q_ifb_ne (t := 34) (show mE (mtv 210) 27 = some (.ifCond .ne 7, 3, 0, 0) from rfl) rfl (fun c40 => ?_) (fun c40 => ?_)
              · clear c40
                refine q_aload_n (show mE (mtv 210) 34 = some (.aload_n 0, 1, 0, 0) from rfl) (hl37 0 _ rfl) ?_
                refine q_getI th (show mE (mtv 210) 35 = some (.getfield 117, 3, 9, 35) from rfl) (by decide) rfl ?_
                have r41 : I 85 35 = I 0 9 := hK.nk.symm
                rw [r41]; clear r41
                refine q_if_gt (t := 48) (show mE (mtv 210) 38 = some (.ifCond .gt 10, 3, 0, 0) from rfl) rfl (fun c42 => ?_) (fun c42 => ?_)
                · clear c42
                  refine q_iconst (show mE (mtv 210) 48 = some (.iconst 2, 1, 0, 0) from rfl) kI_2 ?_
                  refine q_goto (t := 53) (show mE (mtv 210) 49 = some (.goto 4, 3, 0, 0) from rfl) rfl ?_
                  refine q_putI th (show mE (mtv 210) 53 = some (.putfield 138, 3, 9, 42) from rfl) (by decide) rfl (fun h43 t44 => ?_)
                  refine q_aload_n (show mE (mtv 210) 56 = some (.aload_n 0, 1, 0, 0) from rfl) (hl37 0 _ rfl) ?_
                  refine q_getIe t44 (show mE (mtv 210) 57 = some (.getfield 138, 3, 9, 42) from rfl) (by decide) rfl (upI_s) ?_
                  refine q_iff (t := 65) (show mE (mtv 210) 60 = some (.ifCond .le 5, 3, 0, 0) from rfl) (by decide) rfl ?_
                  refine q_iconst (show mE (mtv 210) 63 = some (.iconst 0, 1, 0, 0) from rfl) kI_0 ?_
                  refine q_ireturn (show mE (mtv 210) 64 = some (.ireturn, 1, 0, 0) from rfl) ?_
                  exact ⟨(2 : Int32), (0 : Int32), _, _, _, rfl, rfl, t44, upI_s, (fun e => absurd e (by decide)), (RK_t (2 : Int32) hK)⟩
                · exact absurd c34 c42
              · exact absurd c21 c40
        · refine q_aload_n (show mE (mtv 46) 58 = some (.aload_n 0, 1, 0, 0) from rfl) (hl33 0 _ rfl) ?_
          refine q_getI th (show mE (mtv 46) 59 = some (.getfield 91, 3, 8, 12) from rfl) (by decide) rfl ?_
          refine q_if_le (t := 75) (show mE (mtv 46) 62 = some (.ifCond .le 13, 3, 0, 0) from rfl) rfl (fun c45 => ?_) (fun c45 => ?_)
          · refine q_aload_n (show mE (mtv 46) 75 = some (.aload_n 0, 1, 0, 0) from rfl) (hl33 0 _ rfl) ?_
            refine q_getR (m := 1) th (show mE (mtv 46) 76 = some (.getfield 10, 3, 8, 0) from rfl) (by decide) rfl rfl ?_
            refine q_iload_n (show mE (mtv 46) 79 = some (.iload_n 1, 1, 0, 0) from rfl) (hl33 1 _ rfl) ?_
            refine q_iload_n (show mE (mtv 46) 80 = some (.iload_n 2, 1, 0, 0) from rfl) (hl33 2 _ rfl) ?_
            refine q_iload_n (show mE (mtv 46) 81 = some (.iload_n 3, 1, 0, 0) from rfl) (hl33 3 _ rfl) ?_
            refine q_virtualI (show mE (mtv 46) 82 = some (.invokevirtual 99, 3, 48, 4) from rfl) (by decide) rfl rfl rfl (fun _ => ?_)
            have hl46 : qLs (lv_args 0 [.ref (1), .int (a1), .int (a2), .int (a3)]) [some (.ref (1)), some (.int (a1)), some (.int (a2)), some (.int (a3))] := qLs_ar 0
            refine q_aload_n (show mE (mtv 48) 0 = some (.aload_n 0, 1, 0, 0) from rfl) (hl46 0 _ rfl) ?_
            refine q_iload_n (show mE (mtv 48) 1 = some (.iload_n 1, 1, 0, 0) from rfl) (hl46 1 _ rfl) ?_
            refine q_putI th (show mE (mtv 48) 2 = some (.putfield 16, 3, 4, 1) from rfl) (by decide) rfl (fun h47 t48 => ?_)
            refine q_aload_n (show mE (mtv 48) 5 = some (.aload_n 0, 1, 0, 0) from rfl) (hl46 0 _ rfl) ?_
            refine q_iload_n (show mE (mtv 48) 6 = some (.iload_n 2, 1, 0, 0) from rfl) (hl46 2 _ rfl) ?_
            refine q_putI t48 (show mE (mtv 48) 7 = some (.putfield 20, 3, 4, 2) from rfl) (by decide) rfl (fun h49 t50 => ?_)
            refine q_aload_n (show mE (mtv 48) 10 = some (.aload_n 0, 1, 0, 0) from rfl) (hl46 0 _ rfl) ?_
            refine q_iload_n (show mE (mtv 48) 11 = some (.iload_n 3, 1, 0, 0) from rfl) (hl46 3 _ rfl) ?_
            refine q_putI t50 (show mE (mtv 48) 12 = some (.putfield 23, 3, 4, 3) from rfl) (by decide) rfl (fun h51 t52 => ?_)
            refine q_aload_n (show mE (mtv 48) 15 = some (.aload_n 0, 1, 0, 0) from rfl) (hl46 0 _ rfl) ?_
            refine q_virtualI (show mE (mtv 48) 16 = some (.invokevirtual 26, 3, 10, 4) from rfl) (by decide) rfl rfl rfl (fun _ => ?_)
            have hl53 : qLs (lv_args 0 [.ref (1)]) [some (.ref (1)), none] := qLs_ar 1
            refine q_aload_n (show mE (mtv 10) 0 = some (.aload_n 0, 1, 0, 0) from rfl) (hl53 0 _ rfl) ?_
            refine q_getIe t52 (show mE (mtv 10) 1 = some (.getfield 30, 3, 4, 6) from rfl) (by decide) rfl ((upI_n (Or.inr (by decide))).trans ((upI_n (Or.inr (by decide))).trans (upI_n (Or.inr (by decide))))) ?_
            refine q_istore_n (show mE (mtv 10) 4 = some (.istore_n 1, 1, 0, 0) from rfl) (Nat.le_of_ble_eq_true rfl) hl53 (fun lv54 (hl55 : qLs lv54 [some (.ref (1)), some (.int (I 1 6))]) => ?_)
            refine q_aload_n (show mE (mtv 10) 5 = some (.aload_n 0, 1, 0, 0) from rfl) (hl55 0 _ rfl) ?_
            refine q_lconst (show mE (mtv 10) 6 = some (.lconst 0, 1, 0, 0) from rfl) kL_0 ?_
            refine q_putL t52 (show mE (mtv 10) 7 = some (.putfield 33, 3, 4, 5) from rfl) (by decide) rfl (fun h56 t57 => ?_)
            refine q_aload_n (show mE (mtv 10) 10 = some (.aload_n 0, 1, 0, 0) from rfl) (hl55 0 _ rfl) ?_
            refine q_iconst (show mE (mtv 10) 11 = some (.iconst 0, 1, 0, 0) from rfl) kI_0 ?_
            refine q_putI t57 (show mE (mtv 10) 12 = some (.putfield 30, 3, 4, 6) from rfl) (by decide) rfl (fun h58 t59 => ?_)
            refine q_iload_n (show mE (mtv 10) 15 = some (.iload_n 1, 1, 0, 0) from rfl) (hl55 1 _ rfl) ?_
            refine q_ireturn (show mE (mtv 10) 16 = some (.ireturn, 1, 0, 0) from rfl) ?_
            refine qK_v ?_
            refine q_popI (show mE (mtv 48) 19 = some (.pop, 1, 0, 0) from rfl) ?_
            refine q_return_ (show mE (mtv 48) 20 = some (.return_, 1, 0, 0) from rfl) ?_
            refine qK_n ?_
            refine q_aload_n (show mE (mtv 46) 85 = some (.aload_n 0, 1, 0, 0) from rfl) (hl33 0 _ rfl) ?_
            refine q_getR (m := 1) t59 (show mE (mtv 46) 86 = some (.getfield 10, 3, 8, 0) from rfl) (by decide) rfl rfl ?_
            refine q_aload_n (show mE (mtv 46) 89 = some (.aload_n 0, 1, 0, 0) from rfl) (hl33 0 _ rfl) ?_
            refine q_getR (m := 1) t59 (show mE (mtv 46) 90 = some (.getfield 10, 3, 8, 0) from rfl) (by decide) rfl rfl ?_
            refine q_virtualE (show mE (mtv 46) 93 = some (.invokevirtual 103, 3, 49, 4) from rfl) (by decide) rfl rfl rfl (fun _ g => sp_49 t59 g) ?_
            rintro _ ⟨v60, rfl, e61⟩
            refine qK_v ?_
            refine q_iload_n (show mE (mtv 46) 96 = some (.iload_n 3, 1, 0, 0) from rfl) (hl33 3 _ rfl) ?_
            refine q_virtualE (show mE (mtv 46) 97 = some (.invokevirtual 107, 3, 34, 4) from rfl) (by decide) rfl rfl rfl (fun _ g => sp_34 t59 g) ?_
            rintro _ ⟨v66, j62, h63, rfl, t64, e65⟩
            refine qK_v ?_
            refine q_ireturn (show mE (mtv 46) 100 = some (.ireturn, 1, 0, 0) from rfl) ?_
            refine qKh_v ?_
            refine q_i2l (show mE (mtv 45) 10 = some (.i2l, 1, 0, 0) from rfl) ?_
            refine q_lastore (n := 1) t64 (show mE (mtv 45) 11 = some (.lastore, 1, 0, 0) from rfl) (by decide) rfl (fun bb67 h68 t69 => ?_)
            refine q_goto (t := 23) (show mE (mtv 45) 12 = some (.goto 11, 3, 0, 0) from rfl) rfl ?_
            refine q_iconst (show mE (mtv 45) 23 = some (.iconst 0, 1, 0, 0) from rfl) kI_0 ?_
            refine q_ireturn (show mE (mtv 45) 24 = some (.ireturn, 1, 0, 0) from rfl) ?_
            intro r70 g71
            have g71 : qGo 210 [.ref (85), .int (a1), .int (a2), .int (a3)] h68 r70 := g71
            refine qGo_w (Q := fun r2 => opE (.inl (some (.int ((0 : Int32))))) r2.1 r2.2 RK) g71 (fun _ => ?_)
            have hl72 : qLs (lv_args 0 [.ref (85), .int (a1), .int (a2), .int (a3)]) [some (.ref (85)), some (.int (a1)), some (.int (a2)), some (.int (a3)), none] := qLs_ar 1
            refine q_aload_n (show mE (mtv 210) 0 = some (.aload_n 0, 1, 0, 0) from rfl) (hl72 0 _ rfl) ?_
            refine q_iload_n (show mE (mtv 210) 1 = some (.iload_n 1, 1, 0, 0) from rfl) (hl72 1 _ rfl) ?_
            refine q_iconst (show mE (mtv 210) 2 = some (.iconst 3, 1, 0, 0) from rfl) kI_3 ?_
            refine q_bipush (show mE (mtv 210) 3 = some (.bipush 6, 2, 0, 0) from rfl) kB_6 ?_
            refine q_staticP (show mE (mtv 210) 5 = some (.invokestatic 157, 3, 211, 0) from rfl) (by decide) rfl rfl rfl (fun _ g => sp_211 g) ?_
            refine q_ifb_eq (t := 30) (show mE (mtv 210) 8 = some (.ifCond .eq 22, 3, 0, 0) from rfl) rfl (fun c73 => ?_) (fun c73 => ?_)
            · exact absurd c2 c73
            · clear c73
              refine q_iload_n (show mE (mtv 210) 11 = some (.iload_n 2, 1, 0, 0) from rfl) (hl72 2 _ rfl) ?_
              refine q_iconst (show mE (mtv 210) 12 = some (.iconst 2, 1, 0, 0) from rfl) kI_2 ?_
              refine q_bipush (show mE (mtv 210) 13 = some (.bipush 6, 2, 0, 0) from rfl) kB_6 ?_
              refine q_staticP (show mE (mtv 210) 15 = some (.invokestatic 157, 3, 211, 0) from rfl) (by decide) rfl rfl rfl (fun _ g => sp_211 g) ?_
              refine q_ifb_eq (t := 30) (show mE (mtv 210) 18 = some (.ifCond .eq 12, 3, 0, 0) from rfl) rfl (fun c74 => ?_) (fun c74 => ?_)
              · exact absurd c11 c74
              · clear c74
                refine q_iload_n (show mE (mtv 210) 21 = some (.iload_n 3, 1, 0, 0) from rfl) (hl72 3 _ rfl) ?_
                refine q_iconst (show mE (mtv 210) 22 = some (.iconst 1, 1, 0, 0) from rfl) kI_1 ?_
                refine q_iconst (show mE (mtv 210) 23 = some (.iconst 5, 1, 0, 0) from rfl) kI_5 ?_
                refine q_staticP (show mE (mtv 210) 24 = some (.invokestatic 157, 3, 211, 0) from rfl) (by decide) rfl rfl rfl (fun _ g => sp_211 g) ?_
                refine q_ifb_ne (t := 34) (show mE (mtv 210) 27 = some (.ifCond .ne 7, 3, 0, 0) from rfl) rfl (fun c75 => ?_) (fun c75 => ?_)
                · clear c75
                  refine q_aload_n (show mE (mtv 210) 34 = some (.aload_n 0, 1, 0, 0) from rfl) (hl72 0 _ rfl) ?_
                  refine q_getI t69 (show mE (mtv 210) 35 = some (.getfield 117, 3, 9, 35) from rfl) (by decide) rfl ?_
                  refine q_if_gt (t := 48) (show mE (mtv 210) 38 = some (.ifCond .gt 10, 3, 0, 0) from rfl) rfl (fun c76 => ?_) (fun c76 => ?_)
                  · refine q_iconst (show mE (mtv 210) 48 = some (.iconst 2, 1, 0, 0) from rfl) kI_2 ?_
                    refine q_goto (t := 53) (show mE (mtv 210) 49 = some (.goto 4, 3, 0, 0) from rfl) rfl ?_
                    refine q_putI t69 (show mE (mtv 210) 53 = some (.putfield 138, 3, 9, 42) from rfl) (by decide) rfl (fun h77 t78 => ?_)
                    refine q_aload_n (show mE (mtv 210) 56 = some (.aload_n 0, 1, 0, 0) from rfl) (hl72 0 _ rfl) ?_
                    refine q_getIe t78 (show mE (mtv 210) 57 = some (.getfield 138, 3, 9, 42) from rfl) (by decide) rfl (upI_s) ?_
                    refine q_iff (t := 65) (show mE (mtv 210) 60 = some (.ifCond .le 5, 3, 0, 0) from rfl) (by decide) rfl ?_
                    refine q_iconst (show mE (mtv 210) 63 = some (.iconst 0, 1, 0, 0) from rfl) kI_0 ?_
                    refine q_ireturn (show mE (mtv 210) 64 = some (.ireturn, 1, 0, 0) from rfl) ?_
                    exact (p1 c2 c11 c21 c34 c45 v60 e61 v66 j62 e65 bb67 c76).elim
                  · refine q_aload_n (show mE (mtv 210) 41 = some (.aload_n 0, 1, 0, 0) from rfl) (hl72 0 _ rfl) ?_
                    refine q_getI t69 (show mE (mtv 210) 42 = some (.getfield 150, 3, 9, 46) from rfl) (by decide) rfl ?_
                    refine q_if_le (t := 52) (show mE (mtv 210) 45 = some (.ifCond .le 7, 3, 0, 0) from rfl) rfl (fun c79 => ?_) (fun c79 => ?_)
                    · refine q_iconst (show mE (mtv 210) 52 = some (.iconst 0, 1, 0, 0) from rfl) kI_0 ?_
                      refine q_putI t69 (show mE (mtv 210) 53 = some (.putfield 138, 3, 9, 42) from rfl) (by decide) rfl (fun h80 t81 => ?_)
                      refine q_aload_n (show mE (mtv 210) 56 = some (.aload_n 0, 1, 0, 0) from rfl) (hl72 0 _ rfl) ?_
                      refine q_getIe t81 (show mE (mtv 210) 57 = some (.getfield 138, 3, 9, 42) from rfl) (by decide) rfl (upI_s) ?_
                      refine q_ift (t := 65) (show mE (mtv 210) 60 = some (.ifCond .le 5, 3, 0, 0) from rfl) (by decide) rfl ?_
                      refine q_aload_n (show mE (mtv 210) 65 = some (.aload_n 0, 1, 0, 0) from rfl) (hl72 0 _ rfl) ?_
                      refine q_iload_n (show mE (mtv 210) 66 = some (.iload_n 1, 1, 0, 0) from rfl) (hl72 1 _ rfl) ?_
                      refine q_putI t81 (show mE (mtv 210) 67 = some (.putfield 104, 3, 9, 31) from rfl) (by decide) rfl (fun h82 t83 => ?_)
                      refine q_aload_n (show mE (mtv 210) 70 = some (.aload_n 0, 1, 0, 0) from rfl) (hl72 0 _ rfl) ?_
                      refine q_iload_n (show mE (mtv 210) 71 = some (.iload_n 2, 1, 0, 0) from rfl) (hl72 2 _ rfl) ?_
                      refine q_putI t83 (show mE (mtv 210) 72 = some (.putfield 108, 3, 9, 32) from rfl) (by decide) rfl (fun h84 t85 => ?_)
                      refine q_aload_n (show mE (mtv 210) 75 = some (.aload_n 0, 1, 0, 0) from rfl) (hl72 0 _ rfl) ?_
                      refine q_iload_n (show mE (mtv 210) 76 = some (.iload_n 3, 1, 0, 0) from rfl) (hl72 3 _ rfl) ?_
                      refine q_putI t85 (show mE (mtv 210) 77 = some (.putfield 111, 3, 9, 33) from rfl) (by decide) rfl (fun h86 t87 => ?_)
                      refine q_aload_n (show mE (mtv 210) 80 = some (.aload_n 0, 1, 0, 0) from rfl) (hl72 0 _ rfl) ?_
                      refine q_iconst (show mE (mtv 210) 81 = some (.iconst 0, 1, 0, 0) from rfl) kI_0 ?_
                      refine q_putI t87 (show mE (mtv 210) 82 = some (.putfield 114, 3, 9, 34) from rfl) (by decide) rfl (fun h88 t89 => ?_)
                      refine q_iconst (show mE (mtv 210) 85 = some (.iconst 0, 1, 0, 0) from rfl) kI_0 ?_
                      refine q_istore (show mE (mtv 210) 86 = some (.istore 4, 2, 0, 0) from rfl) (Nat.le_of_ble_eq_true rfl) hl72 (fun lv90 (hl91 : qLs lv90 [some (.ref (85)), some (.int (a1)), some (.int (a2)), some (.int (a3)), some (.int ((0 : Int32)))]) => ?_)
                      exact p2 c2 c11 c21 c34 c45 v60 e61 v66 j62 e65 bb67 c76 c79 h88 t89 _ lv90 (qLs_wk hl91 (⟨rfl, rfl, trivial⟩))
                    · refine q_iconst (show mE (mtv 210) 48 = some (.iconst 2, 1, 0, 0) from rfl) kI_2 ?_
                      refine q_goto (t := 53) (show mE (mtv 210) 49 = some (.goto 4, 3, 0, 0) from rfl) rfl ?_
                      refine q_putI t69 (show mE (mtv 210) 53 = some (.putfield 138, 3, 9, 42) from rfl) (by decide) rfl (fun h92 t93 => ?_)
                      refine q_aload_n (show mE (mtv 210) 56 = some (.aload_n 0, 1, 0, 0) from rfl) (hl72 0 _ rfl) ?_
                      refine q_getIe t93 (show mE (mtv 210) 57 = some (.getfield 138, 3, 9, 42) from rfl) (by decide) rfl (upI_s) ?_
                      refine q_iff (t := 65) (show mE (mtv 210) 60 = some (.ifCond .le 5, 3, 0, 0) from rfl) (by decide) rfl ?_
                      refine q_iconst (show mE (mtv 210) 63 = some (.iconst 0, 1, 0, 0) from rfl) kI_0 ?_
                      refine q_ireturn (show mE (mtv 210) 64 = some (.ireturn, 1, 0, 0) from rfl) ?_
                      exact (p3 c2 c11 c21 c34 c45 v60 e61 v66 j62 e65 bb67 c76 c79).elim
                · exact absurd c21 c75
          · refine q_throw (show mE (mtv 46) 65 = some (.new 94, 3, 1003, 0) from rfl) (by decide) ?_
            refine qKh_x (hp := 19) (c := (21, sDr 5 (lv_args 0 [.ref (0), .int (a1), .int (a2), .int (a3), .ref (117)]), [], h)) rfl (by decide) (fun _ _ => rfl) ?_
            refine q_iconst (show mE (mtv 45) 21 = some (.iconst 2, 1, 0, 0) from rfl) kI_2 ?_
            refine q_ireturn (show mE (mtv 45) 22 = some (.ireturn, 1, 0, 0) from rfl) ?_
            intro r94 g95
            have g95 : qGo 210 [.ref (85), .int (a1), .int (a2), .int (a3)] h r94 := g95
            refine qGo_w (Q := fun r2 => opE (.inl (some (.int ((2 : Int32))))) r2.1 r2.2 RK) g95 (fun _ => ?_)
            have hl96 : qLs (lv_args 0 [.ref (85), .int (a1), .int (a2), .int (a3)]) [some (.ref (85)), some (.int (a1)), some (.int (a2)), some (.int (a3)), none] := qLs_ar 1
            refine q_aload_n (show mE (mtv 210) 0 = some (.aload_n 0, 1, 0, 0) from rfl) (hl96 0 _ rfl) ?_
            refine q_iload_n (show mE (mtv 210) 1 = some (.iload_n 1, 1, 0, 0) from rfl) (hl96 1 _ rfl) ?_
            refine q_iconst (show mE (mtv 210) 2 = some (.iconst 3, 1, 0, 0) from rfl) kI_3 ?_
            refine q_bipush (show mE (mtv 210) 3 = some (.bipush 6, 2, 0, 0) from rfl) kB_6 ?_
            refine q_staticP (show mE (mtv 210) 5 = some (.invokestatic 157, 3, 211, 0) from rfl) (by decide) rfl rfl rfl (fun _ g => sp_211 g) ?_
            refine q_ifb_eq (t := 30) (show mE (mtv 210) 8 = some (.ifCond .eq 22, 3, 0, 0) from rfl) rfl (fun c97 => ?_) (fun c97 => ?_)
            · exact absurd c2 c97
            · clear c97
              refine q_iload_n (show mE (mtv 210) 11 = some (.iload_n 2, 1, 0, 0) from rfl) (hl96 2 _ rfl) ?_
              refine q_iconst (show mE (mtv 210) 12 = some (.iconst 2, 1, 0, 0) from rfl) kI_2 ?_
              refine q_bipush (show mE (mtv 210) 13 = some (.bipush 6, 2, 0, 0) from rfl) kB_6 ?_
              refine q_staticP (show mE (mtv 210) 15 = some (.invokestatic 157, 3, 211, 0) from rfl) (by decide) rfl rfl rfl (fun _ g => sp_211 g) ?_
              refine q_ifb_eq (t := 30) (show mE (mtv 210) 18 = some (.ifCond .eq 12, 3, 0, 0) from rfl) rfl (fun c98 => ?_) (fun c98 => ?_)
              · exact absurd c11 c98
              · clear c98
                refine q_iload_n (show mE (mtv 210) 21 = some (.iload_n 3, 1, 0, 0) from rfl) (hl96 3 _ rfl) ?_
                refine q_iconst (show mE (mtv 210) 22 = some (.iconst 1, 1, 0, 0) from rfl) kI_1 ?_
                refine q_iconst (show mE (mtv 210) 23 = some (.iconst 5, 1, 0, 0) from rfl) kI_5 ?_
                refine q_staticP (show mE (mtv 210) 24 = some (.invokestatic 157, 3, 211, 0) from rfl) (by decide) rfl rfl rfl (fun _ g => sp_211 g) ?_
                refine q_ifb_ne (t := 34) (show mE (mtv 210) 27 = some (.ifCond .ne 7, 3, 0, 0) from rfl) rfl (fun c99 => ?_) (fun c99 => ?_)
                · clear c99
                  refine q_aload_n (show mE (mtv 210) 34 = some (.aload_n 0, 1, 0, 0) from rfl) (hl96 0 _ rfl) ?_
                  refine q_getI th (show mE (mtv 210) 35 = some (.getfield 117, 3, 9, 35) from rfl) (by decide) rfl ?_
                  have r100 : I 85 35 = I 0 9 := hK.nk.symm
                  rw [r100]; clear r100
                  refine q_if_gt (t := 48) (show mE (mtv 210) 38 = some (.ifCond .gt 10, 3, 0, 0) from rfl) rfl (fun c101 => ?_) (fun c101 => ?_)
                  · exact absurd c101 c34
                  · clear c101
                    refine q_aload_n (show mE (mtv 210) 41 = some (.aload_n 0, 1, 0, 0) from rfl) (hl96 0 _ rfl) ?_
                    refine q_getI th (show mE (mtv 210) 42 = some (.getfield 150, 3, 9, 46) from rfl) (by decide) rfl ?_
                    have r102 : I 85 46 = I 0 12 := hK.nb.symm
                    rw [r102]; clear r102
                    refine q_if_le (t := 52) (show mE (mtv 210) 45 = some (.ifCond .le 7, 3, 0, 0) from rfl) rfl (fun c103 => ?_) (fun c103 => ?_)
                    · exact absurd c103 c45
                    · clear c103
                      refine q_iconst (show mE (mtv 210) 48 = some (.iconst 2, 1, 0, 0) from rfl) kI_2 ?_
                      refine q_goto (t := 53) (show mE (mtv 210) 49 = some (.goto 4, 3, 0, 0) from rfl) rfl ?_
                      refine q_putI th (show mE (mtv 210) 53 = some (.putfield 138, 3, 9, 42) from rfl) (by decide) rfl (fun h104 t105 => ?_)
                      refine q_aload_n (show mE (mtv 210) 56 = some (.aload_n 0, 1, 0, 0) from rfl) (hl96 0 _ rfl) ?_
                      refine q_getIe t105 (show mE (mtv 210) 57 = some (.getfield 138, 3, 9, 42) from rfl) (by decide) rfl (upI_s) ?_
                      refine q_iff (t := 65) (show mE (mtv 210) 60 = some (.ifCond .le 5, 3, 0, 0) from rfl) (by decide) rfl ?_
                      refine q_iconst (show mE (mtv 210) 63 = some (.iconst 0, 1, 0, 0) from rfl) kI_0 ?_
                      refine q_ireturn (show mE (mtv 210) 64 = some (.ireturn, 1, 0, 0) from rfl) ?_
                      exact ⟨(2 : Int32), (0 : Int32), _, _, _, rfl, rfl, t105, upI_s, (fun e => absurd e (by decide)), (RK_t (2 : Int32) hK)⟩
                · exact absurd c21 c99
theorem ok_0 {h : sH} {I : Nat → Nat → Int32} {L : Nat → Nat → Int64} {R : Nat → Nat} (th : qH h I L R) (hK : RK I L R) (hG : RG I) {a1 : Int32} {a2 : Int32} {a3 : Int32} {r : sR} (gW : qGo 45 [.ref (0), .int (a1), .int (a2), .int (a3), .ref (117)] h r) : ∀ r2 : sR, qGo 210 [.ref (85), .int (a1), .int (a2), .int (a3)] r.2 r2 → opE r.1 r2.1 r2.2 RK := qp_0 th hK hG gW
  (fun c2 c11 c21 c34 _ v60 _ v66 j62 e65 _ c76 => by
    obtain ⟨nc, n3, n6, rfl⟩ := rg_b (a := 3) (b := 6) rfl rfl (by omega) (by omega) c2
    obtain ⟨m, m2, m6, rfl⟩ := rg_b (a := 2) (b := 6) rfl rfl (by omega) (by omega) c11
    have a0 := (e65 m nc (by rw [upI_ne (by omega), upI_ne (by omega), upI_s, ofN_clamp (by omega)]) (by rw [upI_ne (by omega), upI_ne (by omega), upI_ne (by omega), upI_s]) m6 n6 (by omega)).1
    rw [a0 85 35 (by omega), upI_ne (by omega), upI_ne (by omega), upI_ne (by omega), upI_ne (by omega), ← hK.nk] at c76
    exact c34 c76)
  (fun c2 c11 c21 c34 c45 v60 e61 v66 j62 e65 _ c76 c79 h88 t89 N lv hl => by
    have hm := hK.mi
    obtain ⟨nc, n3, n6, rfl⟩ := rg_b (a := 3) (b := 6) rfl rfl (by omega) (by omega) c2
    obtain ⟨m, m2, m6, rfl⟩ := rg_b (a := 2) (b := 6) rfl rfl (by omega) (by omega) c11
    have em : (upI (upI (upI (upI I 1 1 (Int32.ofNat nc)) 1 2 (Int32.ofNat m)) 1 3 a3) 1 6 (0 : Int32) 1 2).toNatClampNeg = m := by rw [upI_ne (by omega), upI_ne (by omega), upI_s, ofN_clamp (by omega)]
    have em' : upI (upI (upI (upI I 1 1 (Int32.ofNat nc)) 1 2 (Int32.ofNat m)) 1 3 a3) 1 6 (0 : Int32) 1 2 = Int32.ofNat m := by rw [upI_ne (by omega), upI_ne (by omega), upI_s]
    have ec : upI (upI (upI (upI I 1 1 (Int32.ofNat nc)) 1 2 (Int32.ofNat m)) 1 3 a3) 1 6 (0 : Int32) 1 1 = Int32.ofNat nc := by rw [upI_ne (by omega), upI_ne (by omega), upI_ne (by omega), upI_s]
    have a0 := (e65 m nc em ec m6 n6 (by omega)).1
    have nk0 : nkI I = 0 := by
      have hkb := hm.kb
      rw [hK.k1] at c34
      have := mt (oN_lt (a := 0) (by omega) (by omega)).mpr c34
      omega
    have nb0 : nbI I = 0 := by
      have hbb := hm.bb
      rw [hK.b1] at c45
      have := (oN_le (b := 0) (by omega) (by omega)).mp c45
      omega
    have ap : inR a3 1 5 := by
      have h1 := c21.1
      have h2 := c21.2
      rw [Int32.le_iff_toInt_le] at h1 h2
      exact ⟨h1, h2⟩
    have jx : ∀ a b, ¬ (3 ≤ a ∧ a ≤ 8) → ¬ (a = 1 ∧ (b = 1 ∨ b = 2 ∨ b = 3 ∨ b = 6)) → j62 a b = I a b := fun a b q1 q2 => by
      rw [a0 a b (by omega), upI_ne (by omega), upI_ne (by omega), upI_ne (by omega), upI_ne (by omega)]
    have e : ∀ a b, ¬ scr a b → ¬ ((a = 85 ∧ b = 33) ∨ (a = 1 ∧ b = 3) ∨ (a = 1 ∧ b = 2) ∨ (a = 1 ∧ b = 1) ∨ (a = 1 ∧ b = 6) ∨ (a = 85 ∧ b = 32) ∨ (a = 85 ∧ b = 31) ∨ (a = 85 ∧ b = 34)) → upI (upI (upI (upI (upI j62 85 42 (0 : Int32)) 85 31 (Int32.ofNat nc)) 85 32 (Int32.ofNat m)) 85 33 a3) 85 34 (0 : Int32) a b = I a b := fun a b q1 q2 => by
      rw [upI_ne (by omega), upI_ne (by omega), upI_ne (by omega), upI_ne (by omega), upI_ne (fun z => q1 (by unfold scr; omega)), jx a b (fun z => q1 (by unfold scr; omega)) (by omega)]
    have f31 : upI (upI (upI (upI (upI j62 85 42 (0 : Int32)) 85 31 (Int32.ofNat nc)) 85 32 (Int32.ofNat m)) 85 33 a3) 85 34 (0 : Int32) 85 31 = Int32.ofNat nc := by rw [upI_ne (by omega), upI_ne (by omega), upI_ne (by omega), upI_s]
    have f32 : upI (upI (upI (upI (upI j62 85 42 (0 : Int32)) 85 31 (Int32.ofNat nc)) 85 32 (Int32.ofNat m)) 85 33 a3) 85 34 (0 : Int32) 85 32 = Int32.ofNat m := by rw [upI_ne (by omega), upI_ne (by omega), upI_s]
    have f33 : upI (upI (upI (upI (upI j62 85 42 (0 : Int32)) 85 31 (Int32.ofNat nc)) 85 32 (Int32.ofNat m)) 85 33 a3) 85 34 (0 : Int32) 85 33 = a3 := by rw [upI_ne (by omega), upI_s]
    have f35 := e 85 35 (by unfold scr; omega) (by omega)
    have f46 := e 85 46 (by unfold scr; omega) (by omega)
    generalize hM : upI (upI (upI (upI (upI j62 85 42 (0 : Int32)) 85 31 (Int32.ofNat nc)) 85 32 (Int32.ofNat m)) 85 33 a3) 85 34 (0 : Int32) = M at t89 e f31 f32 f33 f35 f46
    have f34 : M 85 34 = 0 := by rw [← hM, upI_s]
    have f42 : M 85 42 = 0 := by rw [← hM, upI_ne (by omega), upI_ne (by omega), upI_ne (by omega), upI_ne (by omega), upI_s]
    have g1 : ∀ b, M 1 b = j62 1 b := fun b => by rw [← hM, upI_ne (by omega), upI_ne (by omega), upI_ne (by omega), upI_ne (by omega), upI_ne (by omega)]
    have h11 : M 1 1 = Int32.ofNat nc := by rw [g1, a0 1 1 (by omega), ec]
    have h12 : M 1 2 = Int32.ofNat m := by rw [g1, a0 1 2 (by omega), em']
    have h13 : M 1 3 = a3 := by rw [g1, a0 1 3 (by omega), upI_ne (by omega), upI_s]
    have h16 : M 1 6 = 0 := by rw [g1, a0 1 6 (by omega), upI_s]
    have q_nc : ncI M = nc := by show (M 85 31).toNatClampNeg = nc; rw [f31, ofN_clamp (by omega)]
    have q_md : mdI M = m := by show (M 85 32).toNatClampNeg = m; rw [f32, ofN_clamp (by omega)]
    have q_sz : szI M = 0 := by show (M 85 34).toNatClampNeg = 0; rw [f34]; rfl
    have q_nk : nkI M = 0 := by show (M 85 35).toNatClampNeg = 0; rw [f35]; exact nk0
    have q_nb : nbI M = 0 := by show (M 85 46).toNatClampNeg = 0; rw [f46]; exact nb0
    have hM2 : RK M (upL L 1 5 (0 : Int64)) R := by
      refine RK_up_mach hK e (fun k hk => upL_ne (by omega)) (fun b => upL_ne (by omega)) (MI_up_mach hm e ?_ ?_ ?_ ?_ ?_ ?_ ?_ ?_ ?_ ?_ ?_ ?_ ?_ ?_ ?_) ?_ ?_ ?_ ?_ ?_ ?_
      · rw [q_nc, f31]
      · rw [q_nc]; exact n3
      · rw [q_nc]; exact n6
      · rw [q_md, f32]
      · rw [q_md]; exact m2
      · rw [q_md]; exact m6
      · rw [q_sz, f34]; rfl
      · rw [q_sz]; exact Nat.zero_le _
      · rw [f33]; exact ap
      · intro k c hk; rw [q_nk] at hk; exact absurd hk (Nat.not_lt_zero k)
      · intro k c hk; rw [q_nk] at hk; exact absurd hk (Nat.not_lt_zero k)
      · intro c hc; rw [q_sz] at hc; exact absurd hc (Nat.not_lt_zero c)
      · intro c hc; rw [q_sz] at hc; exact absurd hc (Nat.not_lt_zero _)
      · intro b hb; rw [q_nb] at hb; exact absurd hb (Nat.not_lt_zero b)
      · intro b c hb; rw [q_nb] at hb; exact absurd hb (Nat.not_lt_zero b)
      · rw [h11, f31]
      · rw [h12, f32]
      · rw [h13, f33]
      · rw [h16, f34]
      · intro k hk; rw [q_nk] at hk; exact absurd hk (Nat.not_lt_zero k)
      · rw [q_sz, upL_s]; exact isCuts_0
    refine qW_mono ?_ (lk_210 N _ 0 lv h88 t89 (fun _ _ _ => rfl) (fun c hc => absurd hc (Nat.not_lt_zero c)) (Nat.zero_le _) hl)
    rintro r ⟨v, J, J2, h1, rfl, q2, q3, q4, q5⟩
    have w1 := (q5 m nc (by rw [q3 85 32 (by decide), f32, ofN_clamp (by omega)]) (by rw [q3 85 31 (by decide), f31, ofN_clamp (by omega)]) m6 n6 (by omega)).1
    have key : v66 = v := cnt_CM (J := J) em ec m6 n6 (by omega) (by rw [q3 85 31 (by decide), f31, ec]) (by rw [q3 85 32 (by decide), f32, em']) (by rw [q3 85 33 (by decide), f33]) (fun c x hc hx => by
      rw [q4 c (by omega), tb_63 x (by omega)]
      exact (e61 nc m ec em' n6 m6 c x (by omega)).mpr ⟨hc, hx⟩) e65 q5
    exact ⟨0, v, J2, _, R, rfl, rfl, q2, (w1 85 42 (by decide)).trans ((q3 85 42 (by decide)).trans f42), fun _ => upL_s.trans (congrArg Int32.toInt64 key), RK_L (RK_s hM2 (agS_t (agS_L w1) (agS_r q3)) (fun _ _ => rfl) rfl (fun _ => rfl))⟩)
  (fun c2 c11 c21 c34 c45 v60 _ v66 j62 e65 _ c76 c79 => by
    obtain ⟨nc, n3, n6, rfl⟩ := rg_b (a := 3) (b := 6) rfl rfl (by omega) (by omega) c2
    obtain ⟨m, m2, m6, rfl⟩ := rg_b (a := 2) (b := 6) rfl rfl (by omega) (by omega) c11
    have a0 := (e65 m nc (by rw [upI_ne (by omega), upI_ne (by omega), upI_s, ofN_clamp (by omega)]) (by rw [upI_ne (by omega), upI_ne (by omega), upI_ne (by omega), upI_s]) m6 n6 (by omega)).1
    rw [a0 85 46 (by omega), upI_ne (by omega), upI_ne (by omega), upI_ne (by omega), upI_ne (by omega), ← hK.nb] at c79
    exact c79 c45)
set_option maxHeartbeats 4000000 in
theorem qp_1 {h : sH} {I : Nat → Nat → Int32} {L : Nat → Nat → Int64} {R : Nat → Nat} (th : qH h I L R) (hK : RK I L R) (hG : RG I) {a1 : Int32} {r : sR} (gW : qGo 50 [.ref (0), .int (a1), .ref (117)] h r)
    (p1 : ∀ (c2 : (0 : Int32) ≤ a1 ∧ a1 ≤ ((I 1 2) - (1 : Int32))), ∀ (c13 : (I 1 6) = 0), ∀ (c14 : (I 1 6) < (I 1 1)), ∀ (bb20 : sIn (0 : Int32) 1 = true), ∀ (c34 : ¬ (I 1 6) = (I 1 1)), ∀ (bb38 : sIn (I 1 6) 6 = true), RK (upI (upI (upI (upI I 1 6 ((I 1 6) + (1 : Int32))) 85 42 (0 : Int32)) 87 ((I 1 6).toNatClampNeg) a1) 85 34 ((I 1 6) + (1 : Int32))) (upL (upL L 1 5 ((L 1 5) ||| (bitL (I 1 6) a1))) 117 (((0 : Int32)).toNatClampNeg) (((I 1 6) + (1 : Int32)).toInt64)) R)
    (p2 : ∀ (c2 : (0 : Int32) ≤ a1 ∧ a1 ≤ ((I 1 2) - (1 : Int32))), ∀ (c13 : (I 1 6) = 0), ∀ (c14 : (I 1 6) < (I 1 1)), ∀ (bb20 : sIn (0 : Int32) 1 = true), ∀ (c34 : (I 1 6) = (I 1 1)), RK (upI (upI I 1 6 ((I 1 6) + (1 : Int32))) 85 42 (2 : Int32)) (upL (upL L 1 5 ((L 1 5) ||| (bitL (I 1 6) a1))) 117 (((0 : Int32)).toNatClampNeg) (((I 1 6) + (1 : Int32)).toInt64)) R)
    (p3 : ∀ (c2 : (0 : Int32) ≤ a1 ∧ a1 ≤ ((I 1 2) - (1 : Int32))), ∀ (c13 : (I 1 6) = 0), ∀ (c14 : ¬ (I 1 6) < (I 1 1)), ∀ (c57 : ¬ (I 1 6) = (I 1 1)), ∀ (bb61 : sIn (I 1 6) 6 = true), RK (upI (upI (upI I 85 42 (0 : Int32)) 87 ((I 1 6).toNatClampNeg) a1) 85 34 ((I 1 6) + (1 : Int32))) L R)
    (p4 : ∀ (c2 : (0 : Int32) ≤ a1 ∧ a1 ≤ ((I 1 2) - (1 : Int32))), ∀ (c13 : ¬ (I 1 6) = 0), ∀ (c69 : (I 1 3) < (if 0 ≤ a1 - (dpL (L 1 5) ((I 1 6) - (1 : Int32))) then a1 - (dpL (L 1 5) ((I 1 6) - (1 : Int32))) else 0 - (a1 - (dpL (L 1 5) ((I 1 6) - (1 : Int32)))))), ∀ (c79 : ¬ (I 1 6) = (I 1 1)), ∀ (bb88 : sIn ((I 1 6) - (1 : Int32)) 6 = true), ∀ (c90 : ¬ (I 1 3) < (T_213 (a1 - (I 87 (((I 1 6) - (1 : Int32)).toNatClampNeg))))), ∀ (bb103 : sIn (I 1 6) 6 = true), RK (upI (upI (upI I 85 42 (0 : Int32)) 87 ((I 1 6).toNatClampNeg) a1) 85 34 ((I 1 6) + (1 : Int32))) L R)
    (p5 : ∀ (c2 : (0 : Int32) ≤ a1 ∧ a1 ≤ ((I 1 2) - (1 : Int32))), ∀ (c13 : ¬ (I 1 6) = 0), ∀ (c69 : ¬ (I 1 3) < (if 0 ≤ a1 - (dpL (L 1 5) ((I 1 6) - (1 : Int32))) then a1 - (dpL (L 1 5) ((I 1 6) - (1 : Int32))) else 0 - (a1 - (dpL (L 1 5) ((I 1 6) - (1 : Int32)))))), ∀ (c109 : (I 1 6) < (I 1 1)), ∀ (bb115 : sIn (0 : Int32) 1 = true), ∀ (c127 : (I 1 6) = (I 1 1)), RK (upI (upI I 1 6 ((I 1 6) + (1 : Int32))) 85 42 (2 : Int32)) (upL (upL L 1 5 ((L 1 5) ||| (bitL (I 1 6) a1))) 117 (((0 : Int32)).toNatClampNeg) (((I 1 6) + (1 : Int32)).toInt64)) R)
    (p6 : ∀ (c2 : (0 : Int32) ≤ a1 ∧ a1 ≤ ((I 1 2) - (1 : Int32))), ∀ (c13 : ¬ (I 1 6) = 0), ∀ (c69 : ¬ (I 1 3) < (if 0 ≤ a1 - (dpL (L 1 5) ((I 1 6) - (1 : Int32))) then a1 - (dpL (L 1 5) ((I 1 6) - (1 : Int32))) else 0 - (a1 - (dpL (L 1 5) ((I 1 6) - (1 : Int32)))))), ∀ (c109 : (I 1 6) < (I 1 1)), ∀ (bb115 : sIn (0 : Int32) 1 = true), ∀ (c127 : ¬ (I 1 6) = (I 1 1)), ∀ (bb136 : sIn ((I 1 6) - (1 : Int32)) 6 = true), ∀ (c139 : (I 1 3) < (T_213 (a1 - (I 87 (((I 1 6) - (1 : Int32)).toNatClampNeg))))), RK (upI (upI I 1 6 ((I 1 6) + (1 : Int32))) 85 42 (1 : Int32)) (upL (upL L 1 5 ((L 1 5) ||| (bitL (I 1 6) a1))) 117 (((0 : Int32)).toNatClampNeg) (((I 1 6) + (1 : Int32)).toInt64)) R)
    (p7 : ∀ (c2 : (0 : Int32) ≤ a1 ∧ a1 ≤ ((I 1 2) - (1 : Int32))), ∀ (c13 : ¬ (I 1 6) = 0), ∀ (c69 : ¬ (I 1 3) < (if 0 ≤ a1 - (dpL (L 1 5) ((I 1 6) - (1 : Int32))) then a1 - (dpL (L 1 5) ((I 1 6) - (1 : Int32))) else 0 - (a1 - (dpL (L 1 5) ((I 1 6) - (1 : Int32)))))), ∀ (c109 : (I 1 6) < (I 1 1)), ∀ (bb115 : sIn (0 : Int32) 1 = true), ∀ (c127 : ¬ (I 1 6) = (I 1 1)), ∀ (bb136 : sIn ((I 1 6) - (1 : Int32)) 6 = true), ∀ (c139 : ¬ (I 1 3) < (T_213 (a1 - (I 87 (((I 1 6) - (1 : Int32)).toNatClampNeg))))), ∀ (bb152 : sIn (I 1 6) 6 = true), RK (upI (upI (upI (upI I 1 6 ((I 1 6) + (1 : Int32))) 85 42 (0 : Int32)) 87 ((I 1 6).toNatClampNeg) a1) 85 34 ((I 1 6) + (1 : Int32))) (upL (upL L 1 5 ((L 1 5) ||| (bitL (I 1 6) a1))) 117 (((0 : Int32)).toNatClampNeg) (((I 1 6) + (1 : Int32)).toInt64)) R)
    (p8 : ∀ (c2 : (0 : Int32) ≤ a1 ∧ a1 ≤ ((I 1 2) - (1 : Int32))), ∀ (c13 : ¬ (I 1 6) = 0), ∀ (c69 : ¬ (I 1 3) < (if 0 ≤ a1 - (dpL (L 1 5) ((I 1 6) - (1 : Int32))) then a1 - (dpL (L 1 5) ((I 1 6) - (1 : Int32))) else 0 - (a1 - (dpL (L 1 5) ((I 1 6) - (1 : Int32)))))), ∀ (c109 : ¬ (I 1 6) < (I 1 1)), ∀ (c167 : ¬ (I 1 6) = (I 1 1)), ∀ (bb176 : sIn ((I 1 6) - (1 : Int32)) 6 = true), ∀ (c178 : ¬ (I 1 3) < (T_213 (a1 - (I 87 (((I 1 6) - (1 : Int32)).toNatClampNeg))))), ∀ (bb191 : sIn (I 1 6) 6 = true), RK (upI (upI (upI I 85 42 (0 : Int32)) 87 ((I 1 6).toNatClampNeg) a1) 85 34 ((I 1 6) + (1 : Int32))) L R) : ∀ r2 : sR, qGo 214 [.ref (85), .int (a1)] r.2 r2 → opX r.1 r2.1 r2.2 RK := by
  refine qGo_w (Q := fun r => ∀ r2 : sR, qGo 214 [.ref (85), .int (a1)] r.2 r2 → opX r.1 r2.1 r2.2 RK) gW (fun N => ?_)
  have hl0 : qLs (lv_args 0 [.ref (0), .int (a1), .ref (117)]) [some (.ref (0)), some (.int (a1)), some (.ref (117)), none] := qLs_ar 1
  refine q_aload_n (show mE (mtv 50) 0 = some (.aload_n 2, 1, 0, 0) from rfl) (hl0 2 _ rfl) ?_
  refine q_iconst (show mE (mtv 50) 1 = some (.iconst 0, 1, 0, 0) from rfl) kI_0 ?_
  refine q_aload_n (show mE (mtv 50) 2 = some (.aload_n 0, 1, 0, 0) from rfl) (hl0 0 _ rfl) ?_
  refine q_iload_n (show mE (mtv 50) 3 = some (.iload_n 1, 1, 0, 0) from rfl) (hl0 1 _ rfl) ?_
  refine q_virtualIh (show mE (mtv 50) 4 = some (.invokevirtual 17, 3, 51, 8) from rfl) (by decide) rfl rfl rfl (fun _ => ?_)
  have hl1 : qLs (lv_args 0 [.ref (0), .int (a1)]) [some (.ref (0)), some (.int (a1))] := qLs_ar 0
  refine q_iload_n (show mE (mtv 51) 0 = some (.iload_n 1, 1, 0, 0) from rfl) (hl1 1 _ rfl) ?_
  refine q_iconst (show mE (mtv 51) 1 = some (.iconst 0, 1, 0, 0) from rfl) kI_0 ?_
  refine q_aload_n (show mE (mtv 51) 2 = some (.aload_n 0, 1, 0, 0) from rfl) (hl1 0 _ rfl) ?_
  refine q_getR (m := 1) th (show mE (mtv 51) 3 = some (.getfield 10, 3, 8, 0) from rfl) (by decide) rfl rfl ?_
  refine q_getI th (show mE (mtv 51) 6 = some (.getfield 111, 3, 4, 2) from rfl) (by decide) rfl ?_
  refine q_iconst (show mE (mtv 51) 9 = some (.iconst 1, 1, 0, 0) from rfl) kI_1 ?_
  refine q_isub (show mE (mtv 51) 10 = some (.isub, 1, 0, 0) from rfl) ?_
  refine q_staticP (show mE (mtv 51) 11 = some (.invokestatic 77, 3, 47, 0) from rfl) (by decide) rfl rfl rfl (fun _ g => sp_47 g) ?_
  refine q_ifb_eq (t := 28) (show mE (mtv 51) 14 = some (.ifCond .eq 14, 3, 0, 0) from rfl) rfl (fun c2 => ?_) (fun c2 => ?_)
  · refine q_throw (show mE (mtv 51) 28 = some (.new 81, 3, 1000, 0) from rfl) (by decide) ?_
    refine qKh_x (hp := 12) (c := (13, sDr 3 (lv_args 0 [.ref (0), .int (a1), .ref (117)]), [], h)) rfl (by decide) (fun _ _ => rfl) ?_
    refine q_iconst (show mE (mtv 50) 13 = some (.iconst 1, 1, 0, 0) from rfl) kI_1 ?_
    refine q_ireturn (show mE (mtv 50) 14 = some (.ireturn, 1, 0, 0) from rfl) ?_
    intro r3 g4
    have g4 : qGo 214 [.ref (85), .int (a1)] h r3 := g4
    refine qGo_w (Q := fun r2 => opX (.inl (some (.int ((1 : Int32))))) r2.1 r2.2 RK) g4 (fun _ => ?_)
    have hl5 : qLs (lv_args 0 [.ref (85), .int (a1)]) [some (.ref (85)), some (.int (a1)), none] := qLs_ar 1
    refine q_iload_n (show mE (mtv 214) 0 = some (.iload_n 1, 1, 0, 0) from rfl) (hl5 1 _ rfl) ?_
    refine q_iconst (show mE (mtv 214) 1 = some (.iconst 0, 1, 0, 0) from rfl) kI_0 ?_
    refine q_aload_n (show mE (mtv 214) 2 = some (.aload_n 0, 1, 0, 0) from rfl) (hl5 0 _ rfl) ?_
    refine q_getI th (show mE (mtv 214) 3 = some (.getfield 108, 3, 9, 32) from rfl) (by decide) rfl ?_
    have r6 : I 85 32 = I 1 2 := hK.dp.symm
    rw [r6]; clear r6
    refine q_iconst (show mE (mtv 214) 6 = some (.iconst 1, 1, 0, 0) from rfl) kI_1 ?_
    refine q_isub (show mE (mtv 214) 7 = some (.isub, 1, 0, 0) from rfl) ?_
    refine q_staticP (show mE (mtv 214) 8 = some (.invokestatic 157, 3, 211, 0) from rfl) (by decide) rfl rfl rfl (fun _ g => sp_211 g) ?_
    refine q_ifb_eq (t := 59) (show mE (mtv 214) 11 = some (.ifCond .eq 48, 3, 0, 0) from rfl) rfl (fun c7 => ?_) (fun c7 => ?_)
    · clear c7
      refine q_iconst (show mE (mtv 214) 59 = some (.iconst 0, 1, 0, 0) from rfl) kI_0 ?_
      refine q_istore_n (show mE (mtv 214) 60 = some (.istore_n 2, 1, 0, 0) from rfl) (Nat.le_of_ble_eq_true rfl) hl5 (fun lv8 (hl9 : qLs lv8 [some (.ref (85)), some (.int (a1)), some (.int ((0 : Int32)))]) => ?_)
      refine q_aload_n (show mE (mtv 214) 61 = some (.aload_n 0, 1, 0, 0) from rfl) (hl9 0 _ rfl) ?_
      refine q_iload_n (show mE (mtv 214) 62 = some (.iload_n 2, 1, 0, 0) from rfl) (hl9 2 _ rfl) ?_
      refine q_iff (t := 70) (show mE (mtv 214) 63 = some (.ifCond .ne 7, 3, 0, 0) from rfl) (by decide) rfl ?_
      refine q_iconst (show mE (mtv 214) 66 = some (.iconst 1, 1, 0, 0) from rfl) kI_1 ?_
      refine q_goto (t := 86) (show mE (mtv 214) 67 = some (.goto 19, 3, 0, 0) from rfl) rfl ?_
      refine q_putI th (show mE (mtv 214) 86 = some (.putfield 138, 3, 9, 42) from rfl) (by decide) rfl (fun h10 t11 => ?_)
      refine q_aload_n (show mE (mtv 214) 89 = some (.aload_n 0, 1, 0, 0) from rfl) (hl9 0 _ rfl) ?_
      refine q_getIe t11 (show mE (mtv 214) 90 = some (.getfield 138, 3, 9, 42) from rfl) (by decide) rfl (upI_s) ?_
      refine q_iff (t := 98) (show mE (mtv 214) 93 = some (.ifCond .le 5, 3, 0, 0) from rfl) (by decide) rfl ?_
      refine q_iconst (show mE (mtv 214) 96 = some (.iconst 0, 1, 0, 0) from rfl) kI_0 ?_
      refine q_ireturn (show mE (mtv 214) 97 = some (.ireturn, 1, 0, 0) from rfl) ?_
      exact ⟨(1 : Int32), (0 : Int32), _, _, _, rfl, rfl, t11, (RK_t (1 : Int32) hK)⟩
    · exact absurd c7 c2
  · refine q_aload_n (show mE (mtv 51) 17 = some (.aload_n 0, 1, 0, 0) from rfl) (hl1 0 _ rfl) ?_
    refine q_getR (m := 1) th (show mE (mtv 51) 18 = some (.getfield 10, 3, 8, 0) from rfl) (by decide) rfl rfl ?_
    refine q_iload_n (show mE (mtv 51) 21 = some (.iload_n 1, 1, 0, 0) from rfl) (hl1 1 _ rfl) ?_
    refine q_virtualI (show mE (mtv 51) 22 = some (.invokevirtual 114, 3, 52, 4) from rfl) (by decide) rfl rfl rfl (fun _ => ?_)
    have hl12 : qLs (lv_args 0 [.ref (1), .int (a1)]) [some (.ref (1)), some (.int (a1))] := qLs_ar 0
    refine q_aload_n (show mE (mtv 52) 0 = some (.aload_n 0, 1, 0, 0) from rfl) (hl12 0 _ rfl) ?_
    refine q_getI th (show mE (mtv 52) 1 = some (.getfield 30, 3, 4, 6) from rfl) (by decide) rfl ?_
    refine q_if_eq (t := 32) (show mE (mtv 52) 4 = some (.ifCond .eq 28, 3, 0, 0) from rfl) rfl (fun c13 => ?_) (fun c13 => ?_)
    · refine q_iconst (show mE (mtv 52) 32 = some (.iconst 1, 1, 0, 0) from rfl) kI_1 ?_
      refine q_goto (t := 37) (show mE (mtv 52) 33 = some (.goto 4, 3, 0, 0) from rfl) rfl ?_
      refine q_ireturn (show mE (mtv 52) 37 = some (.ireturn, 1, 0, 0) from rfl) ?_
      refine qK_v ?_
      refine q_ift (t := 38) (show mE (mtv 51) 25 = some (.ifCond .ne 13, 3, 0, 0) from rfl) (by decide) rfl ?_
      refine q_aload_n (show mE (mtv 51) 38 = some (.aload_n 0, 1, 0, 0) from rfl) (hl1 0 _ rfl) ?_
      refine q_getR (m := 1) th (show mE (mtv 51) 39 = some (.getfield 10, 3, 8, 0) from rfl) (by decide) rfl rfl ?_
      refine q_getI th (show mE (mtv 51) 42 = some (.getfield 120, 3, 4, 6) from rfl) (by decide) rfl ?_
      refine q_aload_n (show mE (mtv 51) 45 = some (.aload_n 0, 1, 0, 0) from rfl) (hl1 0 _ rfl) ?_
      refine q_getR (m := 1) th (show mE (mtv 51) 46 = some (.getfield 10, 3, 8, 0) from rfl) (by decide) rfl rfl ?_
      refine q_getI th (show mE (mtv 51) 49 = some (.getfield 123, 3, 4, 1) from rfl) (by decide) rfl ?_
      refine q_ic_lt (t := 65) (show mE (mtv 51) 52 = some (.if_icmp .lt 13, 3, 0, 0) from rfl) rfl (fun c14 => ?_) (fun c14 => ?_)
      · refine q_aload_n (show mE (mtv 51) 65 = some (.aload_n 0, 1, 0, 0) from rfl) (hl1 0 _ rfl) ?_
        refine q_getR (m := 1) th (show mE (mtv 51) 66 = some (.getfield 10, 3, 8, 0) from rfl) (by decide) rfl rfl ?_
        refine q_iload_n (show mE (mtv 51) 69 = some (.iload_n 1, 1, 0, 0) from rfl) (hl1 1 _ rfl) ?_
        refine q_virtualI (show mE (mtv 51) 70 = some (.invokevirtual 131, 3, 53, 4) from rfl) (by decide) rfl rfl rfl (fun _ => ?_)
        have hl15 : qLs (lv_args 0 [.ref (1), .int (a1)]) [some (.ref (1)), some (.int (a1))] := qLs_ar 0
        refine q_aload_n (show mE (mtv 53) 0 = some (.aload_n 0, 1, 0, 0) from rfl) (hl15 0 _ rfl) ?_
        refine q_dupR (show mE (mtv 53) 1 = some (.dup, 1, 0, 0) from rfl) ?_
        refine q_getL th (show mE (mtv 53) 2 = some (.getfield 33, 3, 4, 5) from rfl) (by decide) rfl ?_
        refine q_aload_n (show mE (mtv 53) 5 = some (.aload_n 0, 1, 0, 0) from rfl) (hl15 0 _ rfl) ?_
        refine q_getI th (show mE (mtv 53) 6 = some (.getfield 30, 3, 4, 6) from rfl) (by decide) rfl ?_
        refine q_iload_n (show mE (mtv 53) 9 = some (.iload_n 1, 1, 0, 0) from rfl) (hl15 1 _ rfl) ?_
        refine q_staticP (show mE (mtv 53) 10 = some (.invokestatic 47, 3, 35, 0) from rfl) (by decide) rfl rfl rfl (fun _ g => sp_35 g) ?_
        refine q_lor (show mE (mtv 53) 13 = some (.lor, 1, 0, 0) from rfl) ?_
        refine q_putL th (show mE (mtv 53) 14 = some (.putfield 33, 3, 4, 5) from rfl) (by decide) rfl (fun h16 t17 => ?_)
        refine q_aload_n (show mE (mtv 53) 17 = some (.aload_n 0, 1, 0, 0) from rfl) (hl15 0 _ rfl) ?_
        refine q_dupR (show mE (mtv 53) 18 = some (.dup, 1, 0, 0) from rfl) ?_
        refine q_getI t17 (show mE (mtv 53) 19 = some (.getfield 30, 3, 4, 6) from rfl) (by decide) rfl ?_
        refine q_iconst (show mE (mtv 53) 22 = some (.iconst 1, 1, 0, 0) from rfl) kI_1 ?_
        refine q_iadd (show mE (mtv 53) 23 = some (.iadd, 1, 0, 0) from rfl) ?_
        refine q_putI t17 (show mE (mtv 53) 24 = some (.putfield 30, 3, 4, 6) from rfl) (by decide) rfl (fun h18 t19 => ?_)
        refine q_aload_n (show mE (mtv 53) 27 = some (.aload_n 0, 1, 0, 0) from rfl) (hl15 0 _ rfl) ?_
        refine q_getIe t19 (show mE (mtv 53) 28 = some (.getfield 30, 3, 4, 6) from rfl) (by decide) rfl (upI_s) ?_
        refine q_ireturn (show mE (mtv 53) 31 = some (.ireturn, 1, 0, 0) from rfl) ?_
        refine qK_v ?_
        refine q_ireturn (show mE (mtv 51) 73 = some (.ireturn, 1, 0, 0) from rfl) ?_
        refine qKh_v ?_
        refine q_i2l (show mE (mtv 50) 7 = some (.i2l, 1, 0, 0) from rfl) ?_
        refine q_lastore (n := 1) t19 (show mE (mtv 50) 8 = some (.lastore, 1, 0, 0) from rfl) (by decide) rfl (fun bb20 h21 t22 => ?_)
        refine q_goto (t := 18) (show mE (mtv 50) 9 = some (.goto 9, 3, 0, 0) from rfl) rfl ?_
        refine q_iconst (show mE (mtv 50) 18 = some (.iconst 0, 1, 0, 0) from rfl) kI_0 ?_
        refine q_ireturn (show mE (mtv 50) 19 = some (.ireturn, 1, 0, 0) from rfl) ?_
        intro r23 g24
        have g24 : qGo 214 [.ref (85), .int (a1)] h21 r23 := g24
        refine qGo_w (Q := fun r2 => opX (.inl (some (.int ((0 : Int32))))) r2.1 r2.2 RK) g24 (fun _ => ?_)
        have hl25 : qLs (lv_args 0 [.ref (85), .int (a1)]) [some (.ref (85)), some (.int (a1)), none] := qLs_ar 1
        refine q_iload_n (show mE (mtv 214) 0 = some (.iload_n 1, 1, 0, 0) from rfl) (hl25 1 _ rfl) ?_
        refine q_iconst (show mE (mtv 214) 1 = some (.iconst 0, 1, 0, 0) from rfl) kI_0 ?_
        refine q_aload_n (show mE (mtv 214) 2 = some (.aload_n 0, 1, 0, 0) from rfl) (hl25 0 _ rfl) ?_
        refine q_getIe t22 (show mE (mtv 214) 3 = some (.getfield 108, 3, 9, 32) from rfl) (by decide) rfl (upI_n (Or.inr (by decide))) ?_
        have r26 : I 85 32 = I 1 2 := hK.dp.symm
        rw [r26]; clear r26
        refine q_iconst (show mE (mtv 214) 6 = some (.iconst 1, 1, 0, 0) from rfl) kI_1 ?_
        refine q_isub (show mE (mtv 214) 7 = some (.isub, 1, 0, 0) from rfl) ?_
        refine q_staticP (show mE (mtv 214) 8 = some (.invokestatic 157, 3, 211, 0) from rfl) (by decide) rfl rfl rfl (fun _ g => sp_211 g) ?_
        refine q_ifb_eq (t := 59) (show mE (mtv 214) 11 = some (.ifCond .eq 48, 3, 0, 0) from rfl) rfl (fun c27 => ?_) (fun c27 => ?_)
        · exact absurd c2 c27
        · clear c27
          refine q_aload_n (show mE (mtv 214) 14 = some (.aload_n 0, 1, 0, 0) from rfl) (hl25 0 _ rfl) ?_
          refine q_getIe t22 (show mE (mtv 214) 15 = some (.getfield 114, 3, 9, 34) from rfl) (by decide) rfl (upI_n (Or.inr (by decide))) ?_
          have r28 : I 85 34 = I 1 6 := hK.sz.symm
          rw [r28]; clear r28
          refine q_if_eq (t := 55) (show mE (mtv 214) 18 = some (.ifCond .eq 37, 3, 0, 0) from rfl) rfl (fun c29 => ?_) (fun c29 => ?_)
          · clear c29
            refine q_iconst (show mE (mtv 214) 55 = some (.iconst 1, 1, 0, 0) from rfl) kI_1 ?_
            refine q_goto (t := 60) (show mE (mtv 214) 56 = some (.goto 4, 3, 0, 0) from rfl) rfl ?_
            refine q_istore_n (show mE (mtv 214) 60 = some (.istore_n 2, 1, 0, 0) from rfl) (Nat.le_of_ble_eq_true rfl) hl25 (fun lv30 (hl31 : qLs lv30 [some (.ref (85)), some (.int (a1)), some (.int ((1 : Int32)))]) => ?_)
            refine q_aload_n (show mE (mtv 214) 61 = some (.aload_n 0, 1, 0, 0) from rfl) (hl31 0 _ rfl) ?_
            refine q_iload_n (show mE (mtv 214) 62 = some (.iload_n 2, 1, 0, 0) from rfl) (hl31 2 _ rfl) ?_
            refine q_ift (t := 70) (show mE (mtv 214) 63 = some (.ifCond .ne 7, 3, 0, 0) from rfl) (by decide) rfl ?_
            refine q_aload_n (show mE (mtv 214) 70 = some (.aload_n 0, 1, 0, 0) from rfl) (hl31 0 _ rfl) ?_
            refine q_getIe t22 (show mE (mtv 214) 71 = some (.getfield 114, 3, 9, 34) from rfl) (by decide) rfl (upI_n (Or.inr (by decide))) ?_
            have r32 : I 85 34 = I 1 6 := hK.sz.symm
            rw [r32]; clear r32
            refine q_aload_n (show mE (mtv 214) 74 = some (.aload_n 0, 1, 0, 0) from rfl) (hl31 0 _ rfl) ?_
            refine q_getIe t22 (show mE (mtv 214) 75 = some (.getfield 104, 3, 9, 31) from rfl) (by decide) rfl (upI_n (Or.inr (by decide))) ?_
            have r33 : I 85 31 = I 1 1 := hK.ch.symm
            rw [r33]; clear r33
            refine q_ic_ne (t := 85) (show mE (mtv 214) 78 = some (.if_icmp .ne 7, 3, 0, 0) from rfl) rfl (fun c34 => ?_) (fun c34 => ?_)
            · refine q_iconst (show mE (mtv 214) 85 = some (.iconst 0, 1, 0, 0) from rfl) kI_0 ?_
              refine q_putI t22 (show mE (mtv 214) 86 = some (.putfield 138, 3, 9, 42) from rfl) (by decide) rfl (fun h35 t36 => ?_)
              refine q_aload_n (show mE (mtv 214) 89 = some (.aload_n 0, 1, 0, 0) from rfl) (hl31 0 _ rfl) ?_
              refine q_getIe t36 (show mE (mtv 214) 90 = some (.getfield 138, 3, 9, 42) from rfl) (by decide) rfl (upI_s) ?_
              refine q_ift (t := 98) (show mE (mtv 214) 93 = some (.ifCond .le 5, 3, 0, 0) from rfl) (by decide) rfl ?_
              refine q_aload_n (show mE (mtv 214) 98 = some (.aload_n 0, 1, 0, 0) from rfl) (hl31 0 _ rfl) ?_
              refine q_getR (m := 87) t36 (show mE (mtv 214) 99 = some (.getfield 13, 3, 9, 1) from rfl) (by decide) rfl rfl ?_
              refine q_aload_n (show mE (mtv 214) 102 = some (.aload_n 0, 1, 0, 0) from rfl) (hl31 0 _ rfl) ?_
              refine q_getIe t36 (show mE (mtv 214) 103 = some (.getfield 114, 3, 9, 34) from rfl) (by decide) rfl ((upI_n (Or.inr (by decide))).trans (upI_n (Or.inr (by decide)))) ?_
              have r37 : I 85 34 = I 1 6 := hK.sz.symm
              rw [r37]; clear r37
              refine q_iload_n (show mE (mtv 214) 106 = some (.iload_n 1, 1, 0, 0) from rfl) (hl31 1 _ rfl) ?_
              refine q_iastore (n := 6) t36 (show mE (mtv 214) 107 = some (.iastore, 1, 0, 0) from rfl) (by decide) rfl (fun bb38 h39 t40 => ?_)
              refine q_aload_n (show mE (mtv 214) 108 = some (.aload_n 0, 1, 0, 0) from rfl) (hl31 0 _ rfl) ?_
              refine q_dupR (show mE (mtv 214) 109 = some (.dup, 1, 0, 0) from rfl) ?_
              refine q_getIe t40 (show mE (mtv 214) 110 = some (.getfield 114, 3, 9, 34) from rfl) (by decide) rfl ((upI_n (Or.inl (by decide))).trans ((upI_n (Or.inr (by decide))).trans (upI_n (Or.inr (by decide))))) ?_
              have r41 : I 85 34 = I 1 6 := hK.sz.symm
              rw [r41]; clear r41
              refine q_iconst (show mE (mtv 214) 113 = some (.iconst 1, 1, 0, 0) from rfl) kI_1 ?_
              refine q_iadd (show mE (mtv 214) 114 = some (.iadd, 1, 0, 0) from rfl) ?_
              refine q_putI t40 (show mE (mtv 214) 115 = some (.putfield 114, 3, 9, 34) from rfl) (by decide) rfl (fun h42 t43 => ?_)
              refine q_aload_n (show mE (mtv 214) 118 = some (.aload_n 0, 1, 0, 0) from rfl) (hl31 0 _ rfl) ?_
              refine q_getIe t43 (show mE (mtv 214) 119 = some (.getfield 114, 3, 9, 34) from rfl) (by decide) rfl (upI_s) ?_
              refine q_ireturn (show mE (mtv 214) 122 = some (.ireturn, 1, 0, 0) from rfl) ?_
              exact ⟨(0 : Int32), (I 1 6) + (1 : Int32), _, _, _, rfl, rfl, t43, p1 c2 c13 c14 bb20 c34 bb38⟩
            · refine q_iconst (show mE (mtv 214) 81 = some (.iconst 2, 1, 0, 0) from rfl) kI_2 ?_
              refine q_goto (t := 86) (show mE (mtv 214) 82 = some (.goto 4, 3, 0, 0) from rfl) rfl ?_
              refine q_putI t22 (show mE (mtv 214) 86 = some (.putfield 138, 3, 9, 42) from rfl) (by decide) rfl (fun h44 t45 => ?_)
              refine q_aload_n (show mE (mtv 214) 89 = some (.aload_n 0, 1, 0, 0) from rfl) (hl31 0 _ rfl) ?_
              refine q_getIe t45 (show mE (mtv 214) 90 = some (.getfield 138, 3, 9, 42) from rfl) (by decide) rfl (upI_s) ?_
              refine q_iff (t := 98) (show mE (mtv 214) 93 = some (.ifCond .le 5, 3, 0, 0) from rfl) (by decide) rfl ?_
              refine q_iconst (show mE (mtv 214) 96 = some (.iconst 0, 1, 0, 0) from rfl) kI_0 ?_
              refine q_ireturn (show mE (mtv 214) 97 = some (.ireturn, 1, 0, 0) from rfl) ?_
              exact ⟨(0 : Int32), (0 : Int32), _, _, _, rfl, rfl, t45, p2 c2 c13 c14 bb20 c34⟩
          · exact absurd c13 c29
      · refine q_throw (show mE (mtv 51) 55 = some (.new 126, 3, 1001, 0) from rfl) (by decide) ?_
        refine qKh_x (hp := 15) (c := (16, sDr 3 (lv_args 0 [.ref (0), .int (a1), .ref (117)]), [], h)) rfl (by decide) (fun _ _ => rfl) ?_
        refine q_iconst (show mE (mtv 50) 16 = some (.iconst 2, 1, 0, 0) from rfl) kI_2 ?_
        refine q_ireturn (show mE (mtv 50) 17 = some (.ireturn, 1, 0, 0) from rfl) ?_
        intro r46 g47
        have g47 : qGo 214 [.ref (85), .int (a1)] h r46 := g47
        refine qGo_w (Q := fun r2 => opX (.inl (some (.int ((2 : Int32))))) r2.1 r2.2 RK) g47 (fun _ => ?_)
        have hl48 : qLs (lv_args 0 [.ref (85), .int (a1)]) [some (.ref (85)), some (.int (a1)), none] := qLs_ar 1
        refine q_iload_n (show mE (mtv 214) 0 = some (.iload_n 1, 1, 0, 0) from rfl) (hl48 1 _ rfl) ?_
        refine q_iconst (show mE (mtv 214) 1 = some (.iconst 0, 1, 0, 0) from rfl) kI_0 ?_
        refine q_aload_n (show mE (mtv 214) 2 = some (.aload_n 0, 1, 0, 0) from rfl) (hl48 0 _ rfl) ?_
        refine q_getI th (show mE (mtv 214) 3 = some (.getfield 108, 3, 9, 32) from rfl) (by decide) rfl ?_
        have r49 : I 85 32 = I 1 2 := hK.dp.symm
        rw [r49]; clear r49
        refine q_iconst (show mE (mtv 214) 6 = some (.iconst 1, 1, 0, 0) from rfl) kI_1 ?_
        refine q_isub (show mE (mtv 214) 7 = some (.isub, 1, 0, 0) from rfl) ?_
        refine q_staticP (show mE (mtv 214) 8 = some (.invokestatic 157, 3, 211, 0) from rfl) (by decide) rfl rfl rfl (fun _ g => sp_211 g) ?_
        refine q_ifb_eq (t := 59) (show mE (mtv 214) 11 = some (.ifCond .eq 48, 3, 0, 0) from rfl) rfl (fun c50 => ?_) (fun c50 => ?_)
        · exact absurd c2 c50
        · clear c50
          refine q_aload_n (show mE (mtv 214) 14 = some (.aload_n 0, 1, 0, 0) from rfl) (hl48 0 _ rfl) ?_
          refine q_getI th (show mE (mtv 214) 15 = some (.getfield 114, 3, 9, 34) from rfl) (by decide) rfl ?_
          have r51 : I 85 34 = I 1 6 := hK.sz.symm
          rw [r51]; clear r51
          refine q_if_eq (t := 55) (show mE (mtv 214) 18 = some (.ifCond .eq 37, 3, 0, 0) from rfl) rfl (fun c52 => ?_) (fun c52 => ?_)
          · clear c52
            refine q_iconst (show mE (mtv 214) 55 = some (.iconst 1, 1, 0, 0) from rfl) kI_1 ?_
            refine q_goto (t := 60) (show mE (mtv 214) 56 = some (.goto 4, 3, 0, 0) from rfl) rfl ?_
            refine q_istore_n (show mE (mtv 214) 60 = some (.istore_n 2, 1, 0, 0) from rfl) (Nat.le_of_ble_eq_true rfl) hl48 (fun lv53 (hl54 : qLs lv53 [some (.ref (85)), some (.int (a1)), some (.int ((1 : Int32)))]) => ?_)
            refine q_aload_n (show mE (mtv 214) 61 = some (.aload_n 0, 1, 0, 0) from rfl) (hl54 0 _ rfl) ?_
            refine q_iload_n (show mE (mtv 214) 62 = some (.iload_n 2, 1, 0, 0) from rfl) (hl54 2 _ rfl) ?_
            refine q_ift (t := 70) (show mE (mtv 214) 63 = some (.ifCond .ne 7, 3, 0, 0) from rfl) (by decide) rfl ?_
            refine q_aload_n (show mE (mtv 214) 70 = some (.aload_n 0, 1, 0, 0) from rfl) (hl54 0 _ rfl) ?_
            refine q_getI th (show mE (mtv 214) 71 = some (.getfield 114, 3, 9, 34) from rfl) (by decide) rfl ?_
            have r55 : I 85 34 = I 1 6 := hK.sz.symm
            rw [r55]; clear r55
            refine q_aload_n (show mE (mtv 214) 74 = some (.aload_n 0, 1, 0, 0) from rfl) (hl54 0 _ rfl) ?_
            refine q_getI th (show mE (mtv 214) 75 = some (.getfield 104, 3, 9, 31) from rfl) (by decide) rfl ?_
            have r56 : I 85 31 = I 1 1 := hK.ch.symm
            rw [r56]; clear r56
            refine q_ic_ne (t := 85) (show mE (mtv 214) 78 = some (.if_icmp .ne 7, 3, 0, 0) from rfl) rfl (fun c57 => ?_) (fun c57 => ?_)
            · refine q_iconst (show mE (mtv 214) 85 = some (.iconst 0, 1, 0, 0) from rfl) kI_0 ?_
              refine q_putI th (show mE (mtv 214) 86 = some (.putfield 138, 3, 9, 42) from rfl) (by decide) rfl (fun h58 t59 => ?_)
              refine q_aload_n (show mE (mtv 214) 89 = some (.aload_n 0, 1, 0, 0) from rfl) (hl54 0 _ rfl) ?_
              refine q_getIe t59 (show mE (mtv 214) 90 = some (.getfield 138, 3, 9, 42) from rfl) (by decide) rfl (upI_s) ?_
              refine q_ift (t := 98) (show mE (mtv 214) 93 = some (.ifCond .le 5, 3, 0, 0) from rfl) (by decide) rfl ?_
              refine q_aload_n (show mE (mtv 214) 98 = some (.aload_n 0, 1, 0, 0) from rfl) (hl54 0 _ rfl) ?_
              refine q_getR (m := 87) t59 (show mE (mtv 214) 99 = some (.getfield 13, 3, 9, 1) from rfl) (by decide) rfl rfl ?_
              refine q_aload_n (show mE (mtv 214) 102 = some (.aload_n 0, 1, 0, 0) from rfl) (hl54 0 _ rfl) ?_
              refine q_getIe t59 (show mE (mtv 214) 103 = some (.getfield 114, 3, 9, 34) from rfl) (by decide) rfl (upI_n (Or.inr (by decide))) ?_
              have r60 : I 85 34 = I 1 6 := hK.sz.symm
              rw [r60]; clear r60
              refine q_iload_n (show mE (mtv 214) 106 = some (.iload_n 1, 1, 0, 0) from rfl) (hl54 1 _ rfl) ?_
              refine q_iastore (n := 6) t59 (show mE (mtv 214) 107 = some (.iastore, 1, 0, 0) from rfl) (by decide) rfl (fun bb61 h62 t63 => ?_)
              refine q_aload_n (show mE (mtv 214) 108 = some (.aload_n 0, 1, 0, 0) from rfl) (hl54 0 _ rfl) ?_
              refine q_dupR (show mE (mtv 214) 109 = some (.dup, 1, 0, 0) from rfl) ?_
              refine q_getIe t63 (show mE (mtv 214) 110 = some (.getfield 114, 3, 9, 34) from rfl) (by decide) rfl ((upI_n (Or.inl (by decide))).trans (upI_n (Or.inr (by decide)))) ?_
              have r64 : I 85 34 = I 1 6 := hK.sz.symm
              rw [r64]; clear r64
              refine q_iconst (show mE (mtv 214) 113 = some (.iconst 1, 1, 0, 0) from rfl) kI_1 ?_
              refine q_iadd (show mE (mtv 214) 114 = some (.iadd, 1, 0, 0) from rfl) ?_
              refine q_putI t63 (show mE (mtv 214) 115 = some (.putfield 114, 3, 9, 34) from rfl) (by decide) rfl (fun h65 t66 => ?_)
              refine q_aload_n (show mE (mtv 214) 118 = some (.aload_n 0, 1, 0, 0) from rfl) (hl54 0 _ rfl) ?_
              refine q_getIe t66 (show mE (mtv 214) 119 = some (.getfield 114, 3, 9, 34) from rfl) (by decide) rfl (upI_s) ?_
              refine q_ireturn (show mE (mtv 214) 122 = some (.ireturn, 1, 0, 0) from rfl) ?_
              exact ⟨(2 : Int32), (I 1 6) + (1 : Int32), _, _, _, rfl, rfl, t66, p3 c2 c13 c14 c57 bb61⟩
            · refine q_iconst (show mE (mtv 214) 81 = some (.iconst 2, 1, 0, 0) from rfl) kI_2 ?_
              refine q_goto (t := 86) (show mE (mtv 214) 82 = some (.goto 4, 3, 0, 0) from rfl) rfl ?_
              refine q_putI th (show mE (mtv 214) 86 = some (.putfield 138, 3, 9, 42) from rfl) (by decide) rfl (fun h67 t68 => ?_)
              refine q_aload_n (show mE (mtv 214) 89 = some (.aload_n 0, 1, 0, 0) from rfl) (hl54 0 _ rfl) ?_
              refine q_getIe t68 (show mE (mtv 214) 90 = some (.getfield 138, 3, 9, 42) from rfl) (by decide) rfl (upI_s) ?_
              refine q_iff (t := 98) (show mE (mtv 214) 93 = some (.ifCond .le 5, 3, 0, 0) from rfl) (by decide) rfl ?_
              refine q_iconst (show mE (mtv 214) 96 = some (.iconst 0, 1, 0, 0) from rfl) kI_0 ?_
              refine q_ireturn (show mE (mtv 214) 97 = some (.ireturn, 1, 0, 0) from rfl) ?_
              exact ⟨(2 : Int32), (0 : Int32), _, _, _, rfl, rfl, t68, (RK_t (2 : Int32) hK)⟩
          · exact absurd c13 c52
    · refine q_iload_n (show mE (mtv 52) 7 = some (.iload_n 1, 1, 0, 0) from rfl) (hl12 1 _ rfl) ?_
      refine q_aload_n (show mE (mtv 52) 8 = some (.aload_n 0, 1, 0, 0) from rfl) (hl12 0 _ rfl) ?_
      refine q_getL th (show mE (mtv 52) 9 = some (.getfield 33, 3, 4, 5) from rfl) (by decide) rfl ?_
      refine q_aload_n (show mE (mtv 52) 12 = some (.aload_n 0, 1, 0, 0) from rfl) (hl12 0 _ rfl) ?_
      refine q_getI th (show mE (mtv 52) 13 = some (.getfield 30, 3, 4, 6) from rfl) (by decide) rfl ?_
      refine q_iconst (show mE (mtv 52) 16 = some (.iconst 1, 1, 0, 0) from rfl) kI_1 ?_
      refine q_isub (show mE (mtv 52) 17 = some (.isub, 1, 0, 0) from rfl) ?_
      refine q_staticP (show mE (mtv 52) 18 = some (.invokestatic 37, 3, 44, 0) from rfl) (by decide) rfl rfl rfl (fun _ g => sp_44 g) ?_
      refine q_isub (show mE (mtv 52) 21 = some (.isub, 1, 0, 0) from rfl) ?_
      refine q_abs (show mE (mtv 52) 22 = some (.invokestatic 41, 3, 1001, 0) from rfl) ?_
      refine q_aload_n (show mE (mtv 52) 25 = some (.aload_n 0, 1, 0, 0) from rfl) (hl12 0 _ rfl) ?_
      refine q_getI th (show mE (mtv 52) 26 = some (.getfield 23, 3, 4, 3) from rfl) (by decide) rfl ?_
      refine q_ic_gt (t := 36) (show mE (mtv 52) 29 = some (.if_icmp .gt 7, 3, 0, 0) from rfl) rfl (fun c69 => ?_) (fun c69 => ?_)
      · refine q_iconst (show mE (mtv 52) 36 = some (.iconst 0, 1, 0, 0) from rfl) kI_0 ?_
        refine q_ireturn (show mE (mtv 52) 37 = some (.ireturn, 1, 0, 0) from rfl) ?_
        refine qK_v ?_
        refine q_iff (t := 38) (show mE (mtv 51) 25 = some (.ifCond .ne 13, 3, 0, 0) from rfl) (by decide) rfl ?_
        refine q_throw (show mE (mtv 51) 28 = some (.new 81, 3, 1000, 0) from rfl) (by decide) ?_
        refine qKh_x (hp := 12) (c := (13, sDr 3 (lv_args 0 [.ref (0), .int (a1), .ref (117)]), [], h)) rfl (by decide) (fun _ _ => rfl) ?_
        refine q_iconst (show mE (mtv 50) 13 = some (.iconst 1, 1, 0, 0) from rfl) kI_1 ?_
        refine q_ireturn (show mE (mtv 50) 14 = some (.ireturn, 1, 0, 0) from rfl) ?_
        intro r70 g71
        have g71 : qGo 214 [.ref (85), .int (a1)] h r70 := g71
        refine qGo_w (Q := fun r2 => opX (.inl (some (.int ((1 : Int32))))) r2.1 r2.2 RK) g71 (fun _ => ?_)
        have hl72 : qLs (lv_args 0 [.ref (85), .int (a1)]) [some (.ref (85)), some (.int (a1)), none] := qLs_ar 1
        refine q_iload_n (show mE (mtv 214) 0 = some (.iload_n 1, 1, 0, 0) from rfl) (hl72 1 _ rfl) ?_
        refine q_iconst (show mE (mtv 214) 1 = some (.iconst 0, 1, 0, 0) from rfl) kI_0 ?_
        refine q_aload_n (show mE (mtv 214) 2 = some (.aload_n 0, 1, 0, 0) from rfl) (hl72 0 _ rfl) ?_
        refine q_getI th (show mE (mtv 214) 3 = some (.getfield 108, 3, 9, 32) from rfl) (by decide) rfl ?_
        have r73 : I 85 32 = I 1 2 := hK.dp.symm
        rw [r73]; clear r73
        refine q_iconst (show mE (mtv 214) 6 = some (.iconst 1, 1, 0, 0) from rfl) kI_1 ?_
        refine q_isub (show mE (mtv 214) 7 = some (.isub, 1, 0, 0) from rfl) ?_
        refine q_staticP (show mE (mtv 214) 8 = some (.invokestatic 157, 3, 211, 0) from rfl) (by decide) rfl rfl rfl (fun _ g => sp_211 g) ?_
        refine q_ifb_eq (t := 59) (show mE (mtv 214) 11 = some (.ifCond .eq 48, 3, 0, 0) from rfl) rfl (fun c74 => ?_) (fun c74 => ?_)
        · exact absurd c2 c74
        · clear c74
          refine q_aload_n (show mE (mtv 214) 14 = some (.aload_n 0, 1, 0, 0) from rfl) (hl72 0 _ rfl) ?_
          refine q_getI th (show mE (mtv 214) 15 = some (.getfield 114, 3, 9, 34) from rfl) (by decide) rfl ?_
          have r75 : I 85 34 = I 1 6 := hK.sz.symm
          rw [r75]; clear r75
          refine q_if_eq (t := 55) (show mE (mtv 214) 18 = some (.ifCond .eq 37, 3, 0, 0) from rfl) rfl (fun c76 => ?_) (fun c76 => ?_)
          · exact absurd c76 c13
          · clear c76
            refine q_aload_n (show mE (mtv 214) 21 = some (.aload_n 0, 1, 0, 0) from rfl) (hl72 0 _ rfl) ?_
            refine q_getI th (show mE (mtv 214) 22 = some (.getfield 114, 3, 9, 34) from rfl) (by decide) rfl ?_
            have r77 : I 85 34 = I 1 6 := hK.sz.symm
            rw [r77]; clear r77
            refine q_aload_n (show mE (mtv 214) 25 = some (.aload_n 0, 1, 0, 0) from rfl) (hl72 0 _ rfl) ?_
            refine q_getI th (show mE (mtv 214) 26 = some (.getfield 104, 3, 9, 31) from rfl) (by decide) rfl ?_
            have r78 : I 85 31 = I 1 1 := hK.ch.symm
            rw [r78]; clear r78
            refine q_ic_eq (t := 55) (show mE (mtv 214) 29 = some (.if_icmp .eq 26, 3, 0, 0) from rfl) rfl (fun c79 => ?_) (fun c79 => ?_)
            · refine q_iconst (show mE (mtv 214) 55 = some (.iconst 1, 1, 0, 0) from rfl) kI_1 ?_
              refine q_goto (t := 60) (show mE (mtv 214) 56 = some (.goto 4, 3, 0, 0) from rfl) rfl ?_
              refine q_istore_n (show mE (mtv 214) 60 = some (.istore_n 2, 1, 0, 0) from rfl) (Nat.le_of_ble_eq_true rfl) hl72 (fun lv80 (hl81 : qLs lv80 [some (.ref (85)), some (.int (a1)), some (.int ((1 : Int32)))]) => ?_)
              refine q_aload_n (show mE (mtv 214) 61 = some (.aload_n 0, 1, 0, 0) from rfl) (hl81 0 _ rfl) ?_
              refine q_iload_n (show mE (mtv 214) 62 = some (.iload_n 2, 1, 0, 0) from rfl) (hl81 2 _ rfl) ?_
              refine q_ift (t := 70) (show mE (mtv 214) 63 = some (.ifCond .ne 7, 3, 0, 0) from rfl) (by decide) rfl ?_
              refine q_aload_n (show mE (mtv 214) 70 = some (.aload_n 0, 1, 0, 0) from rfl) (hl81 0 _ rfl) ?_
              refine q_getI th (show mE (mtv 214) 71 = some (.getfield 114, 3, 9, 34) from rfl) (by decide) rfl ?_
              have r82 : I 85 34 = I 1 6 := hK.sz.symm
              rw [r82]; clear r82
              refine q_aload_n (show mE (mtv 214) 74 = some (.aload_n 0, 1, 0, 0) from rfl) (hl81 0 _ rfl) ?_
              refine q_getI th (show mE (mtv 214) 75 = some (.getfield 104, 3, 9, 31) from rfl) (by decide) rfl ?_
              have r83 : I 85 31 = I 1 1 := hK.ch.symm
              rw [r83]; clear r83
              refine q_ic_ne (t := 85) (show mE (mtv 214) 78 = some (.if_icmp .ne 7, 3, 0, 0) from rfl) rfl (fun c84 => ?_) (fun c84 => ?_)
              · exact absurd c79 c84
              · clear c84
                refine q_iconst (show mE (mtv 214) 81 = some (.iconst 2, 1, 0, 0) from rfl) kI_2 ?_
                refine q_goto (t := 86) (show mE (mtv 214) 82 = some (.goto 4, 3, 0, 0) from rfl) rfl ?_
                refine q_putI th (show mE (mtv 214) 86 = some (.putfield 138, 3, 9, 42) from rfl) (by decide) rfl (fun h85 t86 => ?_)
                refine q_aload_n (show mE (mtv 214) 89 = some (.aload_n 0, 1, 0, 0) from rfl) (hl81 0 _ rfl) ?_
                refine q_getIe t86 (show mE (mtv 214) 90 = some (.getfield 138, 3, 9, 42) from rfl) (by decide) rfl (upI_s) ?_
                refine q_iff (t := 98) (show mE (mtv 214) 93 = some (.ifCond .le 5, 3, 0, 0) from rfl) (by decide) rfl ?_
                refine q_iconst (show mE (mtv 214) 96 = some (.iconst 0, 1, 0, 0) from rfl) kI_0 ?_
                refine q_ireturn (show mE (mtv 214) 97 = some (.ireturn, 1, 0, 0) from rfl) ?_
                exact ⟨(1 : Int32), (0 : Int32), _, _, _, rfl, rfl, t86, (RK_t (2 : Int32) hK)⟩
            · refine q_iload_n (show mE (mtv 214) 32 = some (.iload_n 1, 1, 0, 0) from rfl) (hl72 1 _ rfl) ?_
              refine q_aload_n (show mE (mtv 214) 33 = some (.aload_n 0, 1, 0, 0) from rfl) (hl72 0 _ rfl) ?_
              refine q_getR (m := 87) th (show mE (mtv 214) 34 = some (.getfield 13, 3, 9, 1) from rfl) (by decide) rfl rfl ?_
              refine q_aload_n (show mE (mtv 214) 37 = some (.aload_n 0, 1, 0, 0) from rfl) (hl72 0 _ rfl) ?_
              refine q_getI th (show mE (mtv 214) 38 = some (.getfield 114, 3, 9, 34) from rfl) (by decide) rfl ?_
              have r87 : I 85 34 = I 1 6 := hK.sz.symm
              rw [r87]; clear r87
              refine q_iconst (show mE (mtv 214) 41 = some (.iconst 1, 1, 0, 0) from rfl) kI_1 ?_
              refine q_isub (show mE (mtv 214) 42 = some (.isub, 1, 0, 0) from rfl) ?_
              refine q_iaload (n := 6) th (show mE (mtv 214) 43 = some (.iaload, 1, 0, 0) from rfl) (by decide) rfl (fun bb88 => ?_)
              refine q_isub (show mE (mtv 214) 44 = some (.isub, 1, 0, 0) from rfl) ?_
              refine q_staticP (show mE (mtv 214) 45 = some (.invokestatic 161, 3, 213, 0) from rfl) (by decide) rfl rfl rfl (fun _ g => sp_213 g) ?_
              refine q_aload_n (show mE (mtv 214) 48 = some (.aload_n 0, 1, 0, 0) from rfl) (hl72 0 _ rfl) ?_
              refine q_getI th (show mE (mtv 214) 49 = some (.getfield 111, 3, 9, 33) from rfl) (by decide) rfl ?_
              have r89 : I 85 33 = I 1 3 := hK.ap.symm
              rw [r89]; clear r89
              refine q_ic_gt (t := 59) (show mE (mtv 214) 52 = some (.if_icmp .gt 7, 3, 0, 0) from rfl) rfl (fun c90 => ?_) (fun c90 => ?_)
              · refine q_iconst (show mE (mtv 214) 59 = some (.iconst 0, 1, 0, 0) from rfl) kI_0 ?_
                refine q_istore_n (show mE (mtv 214) 60 = some (.istore_n 2, 1, 0, 0) from rfl) (Nat.le_of_ble_eq_true rfl) hl72 (fun lv91 (hl92 : qLs lv91 [some (.ref (85)), some (.int (a1)), some (.int ((0 : Int32)))]) => ?_)
                refine q_aload_n (show mE (mtv 214) 61 = some (.aload_n 0, 1, 0, 0) from rfl) (hl92 0 _ rfl) ?_
                refine q_iload_n (show mE (mtv 214) 62 = some (.iload_n 2, 1, 0, 0) from rfl) (hl92 2 _ rfl) ?_
                refine q_iff (t := 70) (show mE (mtv 214) 63 = some (.ifCond .ne 7, 3, 0, 0) from rfl) (by decide) rfl ?_
                refine q_iconst (show mE (mtv 214) 66 = some (.iconst 1, 1, 0, 0) from rfl) kI_1 ?_
                refine q_goto (t := 86) (show mE (mtv 214) 67 = some (.goto 19, 3, 0, 0) from rfl) rfl ?_
                refine q_putI th (show mE (mtv 214) 86 = some (.putfield 138, 3, 9, 42) from rfl) (by decide) rfl (fun h93 t94 => ?_)
                refine q_aload_n (show mE (mtv 214) 89 = some (.aload_n 0, 1, 0, 0) from rfl) (hl92 0 _ rfl) ?_
                refine q_getIe t94 (show mE (mtv 214) 90 = some (.getfield 138, 3, 9, 42) from rfl) (by decide) rfl (upI_s) ?_
                refine q_iff (t := 98) (show mE (mtv 214) 93 = some (.ifCond .le 5, 3, 0, 0) from rfl) (by decide) rfl ?_
                refine q_iconst (show mE (mtv 214) 96 = some (.iconst 0, 1, 0, 0) from rfl) kI_0 ?_
                refine q_ireturn (show mE (mtv 214) 97 = some (.ireturn, 1, 0, 0) from rfl) ?_
                exact ⟨(1 : Int32), (0 : Int32), _, _, _, rfl, rfl, t94, (RK_t (1 : Int32) hK)⟩
              · refine q_iconst (show mE (mtv 214) 55 = some (.iconst 1, 1, 0, 0) from rfl) kI_1 ?_
                refine q_goto (t := 60) (show mE (mtv 214) 56 = some (.goto 4, 3, 0, 0) from rfl) rfl ?_
                refine q_istore_n (show mE (mtv 214) 60 = some (.istore_n 2, 1, 0, 0) from rfl) (Nat.le_of_ble_eq_true rfl) hl72 (fun lv95 (hl96 : qLs lv95 [some (.ref (85)), some (.int (a1)), some (.int ((1 : Int32)))]) => ?_)
                refine q_aload_n (show mE (mtv 214) 61 = some (.aload_n 0, 1, 0, 0) from rfl) (hl96 0 _ rfl) ?_
                refine q_iload_n (show mE (mtv 214) 62 = some (.iload_n 2, 1, 0, 0) from rfl) (hl96 2 _ rfl) ?_
                refine q_ift (t := 70) (show mE (mtv 214) 63 = some (.ifCond .ne 7, 3, 0, 0) from rfl) (by decide) rfl ?_
                refine q_aload_n (show mE (mtv 214) 70 = some (.aload_n 0, 1, 0, 0) from rfl) (hl96 0 _ rfl) ?_
                refine q_getI th (show mE (mtv 214) 71 = some (.getfield 114, 3, 9, 34) from rfl) (by decide) rfl ?_
                have r97 : I 85 34 = I 1 6 := hK.sz.symm
                rw [r97]; clear r97
                refine q_aload_n (show mE (mtv 214) 74 = some (.aload_n 0, 1, 0, 0) from rfl) (hl96 0 _ rfl) ?_
                refine q_getI th (show mE (mtv 214) 75 = some (.getfield 104, 3, 9, 31) from rfl) (by decide) rfl ?_
                have r98 : I 85 31 = I 1 1 := hK.ch.symm
                rw [r98]; clear r98
                refine q_ic_ne (t := 85) (show mE (mtv 214) 78 = some (.if_icmp .ne 7, 3, 0, 0) from rfl) rfl (fun c99 => ?_) (fun c99 => ?_)
                · clear c99
                  refine q_iconst (show mE (mtv 214) 85 = some (.iconst 0, 1, 0, 0) from rfl) kI_0 ?_
                  refine q_putI th (show mE (mtv 214) 86 = some (.putfield 138, 3, 9, 42) from rfl) (by decide) rfl (fun h100 t101 => ?_)
                  refine q_aload_n (show mE (mtv 214) 89 = some (.aload_n 0, 1, 0, 0) from rfl) (hl96 0 _ rfl) ?_
                  refine q_getIe t101 (show mE (mtv 214) 90 = some (.getfield 138, 3, 9, 42) from rfl) (by decide) rfl (upI_s) ?_
                  refine q_ift (t := 98) (show mE (mtv 214) 93 = some (.ifCond .le 5, 3, 0, 0) from rfl) (by decide) rfl ?_
                  refine q_aload_n (show mE (mtv 214) 98 = some (.aload_n 0, 1, 0, 0) from rfl) (hl96 0 _ rfl) ?_
                  refine q_getR (m := 87) t101 (show mE (mtv 214) 99 = some (.getfield 13, 3, 9, 1) from rfl) (by decide) rfl rfl ?_
                  refine q_aload_n (show mE (mtv 214) 102 = some (.aload_n 0, 1, 0, 0) from rfl) (hl96 0 _ rfl) ?_
                  refine q_getIe t101 (show mE (mtv 214) 103 = some (.getfield 114, 3, 9, 34) from rfl) (by decide) rfl (upI_n (Or.inr (by decide))) ?_
                  have r102 : I 85 34 = I 1 6 := hK.sz.symm
                  rw [r102]; clear r102
                  refine q_iload_n (show mE (mtv 214) 106 = some (.iload_n 1, 1, 0, 0) from rfl) (hl96 1 _ rfl) ?_
                  refine q_iastore (n := 6) t101 (show mE (mtv 214) 107 = some (.iastore, 1, 0, 0) from rfl) (by decide) rfl (fun bb103 h104 t105 => ?_)
                  refine q_aload_n (show mE (mtv 214) 108 = some (.aload_n 0, 1, 0, 0) from rfl) (hl96 0 _ rfl) ?_
                  refine q_dupR (show mE (mtv 214) 109 = some (.dup, 1, 0, 0) from rfl) ?_
                  refine q_getIe t105 (show mE (mtv 214) 110 = some (.getfield 114, 3, 9, 34) from rfl) (by decide) rfl ((upI_n (Or.inl (by decide))).trans (upI_n (Or.inr (by decide)))) ?_
                  have r106 : I 85 34 = I 1 6 := hK.sz.symm
                  rw [r106]; clear r106
                  refine q_iconst (show mE (mtv 214) 113 = some (.iconst 1, 1, 0, 0) from rfl) kI_1 ?_
                  refine q_iadd (show mE (mtv 214) 114 = some (.iadd, 1, 0, 0) from rfl) ?_
                  refine q_putI t105 (show mE (mtv 214) 115 = some (.putfield 114, 3, 9, 34) from rfl) (by decide) rfl (fun h107 t108 => ?_)
                  refine q_aload_n (show mE (mtv 214) 118 = some (.aload_n 0, 1, 0, 0) from rfl) (hl96 0 _ rfl) ?_
                  refine q_getIe t108 (show mE (mtv 214) 119 = some (.getfield 114, 3, 9, 34) from rfl) (by decide) rfl (upI_s) ?_
                  refine q_ireturn (show mE (mtv 214) 122 = some (.ireturn, 1, 0, 0) from rfl) ?_
                  exact ⟨(1 : Int32), (I 1 6) + (1 : Int32), _, _, _, rfl, rfl, t108, p4 c2 c13 c69 c79 bb88 c90 bb103⟩
                · exact absurd c99 c79
      · refine q_iconst (show mE (mtv 52) 32 = some (.iconst 1, 1, 0, 0) from rfl) kI_1 ?_
        refine q_goto (t := 37) (show mE (mtv 52) 33 = some (.goto 4, 3, 0, 0) from rfl) rfl ?_
        refine q_ireturn (show mE (mtv 52) 37 = some (.ireturn, 1, 0, 0) from rfl) ?_
        refine qK_v ?_
        refine q_ift (t := 38) (show mE (mtv 51) 25 = some (.ifCond .ne 13, 3, 0, 0) from rfl) (by decide) rfl ?_
        refine q_aload_n (show mE (mtv 51) 38 = some (.aload_n 0, 1, 0, 0) from rfl) (hl1 0 _ rfl) ?_
        refine q_getR (m := 1) th (show mE (mtv 51) 39 = some (.getfield 10, 3, 8, 0) from rfl) (by decide) rfl rfl ?_
        refine q_getI th (show mE (mtv 51) 42 = some (.getfield 120, 3, 4, 6) from rfl) (by decide) rfl ?_
        refine q_aload_n (show mE (mtv 51) 45 = some (.aload_n 0, 1, 0, 0) from rfl) (hl1 0 _ rfl) ?_
        refine q_getR (m := 1) th (show mE (mtv 51) 46 = some (.getfield 10, 3, 8, 0) from rfl) (by decide) rfl rfl ?_
        refine q_getI th (show mE (mtv 51) 49 = some (.getfield 123, 3, 4, 1) from rfl) (by decide) rfl ?_
        refine q_ic_lt (t := 65) (show mE (mtv 51) 52 = some (.if_icmp .lt 13, 3, 0, 0) from rfl) rfl (fun c109 => ?_) (fun c109 => ?_)
        · refine q_aload_n (show mE (mtv 51) 65 = some (.aload_n 0, 1, 0, 0) from rfl) (hl1 0 _ rfl) ?_
          refine q_getR (m := 1) th (show mE (mtv 51) 66 = some (.getfield 10, 3, 8, 0) from rfl) (by decide) rfl rfl ?_
          refine q_iload_n (show mE (mtv 51) 69 = some (.iload_n 1, 1, 0, 0) from rfl) (hl1 1 _ rfl) ?_
          refine q_virtualI (show mE (mtv 51) 70 = some (.invokevirtual 131, 3, 53, 4) from rfl) (by decide) rfl rfl rfl (fun _ => ?_)
          have hl110 : qLs (lv_args 0 [.ref (1), .int (a1)]) [some (.ref (1)), some (.int (a1))] := qLs_ar 0
          refine q_aload_n (show mE (mtv 53) 0 = some (.aload_n 0, 1, 0, 0) from rfl) (hl110 0 _ rfl) ?_
          refine q_dupR (show mE (mtv 53) 1 = some (.dup, 1, 0, 0) from rfl) ?_
          refine q_getL th (show mE (mtv 53) 2 = some (.getfield 33, 3, 4, 5) from rfl) (by decide) rfl ?_
          refine q_aload_n (show mE (mtv 53) 5 = some (.aload_n 0, 1, 0, 0) from rfl) (hl110 0 _ rfl) ?_
          refine q_getI th (show mE (mtv 53) 6 = some (.getfield 30, 3, 4, 6) from rfl) (by decide) rfl ?_
          refine q_iload_n (show mE (mtv 53) 9 = some (.iload_n 1, 1, 0, 0) from rfl) (hl110 1 _ rfl) ?_
          refine q_staticP (show mE (mtv 53) 10 = some (.invokestatic 47, 3, 35, 0) from rfl) (by decide) rfl rfl rfl (fun _ g => sp_35 g) ?_
          refine q_lor (show mE (mtv 53) 13 = some (.lor, 1, 0, 0) from rfl) ?_
          refine q_putL th (show mE (mtv 53) 14 = some (.putfield 33, 3, 4, 5) from rfl) (by decide) rfl (fun h111 t112 => ?_)
          refine q_aload_n (show mE (mtv 53) 17 = some (.aload_n 0, 1, 0, 0) from rfl) (hl110 0 _ rfl) ?_
          refine q_dupR (show mE (mtv 53) 18 = some (.dup, 1, 0, 0) from rfl) ?_
          refine q_getI t112 (show mE (mtv 53) 19 = some (.getfield 30, 3, 4, 6) from rfl) (by decide) rfl ?_
          refine q_iconst (show mE (mtv 53) 22 = some (.iconst 1, 1, 0, 0) from rfl) kI_1 ?_
          refine q_iadd (show mE (mtv 53) 23 = some (.iadd, 1, 0, 0) from rfl) ?_
          refine q_putI t112 (show mE (mtv 53) 24 = some (.putfield 30, 3, 4, 6) from rfl) (by decide) rfl (fun h113 t114 => ?_)
          refine q_aload_n (show mE (mtv 53) 27 = some (.aload_n 0, 1, 0, 0) from rfl) (hl110 0 _ rfl) ?_
          refine q_getIe t114 (show mE (mtv 53) 28 = some (.getfield 30, 3, 4, 6) from rfl) (by decide) rfl (upI_s) ?_
          refine q_ireturn (show mE (mtv 53) 31 = some (.ireturn, 1, 0, 0) from rfl) ?_
          refine qK_v ?_
          refine q_ireturn (show mE (mtv 51) 73 = some (.ireturn, 1, 0, 0) from rfl) ?_
          refine qKh_v ?_
          refine q_i2l (show mE (mtv 50) 7 = some (.i2l, 1, 0, 0) from rfl) ?_
          refine q_lastore (n := 1) t114 (show mE (mtv 50) 8 = some (.lastore, 1, 0, 0) from rfl) (by decide) rfl (fun bb115 h116 t117 => ?_)
          refine q_goto (t := 18) (show mE (mtv 50) 9 = some (.goto 9, 3, 0, 0) from rfl) rfl ?_
          refine q_iconst (show mE (mtv 50) 18 = some (.iconst 0, 1, 0, 0) from rfl) kI_0 ?_
          refine q_ireturn (show mE (mtv 50) 19 = some (.ireturn, 1, 0, 0) from rfl) ?_
          intro r118 g119
          have g119 : qGo 214 [.ref (85), .int (a1)] h116 r118 := g119
          refine qGo_w (Q := fun r2 => opX (.inl (some (.int ((0 : Int32))))) r2.1 r2.2 RK) g119 (fun _ => ?_)
          have hl120 : qLs (lv_args 0 [.ref (85), .int (a1)]) [some (.ref (85)), some (.int (a1)), none] := qLs_ar 1
          refine q_iload_n (show mE (mtv 214) 0 = some (.iload_n 1, 1, 0, 0) from rfl) (hl120 1 _ rfl) ?_
          refine q_iconst (show mE (mtv 214) 1 = some (.iconst 0, 1, 0, 0) from rfl) kI_0 ?_
          refine q_aload_n (show mE (mtv 214) 2 = some (.aload_n 0, 1, 0, 0) from rfl) (hl120 0 _ rfl) ?_
          refine q_getIe t117 (show mE (mtv 214) 3 = some (.getfield 108, 3, 9, 32) from rfl) (by decide) rfl (upI_n (Or.inr (by decide))) ?_
          have r121 : I 85 32 = I 1 2 := hK.dp.symm
          rw [r121]; clear r121
          refine q_iconst (show mE (mtv 214) 6 = some (.iconst 1, 1, 0, 0) from rfl) kI_1 ?_
          refine q_isub (show mE (mtv 214) 7 = some (.isub, 1, 0, 0) from rfl) ?_
          refine q_staticP (show mE (mtv 214) 8 = some (.invokestatic 157, 3, 211, 0) from rfl) (by decide) rfl rfl rfl (fun _ g => sp_211 g) ?_
          refine q_ifb_eq (t := 59) (show mE (mtv 214) 11 = some (.ifCond .eq 48, 3, 0, 0) from rfl) rfl (fun c122 => ?_) (fun c122 => ?_)
          · exact absurd c2 c122
          · clear c122
            refine q_aload_n (show mE (mtv 214) 14 = some (.aload_n 0, 1, 0, 0) from rfl) (hl120 0 _ rfl) ?_
            refine q_getIe t117 (show mE (mtv 214) 15 = some (.getfield 114, 3, 9, 34) from rfl) (by decide) rfl (upI_n (Or.inr (by decide))) ?_
            have r123 : I 85 34 = I 1 6 := hK.sz.symm
            rw [r123]; clear r123
            refine q_if_eq (t := 55) (show mE (mtv 214) 18 = some (.ifCond .eq 37, 3, 0, 0) from rfl) rfl (fun c124 => ?_) (fun c124 => ?_)
            · exact absurd c124 c13
            · clear c124
              refine q_aload_n (show mE (mtv 214) 21 = some (.aload_n 0, 1, 0, 0) from rfl) (hl120 0 _ rfl) ?_
              refine q_getIe t117 (show mE (mtv 214) 22 = some (.getfield 114, 3, 9, 34) from rfl) (by decide) rfl (upI_n (Or.inr (by decide))) ?_
              have r125 : I 85 34 = I 1 6 := hK.sz.symm
              rw [r125]; clear r125
              refine q_aload_n (show mE (mtv 214) 25 = some (.aload_n 0, 1, 0, 0) from rfl) (hl120 0 _ rfl) ?_
              refine q_getIe t117 (show mE (mtv 214) 26 = some (.getfield 104, 3, 9, 31) from rfl) (by decide) rfl (upI_n (Or.inr (by decide))) ?_
              have r126 : I 85 31 = I 1 1 := hK.ch.symm
              rw [r126]; clear r126
              refine q_ic_eq (t := 55) (show mE (mtv 214) 29 = some (.if_icmp .eq 26, 3, 0, 0) from rfl) rfl (fun c127 => ?_) (fun c127 => ?_)
              · refine q_iconst (show mE (mtv 214) 55 = some (.iconst 1, 1, 0, 0) from rfl) kI_1 ?_
                refine q_goto (t := 60) (show mE (mtv 214) 56 = some (.goto 4, 3, 0, 0) from rfl) rfl ?_
                refine q_istore_n (show mE (mtv 214) 60 = some (.istore_n 2, 1, 0, 0) from rfl) (Nat.le_of_ble_eq_true rfl) hl120 (fun lv128 (hl129 : qLs lv128 [some (.ref (85)), some (.int (a1)), some (.int ((1 : Int32)))]) => ?_)
                refine q_aload_n (show mE (mtv 214) 61 = some (.aload_n 0, 1, 0, 0) from rfl) (hl129 0 _ rfl) ?_
                refine q_iload_n (show mE (mtv 214) 62 = some (.iload_n 2, 1, 0, 0) from rfl) (hl129 2 _ rfl) ?_
                refine q_ift (t := 70) (show mE (mtv 214) 63 = some (.ifCond .ne 7, 3, 0, 0) from rfl) (by decide) rfl ?_
                refine q_aload_n (show mE (mtv 214) 70 = some (.aload_n 0, 1, 0, 0) from rfl) (hl129 0 _ rfl) ?_
                refine q_getIe t117 (show mE (mtv 214) 71 = some (.getfield 114, 3, 9, 34) from rfl) (by decide) rfl (upI_n (Or.inr (by decide))) ?_
                have r130 : I 85 34 = I 1 6 := hK.sz.symm
                rw [r130]; clear r130
                refine q_aload_n (show mE (mtv 214) 74 = some (.aload_n 0, 1, 0, 0) from rfl) (hl129 0 _ rfl) ?_
                refine q_getIe t117 (show mE (mtv 214) 75 = some (.getfield 104, 3, 9, 31) from rfl) (by decide) rfl (upI_n (Or.inr (by decide))) ?_
                have r131 : I 85 31 = I 1 1 := hK.ch.symm
                rw [r131]; clear r131
                refine q_ic_ne (t := 85) (show mE (mtv 214) 78 = some (.if_icmp .ne 7, 3, 0, 0) from rfl) rfl (fun c132 => ?_) (fun c132 => ?_)
                · exact absurd c127 c132
                · clear c132
                  refine q_iconst (show mE (mtv 214) 81 = some (.iconst 2, 1, 0, 0) from rfl) kI_2 ?_
                  refine q_goto (t := 86) (show mE (mtv 214) 82 = some (.goto 4, 3, 0, 0) from rfl) rfl ?_
                  refine q_putI t117 (show mE (mtv 214) 86 = some (.putfield 138, 3, 9, 42) from rfl) (by decide) rfl (fun h133 t134 => ?_)
                  refine q_aload_n (show mE (mtv 214) 89 = some (.aload_n 0, 1, 0, 0) from rfl) (hl129 0 _ rfl) ?_
                  refine q_getIe t134 (show mE (mtv 214) 90 = some (.getfield 138, 3, 9, 42) from rfl) (by decide) rfl (upI_s) ?_
                  refine q_iff (t := 98) (show mE (mtv 214) 93 = some (.ifCond .le 5, 3, 0, 0) from rfl) (by decide) rfl ?_
                  refine q_iconst (show mE (mtv 214) 96 = some (.iconst 0, 1, 0, 0) from rfl) kI_0 ?_
                  refine q_ireturn (show mE (mtv 214) 97 = some (.ireturn, 1, 0, 0) from rfl) ?_
                  exact ⟨(0 : Int32), (0 : Int32), _, _, _, rfl, rfl, t134, p5 c2 c13 c69 c109 bb115 c127⟩
              · refine q_iload_n (show mE (mtv 214) 32 = some (.iload_n 1, 1, 0, 0) from rfl) (hl120 1 _ rfl) ?_
                refine q_aload_n (show mE (mtv 214) 33 = some (.aload_n 0, 1, 0, 0) from rfl) (hl120 0 _ rfl) ?_
                refine q_getR (m := 87) t117 (show mE (mtv 214) 34 = some (.getfield 13, 3, 9, 1) from rfl) (by decide) rfl rfl ?_
                refine q_aload_n (show mE (mtv 214) 37 = some (.aload_n 0, 1, 0, 0) from rfl) (hl120 0 _ rfl) ?_
                refine q_getIe t117 (show mE (mtv 214) 38 = some (.getfield 114, 3, 9, 34) from rfl) (by decide) rfl (upI_n (Or.inr (by decide))) ?_
                have r135 : I 85 34 = I 1 6 := hK.sz.symm
                rw [r135]; clear r135
                refine q_iconst (show mE (mtv 214) 41 = some (.iconst 1, 1, 0, 0) from rfl) kI_1 ?_
                refine q_isub (show mE (mtv 214) 42 = some (.isub, 1, 0, 0) from rfl) ?_
                refine q_iaload (n := 6) t117 (show mE (mtv 214) 43 = some (.iaload, 1, 0, 0) from rfl) (by decide) rfl (fun bb136 => ?_)
                have g137 : (upI I 1 6 ((I 1 6) + (1 : Int32))) 87 ((I 1 6) - (1 : Int32)).toNatClampNeg = I 87 (((I 1 6) - (1 : Int32)).toNatClampNeg) := upI_n (Or.inl (by decide))
                rw [g137]; clear g137
                refine q_isub (show mE (mtv 214) 44 = some (.isub, 1, 0, 0) from rfl) ?_
                refine q_staticP (show mE (mtv 214) 45 = some (.invokestatic 161, 3, 213, 0) from rfl) (by decide) rfl rfl rfl (fun _ g => sp_213 g) ?_
                refine q_aload_n (show mE (mtv 214) 48 = some (.aload_n 0, 1, 0, 0) from rfl) (hl120 0 _ rfl) ?_
                refine q_getIe t117 (show mE (mtv 214) 49 = some (.getfield 111, 3, 9, 33) from rfl) (by decide) rfl (upI_n (Or.inr (by decide))) ?_
                have r138 : I 85 33 = I 1 3 := hK.ap.symm
                rw [r138]; clear r138
                refine q_ic_gt (t := 59) (show mE (mtv 214) 52 = some (.if_icmp .gt 7, 3, 0, 0) from rfl) rfl (fun c139 => ?_) (fun c139 => ?_)
                · refine q_iconst (show mE (mtv 214) 59 = some (.iconst 0, 1, 0, 0) from rfl) kI_0 ?_
                  refine q_istore_n (show mE (mtv 214) 60 = some (.istore_n 2, 1, 0, 0) from rfl) (Nat.le_of_ble_eq_true rfl) hl120 (fun lv140 (hl141 : qLs lv140 [some (.ref (85)), some (.int (a1)), some (.int ((0 : Int32)))]) => ?_)
                  refine q_aload_n (show mE (mtv 214) 61 = some (.aload_n 0, 1, 0, 0) from rfl) (hl141 0 _ rfl) ?_
                  refine q_iload_n (show mE (mtv 214) 62 = some (.iload_n 2, 1, 0, 0) from rfl) (hl141 2 _ rfl) ?_
                  refine q_iff (t := 70) (show mE (mtv 214) 63 = some (.ifCond .ne 7, 3, 0, 0) from rfl) (by decide) rfl ?_
                  refine q_iconst (show mE (mtv 214) 66 = some (.iconst 1, 1, 0, 0) from rfl) kI_1 ?_
                  refine q_goto (t := 86) (show mE (mtv 214) 67 = some (.goto 19, 3, 0, 0) from rfl) rfl ?_
                  refine q_putI t117 (show mE (mtv 214) 86 = some (.putfield 138, 3, 9, 42) from rfl) (by decide) rfl (fun h142 t143 => ?_)
                  refine q_aload_n (show mE (mtv 214) 89 = some (.aload_n 0, 1, 0, 0) from rfl) (hl141 0 _ rfl) ?_
                  refine q_getIe t143 (show mE (mtv 214) 90 = some (.getfield 138, 3, 9, 42) from rfl) (by decide) rfl (upI_s) ?_
                  refine q_iff (t := 98) (show mE (mtv 214) 93 = some (.ifCond .le 5, 3, 0, 0) from rfl) (by decide) rfl ?_
                  refine q_iconst (show mE (mtv 214) 96 = some (.iconst 0, 1, 0, 0) from rfl) kI_0 ?_
                  refine q_ireturn (show mE (mtv 214) 97 = some (.ireturn, 1, 0, 0) from rfl) ?_
                  exact ⟨(0 : Int32), (0 : Int32), _, _, _, rfl, rfl, t143, p6 c2 c13 c69 c109 bb115 c127 bb136 c139⟩
                · refine q_iconst (show mE (mtv 214) 55 = some (.iconst 1, 1, 0, 0) from rfl) kI_1 ?_
                  refine q_goto (t := 60) (show mE (mtv 214) 56 = some (.goto 4, 3, 0, 0) from rfl) rfl ?_
                  refine q_istore_n (show mE (mtv 214) 60 = some (.istore_n 2, 1, 0, 0) from rfl) (Nat.le_of_ble_eq_true rfl) hl120 (fun lv144 (hl145 : qLs lv144 [some (.ref (85)), some (.int (a1)), some (.int ((1 : Int32)))]) => ?_)
                  refine q_aload_n (show mE (mtv 214) 61 = some (.aload_n 0, 1, 0, 0) from rfl) (hl145 0 _ rfl) ?_
                  refine q_iload_n (show mE (mtv 214) 62 = some (.iload_n 2, 1, 0, 0) from rfl) (hl145 2 _ rfl) ?_
                  refine q_ift (t := 70) (show mE (mtv 214) 63 = some (.ifCond .ne 7, 3, 0, 0) from rfl) (by decide) rfl ?_
                  refine q_aload_n (show mE (mtv 214) 70 = some (.aload_n 0, 1, 0, 0) from rfl) (hl145 0 _ rfl) ?_
                  refine q_getIe t117 (show mE (mtv 214) 71 = some (.getfield 114, 3, 9, 34) from rfl) (by decide) rfl (upI_n (Or.inr (by decide))) ?_
                  have r146 : I 85 34 = I 1 6 := hK.sz.symm
                  rw [r146]; clear r146
                  refine q_aload_n (show mE (mtv 214) 74 = some (.aload_n 0, 1, 0, 0) from rfl) (hl145 0 _ rfl) ?_
                  refine q_getIe t117 (show mE (mtv 214) 75 = some (.getfield 104, 3, 9, 31) from rfl) (by decide) rfl (upI_n (Or.inr (by decide))) ?_
                  have r147 : I 85 31 = I 1 1 := hK.ch.symm
                  rw [r147]; clear r147
                  refine q_ic_ne (t := 85) (show mE (mtv 214) 78 = some (.if_icmp .ne 7, 3, 0, 0) from rfl) rfl (fun c148 => ?_) (fun c148 => ?_)
                  · clear c148
                    refine q_iconst (show mE (mtv 214) 85 = some (.iconst 0, 1, 0, 0) from rfl) kI_0 ?_
                    refine q_putI t117 (show mE (mtv 214) 86 = some (.putfield 138, 3, 9, 42) from rfl) (by decide) rfl (fun h149 t150 => ?_)
                    refine q_aload_n (show mE (mtv 214) 89 = some (.aload_n 0, 1, 0, 0) from rfl) (hl145 0 _ rfl) ?_
                    refine q_getIe t150 (show mE (mtv 214) 90 = some (.getfield 138, 3, 9, 42) from rfl) (by decide) rfl (upI_s) ?_
                    refine q_ift (t := 98) (show mE (mtv 214) 93 = some (.ifCond .le 5, 3, 0, 0) from rfl) (by decide) rfl ?_
                    refine q_aload_n (show mE (mtv 214) 98 = some (.aload_n 0, 1, 0, 0) from rfl) (hl145 0 _ rfl) ?_
                    refine q_getR (m := 87) t150 (show mE (mtv 214) 99 = some (.getfield 13, 3, 9, 1) from rfl) (by decide) rfl rfl ?_
                    refine q_aload_n (show mE (mtv 214) 102 = some (.aload_n 0, 1, 0, 0) from rfl) (hl145 0 _ rfl) ?_
                    refine q_getIe t150 (show mE (mtv 214) 103 = some (.getfield 114, 3, 9, 34) from rfl) (by decide) rfl ((upI_n (Or.inr (by decide))).trans (upI_n (Or.inr (by decide)))) ?_
                    have r151 : I 85 34 = I 1 6 := hK.sz.symm
                    rw [r151]; clear r151
                    refine q_iload_n (show mE (mtv 214) 106 = some (.iload_n 1, 1, 0, 0) from rfl) (hl145 1 _ rfl) ?_
                    refine q_iastore (n := 6) t150 (show mE (mtv 214) 107 = some (.iastore, 1, 0, 0) from rfl) (by decide) rfl (fun bb152 h153 t154 => ?_)
                    refine q_aload_n (show mE (mtv 214) 108 = some (.aload_n 0, 1, 0, 0) from rfl) (hl145 0 _ rfl) ?_
                    refine q_dupR (show mE (mtv 214) 109 = some (.dup, 1, 0, 0) from rfl) ?_
                    refine q_getIe t154 (show mE (mtv 214) 110 = some (.getfield 114, 3, 9, 34) from rfl) (by decide) rfl ((upI_n (Or.inl (by decide))).trans ((upI_n (Or.inr (by decide))).trans (upI_n (Or.inr (by decide))))) ?_
                    have r155 : I 85 34 = I 1 6 := hK.sz.symm
                    rw [r155]; clear r155
                    refine q_iconst (show mE (mtv 214) 113 = some (.iconst 1, 1, 0, 0) from rfl) kI_1 ?_
                    refine q_iadd (show mE (mtv 214) 114 = some (.iadd, 1, 0, 0) from rfl) ?_
                    refine q_putI t154 (show mE (mtv 214) 115 = some (.putfield 114, 3, 9, 34) from rfl) (by decide) rfl (fun h156 t157 => ?_)
                    refine q_aload_n (show mE (mtv 214) 118 = some (.aload_n 0, 1, 0, 0) from rfl) (hl145 0 _ rfl) ?_
                    refine q_getIe t157 (show mE (mtv 214) 119 = some (.getfield 114, 3, 9, 34) from rfl) (by decide) rfl (upI_s) ?_
                    refine q_ireturn (show mE (mtv 214) 122 = some (.ireturn, 1, 0, 0) from rfl) ?_
                    exact ⟨(0 : Int32), (I 1 6) + (1 : Int32), _, _, _, rfl, rfl, t157, p7 c2 c13 c69 c109 bb115 c127 bb136 c139 bb152⟩
                  · exact absurd c148 c127
        · refine q_throw (show mE (mtv 51) 55 = some (.new 126, 3, 1001, 0) from rfl) (by decide) ?_
          refine qKh_x (hp := 15) (c := (16, sDr 3 (lv_args 0 [.ref (0), .int (a1), .ref (117)]), [], h)) rfl (by decide) (fun _ _ => rfl) ?_
          refine q_iconst (show mE (mtv 50) 16 = some (.iconst 2, 1, 0, 0) from rfl) kI_2 ?_
          refine q_ireturn (show mE (mtv 50) 17 = some (.ireturn, 1, 0, 0) from rfl) ?_
          intro r158 g159
          have g159 : qGo 214 [.ref (85), .int (a1)] h r158 := g159
          refine qGo_w (Q := fun r2 => opX (.inl (some (.int ((2 : Int32))))) r2.1 r2.2 RK) g159 (fun _ => ?_)
          have hl160 : qLs (lv_args 0 [.ref (85), .int (a1)]) [some (.ref (85)), some (.int (a1)), none] := qLs_ar 1
          refine q_iload_n (show mE (mtv 214) 0 = some (.iload_n 1, 1, 0, 0) from rfl) (hl160 1 _ rfl) ?_
          refine q_iconst (show mE (mtv 214) 1 = some (.iconst 0, 1, 0, 0) from rfl) kI_0 ?_
          refine q_aload_n (show mE (mtv 214) 2 = some (.aload_n 0, 1, 0, 0) from rfl) (hl160 0 _ rfl) ?_
          refine q_getI th (show mE (mtv 214) 3 = some (.getfield 108, 3, 9, 32) from rfl) (by decide) rfl ?_
          have r161 : I 85 32 = I 1 2 := hK.dp.symm
          rw [r161]; clear r161
          refine q_iconst (show mE (mtv 214) 6 = some (.iconst 1, 1, 0, 0) from rfl) kI_1 ?_
          refine q_isub (show mE (mtv 214) 7 = some (.isub, 1, 0, 0) from rfl) ?_
          refine q_staticP (show mE (mtv 214) 8 = some (.invokestatic 157, 3, 211, 0) from rfl) (by decide) rfl rfl rfl (fun _ g => sp_211 g) ?_
          refine q_ifb_eq (t := 59) (show mE (mtv 214) 11 = some (.ifCond .eq 48, 3, 0, 0) from rfl) rfl (fun c162 => ?_) (fun c162 => ?_)
          · exact absurd c2 c162
          · clear c162
            refine q_aload_n (show mE (mtv 214) 14 = some (.aload_n 0, 1, 0, 0) from rfl) (hl160 0 _ rfl) ?_
            refine q_getI th (show mE (mtv 214) 15 = some (.getfield 114, 3, 9, 34) from rfl) (by decide) rfl ?_
            have r163 : I 85 34 = I 1 6 := hK.sz.symm
            rw [r163]; clear r163
            refine q_if_eq (t := 55) (show mE (mtv 214) 18 = some (.ifCond .eq 37, 3, 0, 0) from rfl) rfl (fun c164 => ?_) (fun c164 => ?_)
            · exact absurd c164 c13
            · clear c164
              refine q_aload_n (show mE (mtv 214) 21 = some (.aload_n 0, 1, 0, 0) from rfl) (hl160 0 _ rfl) ?_
              refine q_getI th (show mE (mtv 214) 22 = some (.getfield 114, 3, 9, 34) from rfl) (by decide) rfl ?_
              have r165 : I 85 34 = I 1 6 := hK.sz.symm
              rw [r165]; clear r165
              refine q_aload_n (show mE (mtv 214) 25 = some (.aload_n 0, 1, 0, 0) from rfl) (hl160 0 _ rfl) ?_
              refine q_getI th (show mE (mtv 214) 26 = some (.getfield 104, 3, 9, 31) from rfl) (by decide) rfl ?_
              have r166 : I 85 31 = I 1 1 := hK.ch.symm
              rw [r166]; clear r166
              refine q_ic_eq (t := 55) (show mE (mtv 214) 29 = some (.if_icmp .eq 26, 3, 0, 0) from rfl) rfl (fun c167 => ?_) (fun c167 => ?_)
              · refine q_iconst (show mE (mtv 214) 55 = some (.iconst 1, 1, 0, 0) from rfl) kI_1 ?_
                refine q_goto (t := 60) (show mE (mtv 214) 56 = some (.goto 4, 3, 0, 0) from rfl) rfl ?_
                refine q_istore_n (show mE (mtv 214) 60 = some (.istore_n 2, 1, 0, 0) from rfl) (Nat.le_of_ble_eq_true rfl) hl160 (fun lv168 (hl169 : qLs lv168 [some (.ref (85)), some (.int (a1)), some (.int ((1 : Int32)))]) => ?_)
                refine q_aload_n (show mE (mtv 214) 61 = some (.aload_n 0, 1, 0, 0) from rfl) (hl169 0 _ rfl) ?_
                refine q_iload_n (show mE (mtv 214) 62 = some (.iload_n 2, 1, 0, 0) from rfl) (hl169 2 _ rfl) ?_
                refine q_ift (t := 70) (show mE (mtv 214) 63 = some (.ifCond .ne 7, 3, 0, 0) from rfl) (by decide) rfl ?_
                refine q_aload_n (show mE (mtv 214) 70 = some (.aload_n 0, 1, 0, 0) from rfl) (hl169 0 _ rfl) ?_
                refine q_getI th (show mE (mtv 214) 71 = some (.getfield 114, 3, 9, 34) from rfl) (by decide) rfl ?_
                have r170 : I 85 34 = I 1 6 := hK.sz.symm
                rw [r170]; clear r170
                refine q_aload_n (show mE (mtv 214) 74 = some (.aload_n 0, 1, 0, 0) from rfl) (hl169 0 _ rfl) ?_
                refine q_getI th (show mE (mtv 214) 75 = some (.getfield 104, 3, 9, 31) from rfl) (by decide) rfl ?_
                have r171 : I 85 31 = I 1 1 := hK.ch.symm
                rw [r171]; clear r171
                refine q_ic_ne (t := 85) (show mE (mtv 214) 78 = some (.if_icmp .ne 7, 3, 0, 0) from rfl) rfl (fun c172 => ?_) (fun c172 => ?_)
                · exact absurd c167 c172
                · clear c172
                  refine q_iconst (show mE (mtv 214) 81 = some (.iconst 2, 1, 0, 0) from rfl) kI_2 ?_
                  refine q_goto (t := 86) (show mE (mtv 214) 82 = some (.goto 4, 3, 0, 0) from rfl) rfl ?_
                  refine q_putI th (show mE (mtv 214) 86 = some (.putfield 138, 3, 9, 42) from rfl) (by decide) rfl (fun h173 t174 => ?_)
                  refine q_aload_n (show mE (mtv 214) 89 = some (.aload_n 0, 1, 0, 0) from rfl) (hl169 0 _ rfl) ?_
                  refine q_getIe t174 (show mE (mtv 214) 90 = some (.getfield 138, 3, 9, 42) from rfl) (by decide) rfl (upI_s) ?_
                  refine q_iff (t := 98) (show mE (mtv 214) 93 = some (.ifCond .le 5, 3, 0, 0) from rfl) (by decide) rfl ?_
                  refine q_iconst (show mE (mtv 214) 96 = some (.iconst 0, 1, 0, 0) from rfl) kI_0 ?_
                  refine q_ireturn (show mE (mtv 214) 97 = some (.ireturn, 1, 0, 0) from rfl) ?_
                  exact ⟨(2 : Int32), (0 : Int32), _, _, _, rfl, rfl, t174, (RK_t (2 : Int32) hK)⟩
              · refine q_iload_n (show mE (mtv 214) 32 = some (.iload_n 1, 1, 0, 0) from rfl) (hl160 1 _ rfl) ?_
                refine q_aload_n (show mE (mtv 214) 33 = some (.aload_n 0, 1, 0, 0) from rfl) (hl160 0 _ rfl) ?_
                refine q_getR (m := 87) th (show mE (mtv 214) 34 = some (.getfield 13, 3, 9, 1) from rfl) (by decide) rfl rfl ?_
                refine q_aload_n (show mE (mtv 214) 37 = some (.aload_n 0, 1, 0, 0) from rfl) (hl160 0 _ rfl) ?_
                refine q_getI th (show mE (mtv 214) 38 = some (.getfield 114, 3, 9, 34) from rfl) (by decide) rfl ?_
                have r175 : I 85 34 = I 1 6 := hK.sz.symm
                rw [r175]; clear r175
                refine q_iconst (show mE (mtv 214) 41 = some (.iconst 1, 1, 0, 0) from rfl) kI_1 ?_
                refine q_isub (show mE (mtv 214) 42 = some (.isub, 1, 0, 0) from rfl) ?_
                refine q_iaload (n := 6) th (show mE (mtv 214) 43 = some (.iaload, 1, 0, 0) from rfl) (by decide) rfl (fun bb176 => ?_)
                refine q_isub (show mE (mtv 214) 44 = some (.isub, 1, 0, 0) from rfl) ?_
                refine q_staticP (show mE (mtv 214) 45 = some (.invokestatic 161, 3, 213, 0) from rfl) (by decide) rfl rfl rfl (fun _ g => sp_213 g) ?_
                refine q_aload_n (show mE (mtv 214) 48 = some (.aload_n 0, 1, 0, 0) from rfl) (hl160 0 _ rfl) ?_
                refine q_getI th (show mE (mtv 214) 49 = some (.getfield 111, 3, 9, 33) from rfl) (by decide) rfl ?_
                have r177 : I 85 33 = I 1 3 := hK.ap.symm
                rw [r177]; clear r177
                refine q_ic_gt (t := 59) (show mE (mtv 214) 52 = some (.if_icmp .gt 7, 3, 0, 0) from rfl) rfl (fun c178 => ?_) (fun c178 => ?_)
                · refine q_iconst (show mE (mtv 214) 59 = some (.iconst 0, 1, 0, 0) from rfl) kI_0 ?_
                  refine q_istore_n (show mE (mtv 214) 60 = some (.istore_n 2, 1, 0, 0) from rfl) (Nat.le_of_ble_eq_true rfl) hl160 (fun lv179 (hl180 : qLs lv179 [some (.ref (85)), some (.int (a1)), some (.int ((0 : Int32)))]) => ?_)
                  refine q_aload_n (show mE (mtv 214) 61 = some (.aload_n 0, 1, 0, 0) from rfl) (hl180 0 _ rfl) ?_
                  refine q_iload_n (show mE (mtv 214) 62 = some (.iload_n 2, 1, 0, 0) from rfl) (hl180 2 _ rfl) ?_
                  refine q_iff (t := 70) (show mE (mtv 214) 63 = some (.ifCond .ne 7, 3, 0, 0) from rfl) (by decide) rfl ?_
                  refine q_iconst (show mE (mtv 214) 66 = some (.iconst 1, 1, 0, 0) from rfl) kI_1 ?_
                  refine q_goto (t := 86) (show mE (mtv 214) 67 = some (.goto 19, 3, 0, 0) from rfl) rfl ?_
                  refine q_putI th (show mE (mtv 214) 86 = some (.putfield 138, 3, 9, 42) from rfl) (by decide) rfl (fun h181 t182 => ?_)
                  refine q_aload_n (show mE (mtv 214) 89 = some (.aload_n 0, 1, 0, 0) from rfl) (hl180 0 _ rfl) ?_
                  refine q_getIe t182 (show mE (mtv 214) 90 = some (.getfield 138, 3, 9, 42) from rfl) (by decide) rfl (upI_s) ?_
                  refine q_iff (t := 98) (show mE (mtv 214) 93 = some (.ifCond .le 5, 3, 0, 0) from rfl) (by decide) rfl ?_
                  refine q_iconst (show mE (mtv 214) 96 = some (.iconst 0, 1, 0, 0) from rfl) kI_0 ?_
                  refine q_ireturn (show mE (mtv 214) 97 = some (.ireturn, 1, 0, 0) from rfl) ?_
                  exact ⟨(2 : Int32), (0 : Int32), _, _, _, rfl, rfl, t182, (RK_t (1 : Int32) hK)⟩
                · refine q_iconst (show mE (mtv 214) 55 = some (.iconst 1, 1, 0, 0) from rfl) kI_1 ?_
                  refine q_goto (t := 60) (show mE (mtv 214) 56 = some (.goto 4, 3, 0, 0) from rfl) rfl ?_
                  refine q_istore_n (show mE (mtv 214) 60 = some (.istore_n 2, 1, 0, 0) from rfl) (Nat.le_of_ble_eq_true rfl) hl160 (fun lv183 (hl184 : qLs lv183 [some (.ref (85)), some (.int (a1)), some (.int ((1 : Int32)))]) => ?_)
                  refine q_aload_n (show mE (mtv 214) 61 = some (.aload_n 0, 1, 0, 0) from rfl) (hl184 0 _ rfl) ?_
                  refine q_iload_n (show mE (mtv 214) 62 = some (.iload_n 2, 1, 0, 0) from rfl) (hl184 2 _ rfl) ?_
                  refine q_ift (t := 70) (show mE (mtv 214) 63 = some (.ifCond .ne 7, 3, 0, 0) from rfl) (by decide) rfl ?_
                  refine q_aload_n (show mE (mtv 214) 70 = some (.aload_n 0, 1, 0, 0) from rfl) (hl184 0 _ rfl) ?_
                  refine q_getI th (show mE (mtv 214) 71 = some (.getfield 114, 3, 9, 34) from rfl) (by decide) rfl ?_
                  have r185 : I 85 34 = I 1 6 := hK.sz.symm
                  rw [r185]; clear r185
                  refine q_aload_n (show mE (mtv 214) 74 = some (.aload_n 0, 1, 0, 0) from rfl) (hl184 0 _ rfl) ?_
                  refine q_getI th (show mE (mtv 214) 75 = some (.getfield 104, 3, 9, 31) from rfl) (by decide) rfl ?_
                  have r186 : I 85 31 = I 1 1 := hK.ch.symm
                  rw [r186]; clear r186
                  refine q_ic_ne (t := 85) (show mE (mtv 214) 78 = some (.if_icmp .ne 7, 3, 0, 0) from rfl) rfl (fun c187 => ?_) (fun c187 => ?_)
                  · clear c187
                    refine q_iconst (show mE (mtv 214) 85 = some (.iconst 0, 1, 0, 0) from rfl) kI_0 ?_
                    refine q_putI th (show mE (mtv 214) 86 = some (.putfield 138, 3, 9, 42) from rfl) (by decide) rfl (fun h188 t189 => ?_)
                    refine q_aload_n (show mE (mtv 214) 89 = some (.aload_n 0, 1, 0, 0) from rfl) (hl184 0 _ rfl) ?_
                    refine q_getIe t189 (show mE (mtv 214) 90 = some (.getfield 138, 3, 9, 42) from rfl) (by decide) rfl (upI_s) ?_
                    refine q_ift (t := 98) (show mE (mtv 214) 93 = some (.ifCond .le 5, 3, 0, 0) from rfl) (by decide) rfl ?_
                    refine q_aload_n (show mE (mtv 214) 98 = some (.aload_n 0, 1, 0, 0) from rfl) (hl184 0 _ rfl) ?_
                    refine q_getR (m := 87) t189 (show mE (mtv 214) 99 = some (.getfield 13, 3, 9, 1) from rfl) (by decide) rfl rfl ?_
                    refine q_aload_n (show mE (mtv 214) 102 = some (.aload_n 0, 1, 0, 0) from rfl) (hl184 0 _ rfl) ?_
                    refine q_getIe t189 (show mE (mtv 214) 103 = some (.getfield 114, 3, 9, 34) from rfl) (by decide) rfl (upI_n (Or.inr (by decide))) ?_
                    have r190 : I 85 34 = I 1 6 := hK.sz.symm
                    rw [r190]; clear r190
                    refine q_iload_n (show mE (mtv 214) 106 = some (.iload_n 1, 1, 0, 0) from rfl) (hl184 1 _ rfl) ?_
                    refine q_iastore (n := 6) t189 (show mE (mtv 214) 107 = some (.iastore, 1, 0, 0) from rfl) (by decide) rfl (fun bb191 h192 t193 => ?_)
                    refine q_aload_n (show mE (mtv 214) 108 = some (.aload_n 0, 1, 0, 0) from rfl) (hl184 0 _ rfl) ?_
                    refine q_dupR (show mE (mtv 214) 109 = some (.dup, 1, 0, 0) from rfl) ?_
                    refine q_getIe t193 (show mE (mtv 214) 110 = some (.getfield 114, 3, 9, 34) from rfl) (by decide) rfl ((upI_n (Or.inl (by decide))).trans (upI_n (Or.inr (by decide)))) ?_
                    have r194 : I 85 34 = I 1 6 := hK.sz.symm
                    rw [r194]; clear r194
                    refine q_iconst (show mE (mtv 214) 113 = some (.iconst 1, 1, 0, 0) from rfl) kI_1 ?_
                    refine q_iadd (show mE (mtv 214) 114 = some (.iadd, 1, 0, 0) from rfl) ?_
                    refine q_putI t193 (show mE (mtv 214) 115 = some (.putfield 114, 3, 9, 34) from rfl) (by decide) rfl (fun h195 t196 => ?_)
                    refine q_aload_n (show mE (mtv 214) 118 = some (.aload_n 0, 1, 0, 0) from rfl) (hl184 0 _ rfl) ?_
                    refine q_getIe t196 (show mE (mtv 214) 119 = some (.getfield 114, 3, 9, 34) from rfl) (by decide) rfl (upI_s) ?_
                    refine q_ireturn (show mE (mtv 214) 122 = some (.ireturn, 1, 0, 0) from rfl) ?_
                    exact ⟨(2 : Int32), (I 1 6) + (1 : Int32), _, _, _, rfl, rfl, t196, p8 c2 c13 c69 c109 c167 bb176 c178 bb191⟩
                  · exact absurd c187 c167
theorem ok_1 {h : sH} {I : Nat → Nat → Int32} {L : Nat → Nat → Int64} {R : Nat → Nat} (th : qH h I L R) (hK : RK I L R) (hG : RG I) {a1 : Int32} {r : sR} (gW : qGo 50 [.ref (0), .int (a1), .ref (117)] h r) : ∀ r2 : sR, qGo 214 [.ref (85), .int (a1)] r.2 r2 → opX r.1 r2.1 r2.2 RK := qp_1 th hK hG gW
  (fun c2 c13 c14 _ _ _ => by
    have m2 := hK.mi.m2
    have m6 := hK.mi.m6
    have sc := hK.mi.sc
    have c6 := hK.mi.c6
    obtain ⟨d, hd, rfl⟩ := hK.gm c2
    rw [hK.s1, hK.c1] at c14
    have z0 : szI I = 0 := by
      rw [hK.s1] at c13
      exact (oN_inj (b := 0) (by omega) (by omega)).mp c13
    exact RK_L (RK_cutOp hK ((oN_lt (by omega) (by omega)).mp c14) hd (fun z => absurd z0 (by omega))))
  (fun _ _ c14 _ c34 => by rw [c34] at c14; exact absurd c14 Int32.lt_irrefl)
  (fun _ _ c14 c57 _ => (hK.sc_no c14 c57).elim)
  (fun _ c13 c69 _ _ c90 _ => by
    obtain ⟨e1, e2, e3⟩ := last_E hK c13
    rw [e3, T213_if] at c90
    rw [e2] at c69
    exact absurd c69 c90)
  (fun _ _ _ c109 _ c127 => by rw [c127] at c109; exact absurd c109 Int32.lt_irrefl)
  (fun _ c13 c69 _ _ _ _ c139 => by
    obtain ⟨e1, e2, e3⟩ := last_E hK c13
    rw [e3, T213_if] at c139
    rw [e2] at c69
    exact absurd c139 c69)
  (fun c2 c13 _ c109 _ _ _ c139 _ => by
    have m6 := hK.mi.m6
    have sc := hK.mi.sc
    have c6 := hK.mi.c6
    obtain ⟨e1, e2, e3⟩ := last_E hK c13
    obtain ⟨d, hd, rfl⟩ := hK.gm c2
    rw [hK.s1, hK.c1] at c109
    rw [e3] at c139
    refine RK_L (RK_cutOp hK ((oN_lt (by omega) (by omega)).mp c109) hd (fun z => ?_))
    obtain ⟨x, x1, x2⟩ := hK.mi.told (szI I - 1) (by omega)
    unfold cA
    rw [x2, ofN_clamp (by omega), ← x2, ← hK.ap, decide_eq_true_eq]
    exact c139)
  (fun _ _ _ c109 c167 _ _ _ => (hK.sc_no c109 c167).elim)
