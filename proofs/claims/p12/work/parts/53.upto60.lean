/-! some parts, joined -/
section
/-! part 53: local arrays; what the loops of keys and doors mean -/
/-! a local array -/
theorem vI_ap {h : sH} {c : sC} (hz : ∀ g, iOf ((sVs c).getD g .null) = 0) : vI (h ++ [c]) = vI h := by
  funext b g
  unfold vI
  rcases Nat.lt_trichotomy b h.length with e | e | e
  · rw [List.getElem?_append_left e]
  · subst e
    rw [List.getElem?_concat_length, List.getElem?_eq_none (Nat.le_refl _)]
    exact hz g
  · rw [List.getElem?_eq_none (by rw [List.length_append]; exact e), List.getElem?_eq_none (Nat.le_of_lt e)]
theorem vL_ap {h : sH} {c : sC} (hz : ∀ g, lOf ((sVs c).getD g .null) = 0) : vL (h ++ [c]) = vL h := by
  funext b g
  unfold vL
  rcases Nat.lt_trichotomy b h.length with e | e | e
  · rw [List.getElem?_append_left e]
  · subst e
    rw [List.getElem?_concat_length, List.getElem?_eq_none (Nat.le_refl _)]
    exact hz g
  · rw [List.getElem?_eq_none (by rw [List.length_append]; exact e), List.getElem?_eq_none (Nat.le_of_lt e)]
theorem tInv_ap {h : sH} {c : sC} (ht : tInv h) (hc : eGb c) : tInv (h ++ [c]) := by
  obtain ⟨t1, t2, t3⟩ := ht
  refine ⟨by rw [List.length_append]; omega, fun a d ha hd => ?_, fun a d ha hd => ?_⟩
  · rw [List.getElem?_append_left (by omega)] at hd
    exact t2 a d ha hd
  · by_cases e : a < h.length
    · rw [List.getElem?_append_left e] at hd
      exact t3 a d ha hd
    · have hl := (List.getElem?_eq_some_iff.mp hd).1
      rw [List.length_append] at hl
      have e2 : a = h.length := by
        have : ([c] : List sC).length = 1 := rfl
        omega
      subst e2
      rw [List.getElem?_concat_length] at hd
      cases hd
      exact hc
theorem g6 : ∀ g : Nat, ∃ v : Value, (List.replicate 6 (Value.int 0)).getD g .null = v ∧ iOf v = 0 ∧ lOf v = 0
  | 0 => ⟨_, rfl, rfl, rfl⟩
  | 1 => ⟨_, rfl, rfl, rfl⟩
  | 2 => ⟨_, rfl, rfl, rfl⟩
  | 3 => ⟨_, rfl, rfl, rfl⟩
  | 4 => ⟨_, rfl, rfl, rfl⟩
  | 5 => ⟨_, rfl, rfl, rfl⟩
  | _ + 6 => ⟨_, rfl, rfl, rfl⟩
theorem qH_ap {h : sH} {I : Nat → Nat → Int32} {L : Nat → Nat → Int64} {R : Nat → Nat} (th : qH h I L R) : qH (h ++ [.inl (0, List.replicate 6 (.int 0))]) I L R := by
  obtain ⟨t1, rfl, rfl, rfl⟩ := th
  refine ⟨tInv_ap t1 ⟨_, rfl, rfl, fun v hv => ⟨0, (List.mem_replicate.mp hv).2⟩⟩, vI_ap (fun g => ?_), vL_ap (fun g => ?_), ?_⟩
  · obtain ⟨v, e, h1, _⟩ := g6 g
    show iOf ((List.replicate 6 (Value.int 0)).getD g .null) = 0
    rw [e, h1]
  · obtain ⟨v, e, _, h2⟩ := g6 g
    show lOf ((List.replicate 6 (Value.int 0)).getD g .null) = 0
    rw [e, h2]
  · funext j
    unfold vR
    rw [List.getElem?_append_left (by have := t1.1; omega)]
theorem q_newarray {K N pc a1 a2 ln : Nat} {Q : sR → Prop} {lv : sL} {st : List Value} {h : sH} {I : Nat → Nat → Int32} {L : Nat → Nat → Int64} {R : Nat → Nat} (th : qH h I L R) (he : mE (mtv K) pc = some (.newarray .int, ln, a1, a2)) (h1 : ¬ 1000 ≤ a1)
    (k : ∀ p h', p = h.length → 119 ≤ p → h'.length = h.length + 1 → (∀ f, I p f = 0) → qH h' I L R → qW K N (pc + 2) lv (.ref p :: st) h' Q) : qW K N pc lv (.int 6 :: st) h Q := qW_le (Nat.le_succ N) (q_step1 (fun D cl sl z hz => by
  unfold sStep at hz
  rw [he] at hz; dsimp only at hz
  rw [show sP (mL (mtv K)) (.newarray .int) pc lv (.int 6 :: st) = none from rfl] at hz; dsimp only at hz
  rw [show sHp none (.newarray .int) a1 a2 pc lv (.int 6 :: st) h = none from rfl] at hz; dsimp only at hz
  rw [show sRet (mR (mtv K)) (.newarray .int) (.int 6 :: st) = none from rfl] at hz; dsimp only at hz
  rw [if_neg h1, show sInv0 mtv (.newarray .int) a1 a2 (.int 6 :: st) h = none from rfl] at hz; dsimp only at hz
  cases g : sAl (mC (mtv K)) (mS (mtv K)) (.newarray .int) a1 pc lv (.int 6 :: st) h cl sl with
  | none => rw [g] at hz; cases hz
  | some q =>
    rw [g] at hz; cases hz
    unfold sAl at g; dsimp only at g
    split at g
    · cases g
      exact fun n r hn hr => k h.length (h ++ [.inl (0, List.replicate 6 (.int 0))]) rfl th.1.1 (by rw [List.length_append]; rfl) (fun f => by
        rw [← th.2.1]; unfold vI; rw [List.getElem?_eq_none (Nat.le_refl _)]) (qH_ap th) n D _ _ r hn hr
    · cases g))
theorem q_idiv {K N pc a1 a2 ln : Nat} {Q : sR → Prop} {lv : sL} {st : List Value} {h : sH} {x y : Int32} (he : mE (mtv K) pc = some (.idiv, ln, a1, a2)) (k : ¬ y = 0 → qW K N (pc + 1) lv (.int (x / y) :: st) h Q) : qW K N pc lv (.int y :: .int x :: st) h Q := by
  by_cases hy : y = 0
  · refine qW_le (Nat.le_succ N) (q_step1 (fun D cl sl z hz => ?_))
    have e : sP (mL (mtv K)) .idiv pc lv (.int y :: .int x :: st) = none := if_pos hy
    rw [sNo he e rfl rfl rfl rfl rfl] at hz
    cases hz
  · exact q_P he (show (if y = 0 then none else _) = _ from if_neg hy) (k hy)
theorem q_irem {K N pc a1 a2 ln : Nat} {Q : sR → Prop} {lv : sL} {st : List Value} {h : sH} {x y : Int32} (he : mE (mtv K) pc = some (.irem, ln, a1, a2)) (k : ¬ y = 0 → qW K N (pc + 1) lv (.int (x - x / y * y) :: st) h Q) : qW K N pc lv (.int y :: .int x :: st) h Q := by
  by_cases hy : y = 0
  · refine qW_le (Nat.le_succ N) (q_step1 (fun D cl sl z hz => ?_))
    have e : sP (mL (mtv K)) .irem pc lv (.int y :: .int x :: st) = none := if_pos hy
    rw [sNo he e rfl rfl rfl rfl rfl] at hz
    cases hz
  · exact q_P he (show (if y = 0 then none else _) = _ from if_neg hy) (k hy)
theorem q_fdiv {K N pc a1 a2 ln : Nat} {Q : sR → Prop} {lv : sL} {st : List Value} {h : sH} {x y : UInt32} (he : mE (mtv K) pc = some (.fdiv, ln, a1, a2)) (k : qW K N (pc + 1) lv (.float (FP.fdiv x y) :: st) h Q) : qW K N pc lv (.float y :: .float x :: st) h Q := by
  by_cases hy : FP.fdiv x y &&& 0x7fffffff ≤ 0x7f800000
  · exact q_P he (show (if FP.fdiv x y &&& 0x7fffffff ≤ 0x7f800000 then some _ else none) = _ from if_pos hy) k
  · refine qW_le (Nat.le_succ N) (q_step1 (fun D cl sl z hz => ?_))
    have e : sP (mL (mtv K)) .fdiv pc lv (.float y :: .float x :: st) = none := if_neg hy
    rw [sNo he e rfl rfl rfl rfl rfl] at hz
    cases hz
theorem q_ddiv {K N pc a1 a2 ln : Nat} {Q : sR → Prop} {lv : sL} {st : List Value} {h : sH} {x y : UInt64} (he : mE (mtv K) pc = some (.ddiv, ln, a1, a2)) (k : qW K N (pc + 1) lv (.double (FP.ddiv x y) :: st) h Q) : qW K N pc lv (.double y :: .double x :: st) h Q := by
  by_cases hy : FP.ddiv x y &&& 0x7fffffffffffffff ≤ 0x7ff0000000000000
  · exact q_P he (show (if FP.ddiv x y &&& 0x7fffffffffffffff ≤ 0x7ff0000000000000 then some _ else none) = _ from if_pos hy) k
  · refine qW_le (Nat.le_succ N) (q_step1 (fun D cl sl z hz => ?_))
    have e : sP (mL (mtv K)) .ddiv pc lv (.double y :: .double x :: st) = none := if_neg hy
    rw [sNo he e rfl rfl rfl rfl rfl] at hz
    cases hz
/-! part 53: what the loops of keys and doors mean -/
theorem oN_le {a b : Nat} (ha : a < 2147483648) (hb : b < 2147483648) : Int32.ofNat a ≤ Int32.ofNat b ↔ a ≤ b := by
  rw [Int32.le_iff_toInt_le, ofN_toInt ha, ofN_toInt hb]
  exact Int.ofNat_le
theorem oN_lt {a b : Nat} (ha : a < 2147483648) (hb : b < 2147483648) : Int32.ofNat a < Int32.ofNat b ↔ a < b := by
  rw [Int32.lt_iff_toInt_lt, ofN_toInt ha, ofN_toInt hb]
  exact Int.ofNat_lt
theorem oN_inj {a b : Nat} (ha : a < 2147483648) (hb : b < 2147483648) : Int32.ofNat a = Int32.ofNat b ↔ a = b :=
  ⟨fun h => by have := congrArg Int32.toNatClampNeg h; rwa [ofN_clamp ha, ofN_clamp hb] at this, fun h => by rw [h]⟩
theorem oN_s (a : Nat) : Int32.ofNat a + 1 = Int32.ofNat (a + 1) := (Int32.ofNat_add a 1).symm
theorem oN_6 (k c : Nat) : (6 : Int32) * Int32.ofNat k + Int32.ofNat c = Int32.ofNat (6 * k + c) := by
  rw [Int32.ofNat_add, Int32.ofNat_mul]; rfl
theorem oN_of {x : Int32} {m : Nat} (h : inR x 0 m) : ∃ n, n ≤ m ∧ x = Int32.ofNat n := by
  refine ⟨x.toNatClampNeg, clampB h, ?_⟩
  unfold inR at h
  apply Int32.toInt_inj.mp
  have e : x.toNatClampNeg = x.toInt.toNat := rfl
  have := i32_rng x
  rw [ofN_toInt (by omega)]
  omega
/-- all but one array as before -/
noncomputable def agr (t : Nat) (J I : Nat → Nat → Int32) : Prop := ∀ a b, a ≠ t → J a b = I a b
theorem agr_up {t : Nat} {J I : Nat → Nat → Int32} (h : agr t J I) (b : Nat) (x : Int32) : agr t (upI J t b x) I := fun a c hn => by
  rw [upI_ne (fun q => hn q.1)]; exact h a c hn
/-- a door's pins, as the class joins them -/
theorem lb_14 {L : Nat → Nat → Int64} {w : Int32} : ∀ (m j : Nat) (x : Int64) (n : Nat), j + m ≤ 32 → (lb (G_14 L w j x m) n = true ↔ lb x n = true ∨ ∃ i, j ≤ i ∧ i < j + m ∧ tb w i = true ∧ lb (L (19 + i) 0) n = true)
  | 0, j, x, n, _ => ⟨Or.inl, fun h => h.elim id (fun ⟨i, h1, h2, _⟩ => absurd h2 (by omega))⟩
  | m + 1, j, x, n, hm => by
    unfold G_14
    have ec : (Int32.ofNat j).toNatClampNeg = j := ofN_clamp (by omega)
    have eh : hs w (Int32.ofNat j) = tb w j := by unfold hs tb; rw [shD_nat (by omega)]
    rw [ec, eh]
    by_cases hb : tb w j = true
    · rw [if_pos hb, lb_14 m (j + 1) _ n (by omega), lb_or, Bool.or_eq_true]
      constructor
      · rintro ((h | h) | ⟨i, h1, h2, h3⟩)
        · exact .inl h
        · exact .inr ⟨j, by omega, by omega, hb, h⟩
        · exact .inr ⟨i, by omega, by omega, h3⟩
      · rintro (h | ⟨i, h1, h2, h3, h4⟩)
        · exact .inl (.inl h)
        · by_cases e : i = j
          · rw [e] at h4; exact .inl (.inr h4)
          · exact .inr ⟨i, by omega, by omega, h3, h4⟩
    · rw [if_neg hb, lb_14 m (j + 1) _ n (by omega)]
      constructor
      · rintro (h | ⟨i, h1, h2, h3⟩)
        · exact .inl h
        · exact .inr ⟨i, by omega, by omega, h3⟩
      · rintro (h | ⟨i, h1, h2, h3, h4⟩)
        · exact .inl h
        · by_cases e : i = j
          · rw [e] at h3; exact absurd h3 hb
          · exact .inr ⟨i, by omega, by omega, h3, h4⟩
/-- a door's pins, as the model lays them -/
noncomputable def pinM (I : Nat → Nat → Int32) (d nk nc : Nat) (k0 c0 : Nat) (J : Nat → Nat → Int32) : Prop :=
  ∀ c e, c < 6 → e < 32 → (tb (J 106 c) e = true ↔ ∃ i, (i < k0 ∧ c < nc ∨ i = k0 ∧ c < c0) ∧ i < nk ∧ tb (I 88 i) d = true ∧ I 86 (6 * i + c) = Int32.ofNat e)
theorem sem_229 {I : Nat → Nat → Int32} {d nk nc : Nat} (hd : d < 32) (hk : I 85 35 = Int32.ofNat nk) (hc : I 85 31 = Int32.ofNat nc) (bk : nk ≤ 16) (bc : nc ≤ 6) (bd : ∀ k c, k < nk → c < nc → ∃ e, e < 8 ∧ I 86 (6 * k + c) = Int32.ofNat e) :
    ∀ n, (∀ J j y r, agr 106 J I → (∀ c, c < j → J 106 c = 0) → j ≤ 6 → F_229 n 2 J (Int32.ofNat d) (Int32.ofNat j) y = some r → agr 106 r.2 I ∧ pinM I d nk nc nk 0 r.2) ∧
      (∀ J k y r, agr 106 J I → k ≤ nk → pinM I d nk nc k 0 J → F_229 n 23 J (Int32.ofNat d) (Int32.ofNat k) y = some r → agr 106 r.2 I ∧ pinM I d nk nc nk 0 r.2) ∧
      (∀ J k c r, agr 106 J I → k < nk → c ≤ nc → pinM I d nk nc k c J → F_229 n 33 J (Int32.ofNat d) (Int32.ofNat k) (Int32.ofNat c) = some r → agr 106 r.2 I ∧ pinM I d nk nc nk 0 r.2)
  | 0 => ⟨fun _ _ _ _ _ _ _ h => (by cases h), fun _ _ _ _ _ _ _ h => (by cases h), fun _ _ _ _ _ _ _ _ h => (by cases h)⟩
  | n + 1 => by
    obtain ⟨ih1, ih2, ih3⟩ := sem_229 hd hk hc bk bc bd n
    refine ⟨?_, ?_, ?_⟩
    · intro J j y r ha hz hj h
      simp only [F_229, reduceIte] at h
      by_cases hp : (6 : Int32) ≤ Int32.ofNat j
      · rw [if_pos hp] at h
        have hj6 : j = 6 := by
          have := (oN_le (a := 6) (b := j) (by decide) (by omega)).mp hp
          omega
        refine ih2 J 0 y r ha (Nat.zero_le _) ?_ h
        intro c e h1 h2
        rw [hz c (by omega), tb_0]
        constructor
        · intro q; cases q
        · rintro ⟨i, q, _⟩; omega
      · rw [if_neg hp, ofN_clamp (by omega), oN_s] at h
        have hj6 : j < 6 := by
          have := mt (oN_le (a := 6) (b := j) (by decide) (by omega)).mpr hp
          omega
        refine ih1 _ (j + 1) y r (agr_up ha _ _) ?_ (by omega) h
        intro c h1
        by_cases e : c = j
        · rw [e]; exact upI_s
        · rw [upI_ne (fun q => e q.2)]; exact hz c (by omega)
    · intro J k y r ha hkn hp h
      simp only [F_229, Nat.reduceEqDiff, reduceIte] at h
      rw [ha 85 35 (by decide), hk] at h
      by_cases hq : Int32.ofNat nk ≤ Int32.ofNat k
      · rw [if_pos hq] at h
        have : k = nk := by
          have := (oN_le (by omega) (by omega)).mp hq
          omega
        cases h
        subst this
        exact ⟨ha, hp⟩
      · rw [if_neg hq] at h
        have : k < nk := by
          have := mt (oN_le (by omega) (by omega)).mpr hq
          omega
        exact ih3 J k 0 r ha this (Nat.zero_le _) hp h
    · intro J k c r ha hkn hcn hp h
      simp only [F_229, Nat.reduceEqDiff, reduceIte] at h
      rw [ha 85 31 (by decide), hc] at h
      by_cases hq : Int32.ofNat nc ≤ Int32.ofNat c
      · rw [if_pos hq, oN_s] at h
        have : c = nc := by
          have := (oN_le (by omega) (by omega)).mp hq
          omega
        refine ih2 J (k + 1) _ r ha hkn ?_ h
        intro c' e h1 h2
        rw [hp c' e h1 h2]
        constructor
        · rintro ⟨i, q, q2⟩; exact ⟨i, by omega, q2⟩
        · rintro ⟨i, q, q2⟩; exact ⟨i, by omega, q2⟩
      · rw [if_neg hq, ofN_clamp (by omega), ofN_clamp (by omega), ha 88 k (by decide)] at h
        have hcl : c < nc := by
          have := mt (oN_le (by omega) (by omega)).mpr hq
          omega
        have eh : hs (I 88 k) (Int32.ofNat d) = tb (I 88 k) d := by unfold hs tb; rw [shD_nat hd]
        rw [eh] at h
        by_cases hw : tb (I 88 k) d = true
        · obtain ⟨e0, he0, hE⟩ := bd k c hkn hcl
          rw [if_pos hw, oN_6, ofN_clamp (by omega), ha 86 _ (by decide), hE, oN_s] at h
          refine ih3 _ k (c + 1) r (agr_up ha _ _) hkn hcl ?_ h
          intro c' e h1 h2
          by_cases ec : c' = c
          · subst ec
            rw [upI_s, tb_or, Bool.or_eq_true, hp c' e h1 h2, tb_shl, shD_nat (by omega), decide_eq_true_eq]
            constructor
            · rintro (⟨i, q, q2⟩ | q)
              · exact ⟨i, by omega, q2⟩
              · exact ⟨k, by omega, hkn, hw, by rw [hE, q]⟩
            · rintro ⟨i, q, q2, q3, q4⟩
              by_cases ei : i = k
              · right
                rw [ei, hE] at q4
                exact ((oN_inj (by omega) (by omega)).mp q4).symm
              · exact .inl ⟨i, by omega, q2, q3, q4⟩
          · rw [upI_ne (fun q => ec q.2), hp c' e h1 h2]
            constructor
            · rintro ⟨i, q, q2⟩; exact ⟨i, by omega, q2⟩
            · rintro ⟨i, q, q2⟩; exact ⟨i, by omega, q2⟩
        · rw [if_neg hw, oN_s] at h
          refine ih2 J (k + 1) _ r ha hkn ?_ h
          intro c' e h1 h2
          rw [hp c' e h1 h2]
          constructor
          · rintro ⟨i, q, q2⟩; exact ⟨i, by omega, q2⟩
          · rintro ⟨i, q, q2, q3, q4⟩
            refine ⟨i, ?_, q2, q3, q4⟩
            have : i ≠ k := fun e => hw (e ▸ q3)
            omega
/-- the class has a key with these cuts and the blank's profile -/
theorem sem_56 {I : Nat → Nat → Int32} {L : Nat → Nat → Int64} {x : Int64} : ∀ m j, j + m ≤ 32 → (G_56 I L x j m = true ↔ ∃ i, j ≤ i ∧ i < j + m ∧ L (19 + i) 0 = x ∧ I (19 + i) 1 = I 1 4)
  | 0, j, _ => ⟨fun h => (by cases h), fun ⟨i, h1, h2, _⟩ => absurd h2 (by omega)⟩
  | m + 1, j, hm => by
    unfold G_56
    rw [ofN_clamp (show j < 2147483648 by omega)]
    have ih := sem_56 (I := I) (L := L) (x := x) m (j + 1) (by omega)
    have keep : (¬ (L (19 + j) 0 = x ∧ I (19 + j) 1 = I 1 4)) → ((∃ i, j + 1 ≤ i ∧ i < j + 1 + m ∧ L (19 + i) 0 = x ∧ I (19 + i) 1 = I 1 4) ↔ ∃ i, j ≤ i ∧ i < j + (m + 1) ∧ L (19 + i) 0 = x ∧ I (19 + i) 1 = I 1 4) := fun hn => by
      constructor
      · rintro ⟨i, h1, h2, h3⟩; exact ⟨i, by omega, by omega, h3⟩
      · rintro ⟨i, h1, h2, h3⟩
        have : i ≠ j := fun e => hn (e ▸ h3)
        exact ⟨i, by omega, by omega, h3⟩
    by_cases h1 : L (19 + j) 0 = x
    · rw [if_pos h1]
      by_cases h2 : I (19 + j) 1 = I 1 4
      · rw [if_pos h2]
        exact ⟨fun _ => ⟨j, by omega, by omega, h1, h2⟩, fun _ => rfl⟩
      · rw [if_neg h2, ih]
        exact keep (fun q => h2 q.2)
    · rw [if_neg h1, ih]
      exact keep (fun q => h1 q.1)
/-- the model's key has the depths that are tried and the blank's profile -/
noncomputable def sameM (I : Nat → Nat → Int32) (nc k : Nat) : Prop := I 95 k = I 85 43 ∧ ∀ c, c < nc → I 86 (6 * k + c) = I 91 c
theorem sem_217 {I : Nat → Nat → Int32} {nk nc : Nat} (hk : I 85 35 = Int32.ofNat nk) (hc : I 85 31 = Int32.ofNat nc) (bk : nk ≤ 16) (bc : nc ≤ 6) :
    ∀ n, (∀ k x2 x3 r, k ≤ nk → (∀ i, i < k → ¬ sameM I nc i) → F_217 I n 2 (Int32.ofNat k) x2 x3 = some r → (r = -1 ∧ ∀ i, i < nk → ¬ sameM I nc i) ∨ ∃ i, i < nk ∧ sameM I nc i ∧ r = Int32.ofNat i) ∧
      (∀ k c x2 r, k < nk → c ≤ nc → (∀ i, i < k → ¬ sameM I nc i) → (x2 = 0 ∧ ¬ sameM I nc k ∨ x2 = 1 ∧ I 95 k = I 85 43 ∧ ∀ e, e < c → I 86 (6 * k + e) = I 91 e) → F_217 I n 31 (Int32.ofNat k) x2 (Int32.ofNat c) = some r → (r = -1 ∧ ∀ i, i < nk → ¬ sameM I nc i) ∨ ∃ i, i < nk ∧ sameM I nc i ∧ r = Int32.ofNat i)
  | 0 => ⟨fun _ _ _ _ _ _ h => (by cases h), fun _ _ _ _ _ _ _ _ h => (by cases h)⟩
  | n + 1 => by
    obtain ⟨ih1, ih2⟩ := sem_217 hk hc bk bc n
    refine ⟨?_, ?_⟩
    · intro k x2 x3 r hkn hno h
      simp only [F_217, reduceIte] at h
      rw [hk] at h
      by_cases hq : Int32.ofNat nk ≤ Int32.ofNat k
      · rw [if_pos hq] at h
        cases h
        have := (oN_le (by omega) (by omega)).mp hq
        exact .inl ⟨rfl, fun i hi => hno i (by omega)⟩
      · rw [if_neg hq, ofN_clamp (by omega)] at h
        have hkl : k < nk := by
          have := mt (oN_le (by omega) (by omega)).mpr hq
          omega
        by_cases hp : I 95 k = I 85 43
        · rw [if_pos hp] at h
          exact ih2 k 0 1 r hkl (Nat.zero_le _) hno (.inr ⟨rfl, hp, fun e he => absurd he (Nat.not_lt_zero e)⟩) h
        · rw [if_neg hp] at h
          exact ih2 k 0 0 r hkl (Nat.zero_le _) hno (.inl ⟨rfl, fun q => hp q.1⟩) h
    · intro k c x2 r hkl hcn hno hx h
      simp only [F_217, Nat.reduceEqDiff, reduceIte] at h
      rw [hc] at h
      by_cases hq : Int32.ofNat nc ≤ Int32.ofNat c
      · rw [if_pos hq] at h
        have ec : c = nc := by
          have := (oN_le (by omega) (by omega)).mp hq
          omega
        rcases hx with ⟨e, hn⟩ | ⟨e, hp, ha⟩
        · subst e
          rw [if_pos rfl, oN_s] at h
          refine ih1 (k + 1) _ _ r hkl (fun i hi => ?_) h
          by_cases e2 : i = k
          · rw [e2]; exact hn
          · exact hno i (by omega)
        · subst e
          rw [if_neg (by decide)] at h
          cases h
          exact .inr ⟨k, hkl, ⟨hp, fun e he => ha e (by omega)⟩, rfl⟩
      · rw [if_neg hq] at h
        have hcl : c < nc := by
          have := mt (oN_le (by omega) (by omega)).mpr hq
          omega
        rcases hx with ⟨e, hn⟩ | ⟨e, hp, ha⟩
        · subst e
          rw [if_pos rfl, oN_s] at h
          exact ih2 k (c + 1) 0 r hkl hcl hno (.inl ⟨rfl, hn⟩) h
        · subst e
          rw [if_neg (by decide), oN_6, ofN_clamp (by omega), ofN_clamp (by omega), oN_s] at h
          by_cases hb : I 86 (6 * k + c) = I 91 c
          · rw [if_pos hb] at h
            refine ih2 k (c + 1) 1 r hkl hcl hno (.inr ⟨rfl, hp, fun e he => ?_⟩) h
            by_cases e2 : e = c
            · rw [e2]; exact hb
            · exact ha e (by omega)
          · rw [if_neg hb] at h
            exact ih2 k (c + 1) 0 r hkl hcl hno (.inl ⟨rfl, fun q => hb (q.2 c hcl)⟩) h
/-- a key's depths are all among the pins that are laid -/
noncomputable def inM (I : Nat → Nat → Int32) (nc k : Nat) : Prop := ∀ c, c < nc → hs (I 106 c) (I 86 (6 * k + c)) = true
theorem sem_233 {I : Nat → Nat → Int32} {nc k : Nat} (hc : I 85 31 = Int32.ofNat nc) (bk : k ≤ 16) (bc : nc ≤ 6) :
    ∀ n c r, c ≤ nc → (∀ e, e < c → hs (I 106 e) (I 86 (6 * k + e)) = true) → F_233 I n 20 (Int32.ofNat k) (Int32.ofNat c) = some r → (r = 1 ∧ inM I nc k) ∨ (r = 0 ∧ ¬ inM I nc k)
  | 0, _, _, _, _, h => by cases h
  | n + 1, c, r, hcn, ha, h => by
    simp only [F_233, reduceIte] at h
    rw [hc] at h
    by_cases hq : Int32.ofNat nc ≤ Int32.ofNat c
    · rw [if_pos hq] at h
      cases h
      have := (oN_le (by omega) (by omega)).mp hq
      exact .inl ⟨rfl, fun e he => ha e (by omega)⟩
    · rw [if_neg hq, oN_6, ofN_clamp (by omega), ofN_clamp (by omega), oN_s] at h
      have hcl : c < nc := by
        have := mt (oN_le (by omega) (by omega)).mpr hq
        omega
      by_cases hb : hs (I 106 c) (I 86 (6 * k + c)) = true
      · rw [if_pos hb] at h
        refine sem_233 hc bk bc n (c + 1) r hcl (fun e he => ?_) h
        by_cases e2 : e = c
        · rw [e2]; exact hb
        · exact ha e (by omega)
      · rw [if_neg hb] at h
        cases h
        exact .inr ⟨rfl, fun q => hb (q c hcl)⟩
/-- the depth of a key in a chamber -/
noncomputable def dpM (I : Nat → Nat → Int32) (k c : Nat) : Nat := (I 86 (6 * k + c)).toNatClampNeg
/-- the pins of both sides -/
theorem pin_CM {I J : Nat → Nat → Int32} {L : Nat → Nat → Int64} {w : Int32} {d nk nc : Nat} (bk : nk ≤ 16) (bc : nc ≤ 6)
    (hL : ∀ k, k < nk → isCuts (L (19 + k) 0) (dpM I k) nc) (hw : ∀ k, k < nk → tb w k = tb (I 88 k) d) (bd : ∀ k c, k < nk → c < nc → ∃ e, e < 8 ∧ I 86 (6 * k + c) = Int32.ofNat e)
    (hp : pinM I d nk nc nk 0 J) {c e : Nat} (hc : c < 6) (he : e < 8) : lb (G_14 L w 0 0 nk) (8 * c + e) = tb (J 106 c) e := by
  have h1 := lb_14 (L := L) (w := w) nk 0 0 (8 * c + e) (by omega)
  have h2 := hp c e hc (by omega)
  have key : lb (G_14 L w 0 0 nk) (8 * c + e) = true ↔ tb (J 106 c) e = true := by
    rw [h1, h2, lb_0]
    constructor
    · rintro (h | ⟨i, _, h4, h5, h6⟩)
      · cases h
      · have hi : i < nk := by omega
        rw [hL i hi c e he, decide_eq_true_eq] at h6
        obtain ⟨e0, q1, q2⟩ := bd i c hi h6.1
        refine ⟨i, .inl ⟨hi, h6.1⟩, hi, (hw i hi) ▸ h5, ?_⟩
        have := h6.2
        unfold dpM at this
        rw [q2, ofN_clamp (by omega)] at this
        rw [q2, this]
    · rintro ⟨i, q, hi, h3, h4⟩
      refine .inr ⟨i, Nat.zero_le _, by omega, (hw i hi).symm ▸ h3, ?_⟩
      rw [hL i hi c e he, decide_eq_true_eq]
      refine ⟨by omega, ?_⟩
      unfold dpM
      rw [h4, ofN_clamp (by omega)]
  cases g : tb (J 106 c) e with
  | true => exact key.mpr g
  | false =>
    cases g2 : lb (G_14 L w 0 0 nk) (8 * c + e) with
    | true => exact absurd (key.mp g2) (by rw [g]; decide)
    | false => rfl
/-- a key is let in by both sides' pins alike -/
theorem in_CM {I J : Nat → Nat → Int32} {L : Nat → Nat → Int64} {x : Int64} {nk nc k : Nat} (bc : nc ≤ 6) (hk : k < nk) (h86 : ∀ b, J 86 b = I 86 b)
    (hL : ∀ k, k < nk → isCuts (L (19 + k) 0) (dpM I k) nc) (bd : ∀ k c, k < nk → c < nc → ∃ e, e < 8 ∧ I 86 (6 * k + c) = Int32.ofNat e)
    (hp : ∀ c e, c < nc → e < 8 → lb x (8 * c + e) = tb (J 106 c) e) : letIn (L (19 + k) 0) x ↔ inM J nc k := by
  have hf : ∀ c, c < nc → dpM I k c < 8 ∧ I 86 (6 * k + c) = Int32.ofNat (dpM I k c) := fun c hc => by
    obtain ⟨e, q1, q2⟩ := bd k c hk hc
    unfold dpM
    rw [q2, ofN_clamp (by omega)]
    exact ⟨q1, rfl⟩
  show (_ &&& (_ ^^^ _)) = 0 ↔ _
  rw [letIn_iff (hL k hk) bc (fun c hc => (hf c hc).1)]
  unfold inM
  constructor
  · intro h c hc
    have := h c hc
    rw [hp c _ hc (hf c hc).1] at this
    rw [h86, (hf c hc).2]
    unfold hs
    rw [shD_nat (by have := (hf c hc).1; omega)]
    exact this
  · intro h c hc
    have := h c hc
    rw [h86, (hf c hc).2] at this
    unfold hs at this
    rw [shD_nat (by have := (hf c hc).1; omega)] at this
    rw [hp c _ hc (hf c hc).1]
    exact this
end
section
/-! part 54: ways counted from both ends -/
noncomputable def jS (f : Nat → Int32) : Nat → Int32
  | 0 => 0
  | k + 1 => jS f k + f k
theorem jS_ext {f g : Nat → Int32} : ∀ {n : Nat}, (∀ i, i < n → f i = g i) → jS f n = jS g n
  | 0, _ => rfl
  | n + 1, h => by
    show jS f n + f n = jS g n + g n
    rw [jS_ext (fun i hi => h i (by omega)), h n (by omega)]
theorem jS_add {f g : Nat → Int32} : ∀ {n : Nat}, jS (fun i => f i + g i) n = jS f n + jS g n
  | 0 => rfl
  | n + 1 => by
    show jS (fun i => f i + g i) n + (f n + g n) = jS f n + f n + (jS g n + g n)
    rw [jS_add, Int32.add_assoc, Int32.add_assoc, ← Int32.add_assoc (jS g n), Int32.add_comm (jS g n) (f n), Int32.add_assoc (f n)]
theorem jS_0 : ∀ {n : Nat}, jS (fun _ => 0) n = 0
  | 0 => rfl
  | n + 1 => by
    show jS (fun _ => 0) n + 0 = 0
    rw [jS_0]; rfl
theorem jS_mul {a : Int32} {f : Nat → Int32} : ∀ {n : Nat}, jS (fun i => a * f i) n = a * jS f n
  | 0 => (Int32.mul_zero).symm
  | n + 1 => by
    show jS (fun i => a * f i) n + a * f n = a * (jS f n + f n)
    rw [jS_mul, Int32.mul_add]
theorem jS_swap {f : Nat → Nat → Int32} {m : Nat} : ∀ {n : Nat}, jS (fun i => jS (fun j => f i j) m) n = jS (fun j => jS (fun i => f i j) n) m
  | 0 => (jS_0 (n := m)).symm
  | n + 1 => by
    show jS (fun i => jS (fun j => f i j) m) n + jS (fun j => f n j) m = jS (fun j => jS (fun i => f i j) n + f n j) m
    rw [jS_swap, jS_add]
/-- one ways on -/
noncomputable def bj (b : Bool) : Int32 := if b then 1 else 0
theorem bj_mul (b : Bool) (x : Int32) : bj b * x = if b then x else 0 := by
  cases b
  · exact Int32.zero_mul
  · exact Int32.one_mul x
/-- from the front: how many ways lead to a depth of a chamber -/
noncomputable def wF (P adj : Nat → Nat → Bool) (m : Nat) : Nat → Nat → Int32
  | 0, d => bj (P 0 d)
  | c + 1, d => bj (P (c + 1) d) * jS (fun e => bj (adj d e) * wF P adj m c e) m
/-- from the end, j chambers on: how many ways lead from a depth of the chamber c to the last one -/
noncomputable def wU (P adj : Nat → Nat → Bool) (m : Nat) : Nat → Nat → Nat → Int32
  | 0, _, _ => 1
  | j + 1, c, d => jS (fun e => bj (adj e d) * (bj (P (c + 1) e) * wU P adj m j (c + 1) e)) m
theorem wFU {P adj : Nat → Nat → Bool} {m : Nat} : ∀ j c, jS (fun d => wF P adj m c d * wU P adj m j c d) m = jS (fun d => wF P adj m (c + j) d) m
  | 0, c => jS_ext (fun d _ => by
    show wF P adj m c d * 1 = wF P adj m (c + 0) d
    exact Int32.mul_one _)
  | j + 1, c => by
    rw [show c + (j + 1) = (c + 1) + j by omega, ← wFU j (c + 1)]
    have h1 : ∀ d, d < m → wF P adj m c d * wU P adj m (j + 1) c d = jS (fun e => bj (P (c + 1) e) * (bj (adj e d) * wF P adj m c d) * wU P adj m j (c + 1) e) m := fun d _ => by
      show wF P adj m c d * jS (fun e => bj (adj e d) * (bj (P (c + 1) e) * wU P adj m j (c + 1) e)) m = _
      rw [← jS_mul]
      apply jS_ext
      intro e _
      cases adj e d <;> cases P (c + 1) e <;> simp only [bj_mul, Bool.false_eq_true, reduceIte, Int32.mul_zero, Int32.zero_mul]
    have h2 : ∀ e, e < m → wF P adj m (c + 1) e * wU P adj m j (c + 1) e = jS (fun d => bj (P (c + 1) e) * (bj (adj e d) * wF P adj m c d) * wU P adj m j (c + 1) e) m := fun e _ => by
      show bj (P (c + 1) e) * jS (fun d => bj (adj e d) * wF P adj m c d) m * wU P adj m j (c + 1) e = _
      rw [Int32.mul_assoc, Int32.mul_comm (jS _ m), ← Int32.mul_assoc, ← jS_mul]
      apply jS_ext
      intro d _
      rw [Int32.mul_assoc (bj (P (c + 1) e)) _ (wU P adj m j (c + 1) e), Int32.mul_assoc (bj (P (c + 1) e)) (wU P adj m j (c + 1) e), Int32.mul_comm (wU P adj m j (c + 1) e)]
    rw [jS_ext h1, jS_swap, jS_ext h2]
/-- both counts are one -/
theorem w_both {P adj : Nat → Nat → Bool} {m : Nat} (j : Nat) : jS (fun d => bj (P 0 d) * wU P adj m j 0 d) m = jS (fun d => wF P adj m j d) m := by
  have := wFU (P := P) (adj := adj) (m := m) j 0
  rw [Nat.zero_add] at this
  exact this
theorem le_oN {x : Int32} {j : Nat} (hj : j < 2147483648) : x ≤ Int32.ofNat j ↔ x.toNatClampNeg ≤ j := by
  rw [Int32.le_iff_toInt_le, ofN_toInt hj]
  have e : x.toNatClampNeg = x.toInt.toNat := rfl
  omega
/-- the distance of two numbers is at most a limit -/
noncomputable def adjL (lim x y : Int32) : Bool := decide (¬ lim < (if 0 ≤ x - y then x - y else 0 - (x - y)))
/-- the ways on from a depth, by the ways of the next chamber -/
noncomputable def wOn (I : Nat → Nat → Int32) (c d lim : Int32) (e : Nat) : Int32 := bj (adjL lim (Int32.ofNat e) d) * I (3 + (c + 1).toNatClampNeg) e
theorem nn_lt (x : Int32) : x.toNatClampNeg < 2147483648 := by
  have e : x.toNatClampNeg = x.toInt.toNat := rfl
  have := i32_rng x
  omega
theorem sem_36 {I : Nat → Nat → Int32} {c d lim : Int32} : ∀ n j r, j ≤ (I 1 2).toNatClampNeg → F_36 I n 18 c d lim (jS (wOn I c d lim) j) (Int32.ofNat j) = some r → r = jS (wOn I c d lim) (I 1 2).toNatClampNeg
  | 0, _, _, _, h => by cases h
  | n + 1, j, r, hj, h => by
    have bm := nn_lt (I 1 2)
    simp only [F_36, reduceIte] at h
    by_cases hq : I 1 2 ≤ Int32.ofNat j
    · rw [if_pos hq] at h
      cases h
      have := (le_oN (by omega)).mp hq
      rw [show j = (I 1 2).toNatClampNeg by omega]
    · rw [if_neg hq, ofN_clamp (by omega), oN_s] at h
      have hl : j < (I 1 2).toNatClampNeg := by
        have := mt (le_oN (by omega)).mpr hq
        omega
      have e : jS (wOn I c d lim) (j + 1) = jS (wOn I c d lim) j + wOn I c d lim j := rfl
      by_cases hp : lim < (if 0 ≤ Int32.ofNat j - d then Int32.ofNat j - d else 0 - (Int32.ofNat j - d))
      · rw [if_pos hp] at h
        refine sem_36 n (j + 1) r hl ?_
        rw [e, show wOn I c d lim j = 0 by unfold wOn adjL; rw [decide_eq_false (fun q => q hp), bj_mul]; rfl, Int32.add_zero]
        exact h
      · rw [if_neg hp] at h
        refine sem_36 n (j + 1) r hl ?_
        rw [e, show wOn I c d lim j = I (3 + (c + 1).toNatClampNeg) j by unfold wOn adjL; rw [decide_eq_true hp, bj_mul]; rfl]
        exact h
noncomputable def wOnS (I : Nat → Nat → Int32) (c d lim : Int32) : Int32 := if c < I 1 1 - 1 then jS (wOn I c d lim) (I 1 2).toNatClampNeg else 1
theorem sp_36 {h : sH} {r : sR} {c d lim : Int32} {I : Nat → Nat → Int32} {L : Nat → Nat → Int64} {R : Nat → Nat} (th : qH h I L R) (g : qGo 36 [.ref (1), .int c, .int d, .int lim] h r) : r = (.inl (some (.int (wOnS I c d lim))), h) := by
  refine qg_36 (Q := fun r => r = _) th g (fun c1 N lv hl => ?_) (fun c1 => ?_)
  · refine qW_mono ?_ (fl_36 N c d lim 0 0 lv h th hl)
    intro r ⟨n, x, e, q⟩
    have := sem_36 n 0 x (Nat.zero_le _) e
    rw [q, this]; unfold wOnS; rw [if_pos c1]
  · show _ = _
    unfold wOnS; rw [if_neg c1]
noncomputable def inB (I : Nat → Nat → Int32) (k : Int32) : Bool := (List.range (I 85 31).toNatClampNeg).all (fun c => hs (I 106 c) (I 86 ((6 : Int32) * k + Int32.ofNat c).toNatClampNeg))
noncomputable def comesB (I : Nat → Nat → Int32) (d k : Int32) : Bool := decide ((I 95 k.toNatClampNeg &&& I 97 d.toNatClampNeg) = 0) && inB I k
theorem sem_233b {I : Nat → Nat → Int32} {k : Int32} : ∀ n c r, c ≤ (I 85 31).toNatClampNeg → (∀ e, e < c → hs (I 106 e) (I 86 ((6 : Int32) * k + Int32.ofNat e).toNatClampNeg) = true) → F_233 I n 20 k (Int32.ofNat c) = some r → r = b2 (inB I k = true)
  | 0, _, _, _, _, h => by cases h
  | n + 1, c, r, hcn, ha, h => by
    have bm := nn_lt (I 85 31)
    simp only [F_233, reduceIte] at h
    by_cases hq : I 85 31 ≤ Int32.ofNat c
    · rw [if_pos hq] at h
      cases h
      have := (le_oN (by omega)).mp hq
      rw [b2_t]
      exact List.all_eq_true.mpr (fun e he => ha e (by have := List.mem_range.mp he; omega))
    · rw [if_neg hq, ofN_clamp (by omega), oN_s] at h
      have := mt (le_oN (by omega)).mpr hq
      by_cases hb : hs (I 106 c) (I 86 ((6 : Int32) * k + Int32.ofNat c).toNatClampNeg) = true
      · rw [if_pos hb] at h
        refine sem_233b n (c + 1) r (by omega) (fun e he => ?_) h
        by_cases e2 : e = c
        · rw [e2]; exact hb
        · exact ha e (by omega)
      · rw [if_neg hb] at h
        cases h
        rw [b2_f]
        exact fun q => hb (List.all_eq_true.mp q c (List.mem_range.mpr (by omega)))
theorem sp_233 {h : sH} {r : sR} {d k : Int32} {I : Nat → Nat → Int32} {L : Nat → Nat → Int64} {R : Nat → Nat} (th : qH h I L R) (g : qGo 233 [.ref (85), .int d, .int k] h r) : r = (.inl (some (.int (b2 (comesB I d k = true)))), h) := by
  refine qg_233 (Q := fun r => r = _) th g (fun _ _ c1 N lv hl => ?_) (fun _ _ c1 => ?_)
  · refine qW_mono ?_ (fl_233 N k 0 lv h th hl)
    intro r ⟨n, x, e, q⟩
    have := sem_233b n 0 x (Nat.zero_le _) (fun e he => absurd he (Nat.not_lt_zero e)) e
    rw [q, this]; unfold comesB; rw [decide_eq_true c1, Bool.true_and]
  · show _ = _
    unfold comesB; rw [decide_eq_false c1, Bool.false_and]; rfl
noncomputable def layP (I : Nat → Nat → Int32) (d : Int32) (J : Nat → Nat → Int32) : Prop := ∀ dn nk nc, d = Int32.ofNat dn → dn < 32 → I 85 35 = Int32.ofNat nk → I 85 31 = Int32.ofNat nc → nk ≤ 16 → nc ≤ 6 → (∀ k c, k < nk → c < nc → ∃ e, e < 8 ∧ I 86 (6 * k + c) = Int32.ofNat e) → agr 106 J I ∧ pinM I dn nk nc nk 0 J
theorem sp_229 {h : sH} {r : sR} {d : Int32} {I : Nat → Nat → Int32} {L : Nat → Nat → Int64} {R : Nat → Nat} (th : qH h I L R) (g : qGo 229 [.ref (85), .int d] h r) : ∃ J h1, r = (.inl none, h1) ∧ qH h1 J L R ∧ layP I d J := by
  refine qg_229 (Q := fun r => ∃ J h1, r = (.inl none, h1) ∧ qH h1 J L R ∧ layP I d J) g (fun N lv hl => ?_)
  refine qW_mono ?_ ((fl_229 N).1 I d 0 0 lv h th hl)
  intro r ⟨n, x, e, h1, q1, q2⟩
  refine ⟨x.2, h1, q1, q2, ?_⟩
  intro dn nk nc e1 hd hk hc bk bc bd
  subst e1
  exact (sem_229 hd hk hc bk bc bd n).1 I 0 0 x (fun _ _ _ => rfl) (fun c hc => absurd hc (Nat.not_lt_zero c)) (Nat.zero_le _) e
end
section
/-! part 55: ways on both sides (printed by wip/q/mk55.py, 55c, 55d) -/
theorem qg_212 {h : sH} {r : sR} {Q : sR → Prop} {I : Nat → Nat → Int32} {L : Nat → Nat → Int64} {R : Nat → Nat} (th : qH h I L R) (g : qGo 212 [.ref (85)] h r)
    (p1 : ∀ (o1 : Nat), ∀ (h2 : sH), ∀ (y3 : o1 = h.length), ∀ (y4 : 119 ≤ o1), ∀ (y5 : h2.length = h.length + 1), ∀ (y6 : ∀ f, I o1 f = 0), ∀ (t7 : qH h2 I L R), ∀ (o10 : Nat), ∀ (h11 : sH), ∀ (y12 : o10 = h2.length), ∀ (y13 : 119 ≤ o10), ∀ (y14 : h11.length = h2.length + 1), ∀ (y15 : ∀ f, I o10 f = 0), ∀ (t16 : qH h11 I L R), ∀ N lv, qLs lv [some (.ref (85)), some (.ref (o1)), some (.ref (o10)), some (.int ((0 : Int32))), none, none] → qW 212 N 12 lv [] h11 Q) : Q r := by
  refine qGo_w g (fun N => ?_)
  have hl0 : qLs (lv_args 0 [.ref (85)]) [some (.ref (85)), none, none, none, none, none] := qLs_ar 5
  refine q_bipush (show mE (mtv 212) 0 = some (.bipush 6, 2, 0, 0) from rfl) kB_6 ?_
  refine q_newarray th (show mE (mtv 212) 2 = some (.newarray .int, 2, 0, 0) from rfl) (by decide) (fun o1 h2 y3 y4 y5 y6 t7 => ?_)
  refine q_astore_n (show mE (mtv 212) 4 = some (.astore_n 1, 1, 0, 0) from rfl) (Nat.le_of_ble_eq_true rfl) hl0 (fun lv8 (hl9 : qLs lv8 [some (.ref (85)), some (.ref (o1)), none, none, none, none]) => ?_)
  refine q_bipush (show mE (mtv 212) 5 = some (.bipush 6, 2, 0, 0) from rfl) kB_6 ?_
  refine q_newarray t7 (show mE (mtv 212) 7 = some (.newarray .int, 2, 0, 0) from rfl) (by decide) (fun o10 h11 y12 y13 y14 y15 t16 => ?_)
  refine q_astore_n (show mE (mtv 212) 9 = some (.astore_n 2, 1, 0, 0) from rfl) (Nat.le_of_ble_eq_true rfl) hl9 (fun lv17 (hl18 : qLs lv17 [some (.ref (85)), some (.ref (o1)), some (.ref (o10)), none, none, none]) => ?_)
  refine q_iconst (show mE (mtv 212) 10 = some (.iconst 0, 1, 0, 0) from rfl) kI_0 ?_
  refine q_istore_n (show mE (mtv 212) 11 = some (.istore_n 3, 1, 0, 0) from rfl) (Nat.le_of_ble_eq_true rfl) hl18 (fun lv19 (hl20 : qLs lv19 [some (.ref (85)), some (.ref (o1)), some (.ref (o10)), some (.int ((0 : Int32))), none, none]) => ?_)
  exact p1 o1 h2 y3 y4 y5 y6 t7 o10 h11 y12 y13 y14 y15 t16 _ lv19 (qLs_wk hl20 (⟨rfl, rfl, rfl, rfl, trivial⟩))
theorem qg_212_12 {N : Nat} {lv : sL} {h : sH} {Q : sR → Prop} {x1 : Nat} {x2 : Nat} {x3 : Int32} {I : Nat → Nat → Int32} {L : Nat → Nat → Int64} {R : Nat → Nat} (th : qH h I L R) (hx1 : 119 ≤ x1) (hx2 : 119 ≤ x2) (hl : qLs lv [some (.ref (85)), some (.ref (x1)), some (.ref (x2)), some (.int (x3)), none, none])
    (p1 : ∀ (c1 : (I 85 32) ≤ x3), ∀ lv, qLs lv [some (.ref (85)), some (.ref (x1)), some (.ref (x2)), some (.int ((1 : Int32))), none, none] → qW 212 N 41 lv [] h Q)
    (p2 : ∀ (c1 : ¬ (I 85 32) ≤ x3), ∀ (bb4 : sIn (0 : Int32) 6 = true), ∀ (bb5 : sIn x3 6 = true), ∀ (h6 : sH), ∀ (t7 : qH h6 (upI I x1 ((x3).toNatClampNeg) (b2 (hs (I 106 (((0 : Int32)).toNatClampNeg)) x3 = true))) L R), ∀ lv, qLs lv [some (.ref (85)), some (.ref (x1)), some (.ref (x2)), some (.int (x3 + (1 : Int32))), none, none] → qW 212 N 12 lv [] h6 Q) : qW 212 (N + 1) 12 lv [] h Q := by
  refine q1_iload_n (show mE (mtv 212) 12 = some (.iload_n 3, 1, 0, 0) from rfl) (hl 3 _ rfl) ?_
  refine q_aload_n (show mE (mtv 212) 13 = some (.aload_n 0, 1, 0, 0) from rfl) (hl 0 _ rfl) ?_
  refine q_getI th (show mE (mtv 212) 14 = some (.getfield 108, 3, 9, 32) from rfl) (by decide) rfl ?_
  refine q_ic_ge (t := 39) (show mE (mtv 212) 17 = some (.if_icmp .ge 22, 3, 0, 0) from rfl) rfl (fun c1 => ?_) (fun c1 => ?_)
  · refine q_iconst (show mE (mtv 212) 39 = some (.iconst 1, 1, 0, 0) from rfl) kI_1 ?_
    refine q_istore_n (show mE (mtv 212) 40 = some (.istore_n 3, 1, 0, 0) from rfl) (Nat.le_of_ble_eq_true rfl) hl (fun lv2 (hl3 : qLs lv2 [some (.ref (85)), some (.ref (x1)), some (.ref (x2)), some (.int ((1 : Int32))), none, none]) => ?_)
    exact p1 c1 lv2 (qLs_wk hl3 (⟨rfl, rfl, rfl, rfl, trivial⟩))
  · refine q_aload_n (show mE (mtv 212) 20 = some (.aload_n 1, 1, 0, 0) from rfl) (hl 1 _ rfl) ?_
    refine q_iload_n (show mE (mtv 212) 21 = some (.iload_n 3, 1, 0, 0) from rfl) (hl 3 _ rfl) ?_
    refine q_aload_n (show mE (mtv 212) 22 = some (.aload_n 0, 1, 0, 0) from rfl) (hl 0 _ rfl) ?_
    refine q_getR (m := 106) th (show mE (mtv 212) 23 = some (.getfield 71, 3, 9, 20) from rfl) (by decide) rfl rfl ?_
    refine q_iconst (show mE (mtv 212) 26 = some (.iconst 0, 1, 0, 0) from rfl) kI_0 ?_
    refine q_iaload (n := 6) th (show mE (mtv 212) 27 = some (.iaload, 1, 0, 0) from rfl) (by decide) rfl (fun bb4 => ?_)
    refine q_iload_n (show mE (mtv 212) 28 = some (.iload_n 3, 1, 0, 0) from rfl) (hl 3 _ rfl) ?_
    refine q_ishr (show mE (mtv 212) 29 = some (.ishr, 1, 0, 0) from rfl) ?_
    refine q_iconst (show mE (mtv 212) 30 = some (.iconst 1, 1, 0, 0) from rfl) kI_1 ?_
    refine q_iand (show mE (mtv 212) 31 = some (.iand, 1, 0, 0) from rfl) ?_
    rw [hs_is]
    refine q_iastoreN th (show mE (mtv 212) 32 = some (.iastore, 1, 0, 0) from rfl) hx1 (fun bb5 h6 t7 => ?_)
    refine q_iinc (show mE (mtv 212) 33 = some (.iinc 3 1, 3, 0, 0) from rfl) (Nat.le_of_ble_eq_true rfl) hl (hl 3 _ rfl) kI_1 (fun lv8 (hl9 : qLs lv8 [some (.ref (85)), some (.ref (x1)), some (.ref (x2)), some (.int (x3 + (1 : Int32))), none, none]) => ?_)
    refine q_goto (t := 12) (show mE (mtv 212) 36 = some (.goto (-24), 3, 0, 0) from rfl) rfl ?_
    exact p2 c1 bb4 bb5 h6 t7 lv8 (qLs_wk hl9 (⟨rfl, rfl, rfl, rfl, trivial⟩))
theorem qg_212_41 {N : Nat} {lv : sL} {h : sH} {Q : sR → Prop} {x1 : Nat} {x2 : Nat} {x3 : Int32} {I : Nat → Nat → Int32} {L : Nat → Nat → Int64} {R : Nat → Nat} (th : qH h I L R) (hx1 : 119 ≤ x1) (hx2 : 119 ≤ x2) (hl : qLs lv [some (.ref (85)), some (.ref (x1)), some (.ref (x2)), some (.int (x3)), none, none])
    (p1 : ∀ (c1 : (I 85 31) ≤ x3), ∀ lv, qLs lv [some (.ref (85)), some (.ref (x1)), none, some (.int ((0 : Int32))), some (.int ((0 : Int32))), none] → qW 212 N 172 lv [] h Q)
    (p2 : ∀ (c1 : ¬ (I 85 31) ≤ x3), ∀ lv, qLs lv [some (.ref (85)), some (.ref (x1)), some (.ref (x2)), some (.int (x3)), some (.int ((0 : Int32))), none] → qW 212 N 52 lv [] h Q) : qW 212 (N + 1) 41 lv [] h Q := by
  refine q1_iload_n (show mE (mtv 212) 41 = some (.iload_n 3, 1, 0, 0) from rfl) (hl 3 _ rfl) ?_
  refine q_aload_n (show mE (mtv 212) 42 = some (.aload_n 0, 1, 0, 0) from rfl) (hl 0 _ rfl) ?_
  refine q_getI th (show mE (mtv 212) 43 = some (.getfield 104, 3, 9, 31) from rfl) (by decide) rfl ?_
  refine q_ic_ge (t := 167) (show mE (mtv 212) 46 = some (.if_icmp .ge 121, 3, 0, 0) from rfl) rfl (fun c1 => ?_) (fun c1 => ?_)
  · refine q_iconst (show mE (mtv 212) 167 = some (.iconst 0, 1, 0, 0) from rfl) kI_0 ?_
    refine q_istore_n (show mE (mtv 212) 168 = some (.istore_n 3, 1, 0, 0) from rfl) (Nat.le_of_ble_eq_true rfl) hl (fun lv2 (hl3 : qLs lv2 [some (.ref (85)), some (.ref (x1)), some (.ref (x2)), some (.int ((0 : Int32))), none, none]) => ?_)
    refine q_iconst (show mE (mtv 212) 169 = some (.iconst 0, 1, 0, 0) from rfl) kI_0 ?_
    refine q_istore (show mE (mtv 212) 170 = some (.istore 4, 2, 0, 0) from rfl) (Nat.le_of_ble_eq_true rfl) hl3 (fun lv4 (hl5 : qLs lv4 [some (.ref (85)), some (.ref (x1)), some (.ref (x2)), some (.int ((0 : Int32))), some (.int ((0 : Int32))), none]) => ?_)
    exact p1 c1 lv4 (qLs_wk hl5 (⟨rfl, rfl, rfl, rfl, trivial⟩))
  · refine q_iconst (show mE (mtv 212) 49 = some (.iconst 0, 1, 0, 0) from rfl) kI_0 ?_
    refine q_istore (show mE (mtv 212) 50 = some (.istore 4, 2, 0, 0) from rfl) (Nat.le_of_ble_eq_true rfl) hl (fun lv6 (hl7 : qLs lv6 [some (.ref (85)), some (.ref (x1)), some (.ref (x2)), some (.int (x3)), some (.int ((0 : Int32))), none]) => ?_)
    exact p2 c1 lv6 (qLs_wk hl7 (⟨rfl, rfl, rfl, rfl, rfl, trivial⟩))
theorem qg_212_52 {N : Nat} {lv : sL} {h : sH} {Q : sR → Prop} {x1 : Nat} {x2 : Nat} {x3 : Int32} {x4 : Int32} {I : Nat → Nat → Int32} {L : Nat → Nat → Int64} {R : Nat → Nat} (th : qH h I L R) (hx1 : 119 ≤ x1) (hx2 : 119 ≤ x2) (hl : qLs lv [some (.ref (85)), some (.ref (x1)), some (.ref (x2)), some (.int (x3)), some (.int (x4)), none])
    (p1 : ∀ (c1 : (I 85 32) ≤ x4), ∀ lv, qLs lv [some (.ref (85)), some (.ref (x1)), some (.ref (x2)), some (.int (x3)), some (.int ((0 : Int32))), none] → qW 212 N 138 lv [] h Q)
    (p2 : ∀ (c1 : ¬ (I 85 32) ≤ x4), ∀ (bb4 : sIn x4 6 = true), ∀ (h5 : sH), ∀ (t6 : qH h5 (upI I x2 ((x4).toNatClampNeg) (0 : Int32)) L R), ∀ lv, qLs lv [some (.ref (85)), some (.ref (x1)), some (.ref (x2)), some (.int (x3)), some (.int (x4)), some (.int ((0 : Int32)))] → qW 212 N 69 lv [] h5 Q) : qW 212 (N + 1) 52 lv [] h Q := by
  refine q1_iload (show mE (mtv 212) 52 = some (.iload 4, 2, 0, 0) from rfl) (hl 4 _ rfl) ?_
  refine q_aload_n (show mE (mtv 212) 54 = some (.aload_n 0, 1, 0, 0) from rfl) (hl 0 _ rfl) ?_
  refine q_getI th (show mE (mtv 212) 55 = some (.getfield 108, 3, 9, 32) from rfl) (by decide) rfl ?_
  refine q_ic_ge (t := 135) (show mE (mtv 212) 58 = some (.if_icmp .ge 77, 3, 0, 0) from rfl) rfl (fun c1 => ?_) (fun c1 => ?_)
  · refine q_iconst (show mE (mtv 212) 135 = some (.iconst 0, 1, 0, 0) from rfl) kI_0 ?_
    refine q_istore (show mE (mtv 212) 136 = some (.istore 4, 2, 0, 0) from rfl) (Nat.le_of_ble_eq_true rfl) hl (fun lv2 (hl3 : qLs lv2 [some (.ref (85)), some (.ref (x1)), some (.ref (x2)), some (.int (x3)), some (.int ((0 : Int32))), none]) => ?_)
    exact p1 c1 lv2 (qLs_wk hl3 (⟨rfl, rfl, rfl, rfl, rfl, trivial⟩))
  · refine q_aload_n (show mE (mtv 212) 61 = some (.aload_n 2, 1, 0, 0) from rfl) (hl 2 _ rfl) ?_
    refine q_iload (show mE (mtv 212) 62 = some (.iload 4, 2, 0, 0) from rfl) (hl 4 _ rfl) ?_
    refine q_iconst (show mE (mtv 212) 64 = some (.iconst 0, 1, 0, 0) from rfl) kI_0 ?_
    refine q_iastoreN th (show mE (mtv 212) 65 = some (.iastore, 1, 0, 0) from rfl) hx2 (fun bb4 h5 t6 => ?_)
    refine q_iconst (show mE (mtv 212) 66 = some (.iconst 0, 1, 0, 0) from rfl) kI_0 ?_
    refine q_istore (show mE (mtv 212) 67 = some (.istore 5, 2, 0, 0) from rfl) (Nat.le_of_ble_eq_true rfl) hl (fun lv7 (hl8 : qLs lv7 [some (.ref (85)), some (.ref (x1)), some (.ref (x2)), some (.int (x3)), some (.int (x4)), some (.int ((0 : Int32)))]) => ?_)
    exact p2 c1 bb4 h5 t6 lv7 (qLs_wk hl8 (⟨rfl, rfl, rfl, rfl, rfl, rfl, trivial⟩))
theorem qg_212_69 {N : Nat} {lv : sL} {h : sH} {Q : sR → Prop} {x1 : Nat} {x2 : Nat} {x3 : Int32} {x4 : Int32} {x5 : Int32} {I : Nat → Nat → Int32} {L : Nat → Nat → Int64} {R : Nat → Nat} (th : qH h I L R) (hx1 : 119 ≤ x1) (hx2 : 119 ≤ x2) (hl : qLs lv [some (.ref (85)), some (.ref (x1)), some (.ref (x2)), some (.int (x3)), some (.int (x4)), some (.int (x5))])
    (p1 : ∀ (c1 : (I 85 32) ≤ x5), ∀ lv, qLs lv [some (.ref (85)), some (.ref (x1)), some (.ref (x2)), some (.int (x3)), some (.int (x4 + (1 : Int32))), none] → qW 212 N 52 lv [] h Q)
    (p2 : ∀ (c1 : ¬ (I 85 32) ≤ x5), ∀ (bb4 : sIn x4 6 = true), ∀ (c5 : (I 85 33) < (T_213 (x4 - x5))), ∀ (h7 : sH), ∀ (t8 : qH h7 (upI I x2 ((x4).toNatClampNeg) ((I x2 ((x4).toNatClampNeg)) + (0 : Int32))) L R), ∀ lv, qLs lv [some (.ref (85)), some (.ref (x1)), some (.ref (x2)), some (.int (x3)), some (.int (x4)), some (.int (x5 + (1 : Int32)))] → qW 212 N 69 lv [] h7 Q)
    (p3 : ∀ (c1 : ¬ (I 85 32) ≤ x5), ∀ (bb4 : sIn x4 6 = true), ∀ (c5 : ¬ (I 85 33) < (T_213 (x4 - x5))), ∀ (bb11 : sIn x3 6 = true), ∀ (c12 : ¬ (hs (I 106 ((x3).toNatClampNeg)) x4 = true)), ∀ (h14 : sH), ∀ (t15 : qH h14 (upI I x2 ((x4).toNatClampNeg) ((I x2 ((x4).toNatClampNeg)) + (0 : Int32))) L R), ∀ lv, qLs lv [some (.ref (85)), some (.ref (x1)), some (.ref (x2)), some (.int (x3)), some (.int (x4)), some (.int (x5 + (1 : Int32)))] → qW 212 N 69 lv [] h14 Q)
    (p4 : ∀ (c1 : ¬ (I 85 32) ≤ x5), ∀ (bb4 : sIn x4 6 = true), ∀ (c5 : ¬ (I 85 33) < (T_213 (x4 - x5))), ∀ (bb11 : sIn x3 6 = true), ∀ (c12 : hs (I 106 ((x3).toNatClampNeg)) x4 = true), ∀ (bb18 : sIn x5 6 = true), ∀ (h20 : sH), ∀ (t21 : qH h20 (upI I x2 ((x4).toNatClampNeg) ((I x2 ((x4).toNatClampNeg)) + (I x1 ((x5).toNatClampNeg)))) L R), ∀ lv, qLs lv [some (.ref (85)), some (.ref (x1)), some (.ref (x2)), some (.int (x3)), some (.int (x4)), some (.int (x5 + (1 : Int32)))] → qW 212 N 69 lv [] h20 Q) : qW 212 (N + 1) 69 lv [] h Q := by
  refine q1_iload (show mE (mtv 212) 69 = some (.iload 5, 2, 0, 0) from rfl) (hl 5 _ rfl) ?_
  refine q_aload_n (show mE (mtv 212) 71 = some (.aload_n 0, 1, 0, 0) from rfl) (hl 0 _ rfl) ?_
  refine q_getI th (show mE (mtv 212) 72 = some (.getfield 108, 3, 9, 32) from rfl) (by decide) rfl ?_
  refine q_ic_ge (t := 129) (show mE (mtv 212) 75 = some (.if_icmp .ge 54, 3, 0, 0) from rfl) rfl (fun c1 => ?_) (fun c1 => ?_)
  · refine q_iinc (show mE (mtv 212) 129 = some (.iinc 4 1, 3, 0, 0) from rfl) (Nat.le_of_ble_eq_true rfl) hl (hl 4 _ rfl) kI_1 (fun lv2 (hl3 : qLs lv2 [some (.ref (85)), some (.ref (x1)), some (.ref (x2)), some (.int (x3)), some (.int (x4 + (1 : Int32))), some (.int (x5))]) => ?_)
    refine q_goto (t := 52) (show mE (mtv 212) 132 = some (.goto (-80), 3, 0, 0) from rfl) rfl ?_
    exact p1 c1 lv2 (qLs_wk hl3 (⟨rfl, rfl, rfl, rfl, rfl, trivial⟩))
  · refine q_aload_n (show mE (mtv 212) 78 = some (.aload_n 2, 1, 0, 0) from rfl) (hl 2 _ rfl) ?_
    refine q_iload (show mE (mtv 212) 79 = some (.iload 4, 2, 0, 0) from rfl) (hl 4 _ rfl) ?_
    refine q_dup2 (show mE (mtv 212) 81 = some (.dup2, 1, 0, 0) from rfl) ?_
    refine q_ialoadN th (show mE (mtv 212) 82 = some (.iaload, 1, 0, 0) from rfl) hx2 (fun bb4 => ?_)
    refine q_iload (show mE (mtv 212) 83 = some (.iload 4, 2, 0, 0) from rfl) (hl 4 _ rfl) ?_
    refine q_iload (show mE (mtv 212) 85 = some (.iload 5, 2, 0, 0) from rfl) (hl 5 _ rfl) ?_
    refine q_isub (show mE (mtv 212) 87 = some (.isub, 1, 0, 0) from rfl) ?_
    refine q_staticP (show mE (mtv 212) 88 = some (.invokestatic 161, 3, 213, 0) from rfl) (by decide) rfl rfl rfl (fun _ g => sp_213 g) ?_
    refine q_aload_n (show mE (mtv 212) 91 = some (.aload_n 0, 1, 0, 0) from rfl) (hl 0 _ rfl) ?_
    refine q_getI th (show mE (mtv 212) 92 = some (.getfield 111, 3, 9, 33) from rfl) (by decide) rfl ?_
    refine q_ic_gt (t := 120) (show mE (mtv 212) 95 = some (.if_icmp .gt 25, 3, 0, 0) from rfl) rfl (fun c5 => ?_) (fun c5 => ?_)
    · refine q_iconst (show mE (mtv 212) 120 = some (.iconst 0, 1, 0, 0) from rfl) kI_0 ?_
      refine q_iadd (show mE (mtv 212) 121 = some (.iadd, 1, 0, 0) from rfl) ?_
      refine q_iastoreN th (show mE (mtv 212) 122 = some (.iastore, 1, 0, 0) from rfl) hx2 (fun bb6 h7 t8 => ?_)
      refine q_iinc (show mE (mtv 212) 123 = some (.iinc 5 1, 3, 0, 0) from rfl) (Nat.le_of_ble_eq_true rfl) hl (hl 5 _ rfl) kI_1 (fun lv9 (hl10 : qLs lv9 [some (.ref (85)), some (.ref (x1)), some (.ref (x2)), some (.int (x3)), some (.int (x4)), some (.int (x5 + (1 : Int32)))]) => ?_)
      refine q_goto (t := 69) (show mE (mtv 212) 126 = some (.goto (-57), 3, 0, 0) from rfl) rfl ?_
      exact p2 c1 bb4 c5 h7 t8 lv9 (qLs_wk hl10 (⟨rfl, rfl, rfl, rfl, rfl, rfl, trivial⟩))
    · refine q_aload_n (show mE (mtv 212) 98 = some (.aload_n 0, 1, 0, 0) from rfl) (hl 0 _ rfl) ?_
      refine q_getR (m := 106) th (show mE (mtv 212) 99 = some (.getfield 71, 3, 9, 20) from rfl) (by decide) rfl rfl ?_
      refine q_iload_n (show mE (mtv 212) 102 = some (.iload_n 3, 1, 0, 0) from rfl) (hl 3 _ rfl) ?_
      refine q_iaload (n := 6) th (show mE (mtv 212) 103 = some (.iaload, 1, 0, 0) from rfl) (by decide) rfl (fun bb11 => ?_)
      refine q_iload (show mE (mtv 212) 104 = some (.iload 4, 2, 0, 0) from rfl) (hl 4 _ rfl) ?_
      refine q_ishr (show mE (mtv 212) 106 = some (.ishr, 1, 0, 0) from rfl) ?_
      refine q_iconst (show mE (mtv 212) 107 = some (.iconst 1, 1, 0, 0) from rfl) kI_1 ?_
      refine q_iand (show mE (mtv 212) 108 = some (.iand, 1, 0, 0) from rfl) ?_
      rw [hs_is]
      refine q_iconst (show mE (mtv 212) 109 = some (.iconst 1, 1, 0, 0) from rfl) kI_1 ?_
      refine q_icb_ne (t := 120) (show mE (mtv 212) 110 = some (.if_icmp .ne 10, 3, 0, 0) from rfl) rfl (fun c12 => ?_) (fun c12 => ?_)
      · refine q_iconst (show mE (mtv 212) 120 = some (.iconst 0, 1, 0, 0) from rfl) kI_0 ?_
        refine q_iadd (show mE (mtv 212) 121 = some (.iadd, 1, 0, 0) from rfl) ?_
        refine q_iastoreN th (show mE (mtv 212) 122 = some (.iastore, 1, 0, 0) from rfl) hx2 (fun bb13 h14 t15 => ?_)
        refine q_iinc (show mE (mtv 212) 123 = some (.iinc 5 1, 3, 0, 0) from rfl) (Nat.le_of_ble_eq_true rfl) hl (hl 5 _ rfl) kI_1 (fun lv16 (hl17 : qLs lv16 [some (.ref (85)), some (.ref (x1)), some (.ref (x2)), some (.int (x3)), some (.int (x4)), some (.int (x5 + (1 : Int32)))]) => ?_)
        refine q_goto (t := 69) (show mE (mtv 212) 126 = some (.goto (-57), 3, 0, 0) from rfl) rfl ?_
        exact p3 c1 bb4 c5 bb11 c12 h14 t15 lv16 (qLs_wk hl17 (⟨rfl, rfl, rfl, rfl, rfl, rfl, trivial⟩))
      · refine q_aload_n (show mE (mtv 212) 113 = some (.aload_n 1, 1, 0, 0) from rfl) (hl 1 _ rfl) ?_
        refine q_iload (show mE (mtv 212) 114 = some (.iload 5, 2, 0, 0) from rfl) (hl 5 _ rfl) ?_
        refine q_ialoadN th (show mE (mtv 212) 116 = some (.iaload, 1, 0, 0) from rfl) hx1 (fun bb18 => ?_)
        refine q_goto (t := 121) (show mE (mtv 212) 117 = some (.goto 4, 3, 0, 0) from rfl) rfl ?_
        refine q_iadd (show mE (mtv 212) 121 = some (.iadd, 1, 0, 0) from rfl) ?_
        refine q_iastoreN th (show mE (mtv 212) 122 = some (.iastore, 1, 0, 0) from rfl) hx2 (fun bb19 h20 t21 => ?_)
        refine q_iinc (show mE (mtv 212) 123 = some (.iinc 5 1, 3, 0, 0) from rfl) (Nat.le_of_ble_eq_true rfl) hl (hl 5 _ rfl) kI_1 (fun lv22 (hl23 : qLs lv22 [some (.ref (85)), some (.ref (x1)), some (.ref (x2)), some (.int (x3)), some (.int (x4)), some (.int (x5 + (1 : Int32)))]) => ?_)
        refine q_goto (t := 69) (show mE (mtv 212) 126 = some (.goto (-57), 3, 0, 0) from rfl) rfl ?_
        exact p4 c1 bb4 c5 bb11 c12 bb18 h20 t21 lv22 (qLs_wk hl23 (⟨rfl, rfl, rfl, rfl, rfl, rfl, trivial⟩))
theorem qg_212_138 {N : Nat} {lv : sL} {h : sH} {Q : sR → Prop} {x1 : Nat} {x2 : Nat} {x3 : Int32} {x4 : Int32} {I : Nat → Nat → Int32} {L : Nat → Nat → Int64} {R : Nat → Nat} (th : qH h I L R) (hx1 : 119 ≤ x1) (hx2 : 119 ≤ x2) (hl : qLs lv [some (.ref (85)), some (.ref (x1)), some (.ref (x2)), some (.int (x3)), some (.int (x4)), none])
    (p1 : ∀ (c1 : (I 85 32) ≤ x4), ∀ lv, qLs lv [some (.ref (85)), some (.ref (x1)), some (.ref (x2)), some (.int (x3 + (1 : Int32))), none, none] → qW 212 N 41 lv [] h Q)
    (p2 : ∀ (c1 : ¬ (I 85 32) ≤ x4), ∀ (bb4 : sIn x4 6 = true), ∀ (h6 : sH), ∀ (t7 : qH h6 (upI I x1 ((x4).toNatClampNeg) (I x2 ((x4).toNatClampNeg))) L R), ∀ lv, qLs lv [some (.ref (85)), some (.ref (x1)), some (.ref (x2)), some (.int (x3)), some (.int (x4 + (1 : Int32))), none] → qW 212 N 138 lv [] h6 Q) : qW 212 (N + 1) 138 lv [] h Q := by
  refine q1_iload (show mE (mtv 212) 138 = some (.iload 4, 2, 0, 0) from rfl) (hl 4 _ rfl) ?_
  refine q_aload_n (show mE (mtv 212) 140 = some (.aload_n 0, 1, 0, 0) from rfl) (hl 0 _ rfl) ?_
  refine q_getI th (show mE (mtv 212) 141 = some (.getfield 108, 3, 9, 32) from rfl) (by decide) rfl ?_
  refine q_ic_ge (t := 161) (show mE (mtv 212) 144 = some (.if_icmp .ge 17, 3, 0, 0) from rfl) rfl (fun c1 => ?_) (fun c1 => ?_)
  · refine q_iinc (show mE (mtv 212) 161 = some (.iinc 3 1, 3, 0, 0) from rfl) (Nat.le_of_ble_eq_true rfl) hl (hl 3 _ rfl) kI_1 (fun lv2 (hl3 : qLs lv2 [some (.ref (85)), some (.ref (x1)), some (.ref (x2)), some (.int (x3 + (1 : Int32))), some (.int (x4)), none]) => ?_)
    refine q_goto (t := 41) (show mE (mtv 212) 164 = some (.goto (-123), 3, 0, 0) from rfl) rfl ?_
    exact p1 c1 lv2 (qLs_wk hl3 (⟨rfl, rfl, rfl, rfl, trivial⟩))
  · refine q_aload_n (show mE (mtv 212) 147 = some (.aload_n 1, 1, 0, 0) from rfl) (hl 1 _ rfl) ?_
    refine q_iload (show mE (mtv 212) 148 = some (.iload 4, 2, 0, 0) from rfl) (hl 4 _ rfl) ?_
    refine q_aload_n (show mE (mtv 212) 150 = some (.aload_n 2, 1, 0, 0) from rfl) (hl 2 _ rfl) ?_
    refine q_iload (show mE (mtv 212) 151 = some (.iload 4, 2, 0, 0) from rfl) (hl 4 _ rfl) ?_
    refine q_ialoadN th (show mE (mtv 212) 153 = some (.iaload, 1, 0, 0) from rfl) hx2 (fun bb4 => ?_)
    refine q_iastoreN th (show mE (mtv 212) 154 = some (.iastore, 1, 0, 0) from rfl) hx1 (fun bb5 h6 t7 => ?_)
    refine q_iinc (show mE (mtv 212) 155 = some (.iinc 4 1, 3, 0, 0) from rfl) (Nat.le_of_ble_eq_true rfl) hl (hl 4 _ rfl) kI_1 (fun lv8 (hl9 : qLs lv8 [some (.ref (85)), some (.ref (x1)), some (.ref (x2)), some (.int (x3)), some (.int (x4 + (1 : Int32))), none]) => ?_)
    refine q_goto (t := 138) (show mE (mtv 212) 158 = some (.goto (-20), 3, 0, 0) from rfl) rfl ?_
    exact p2 c1 bb4 h6 t7 lv8 (qLs_wk hl9 (⟨rfl, rfl, rfl, rfl, rfl, trivial⟩))
theorem qg_212_172 {N : Nat} {lv : sL} {h : sH} {Q : sR → Prop} {x1 : Nat} {x3 : Int32} {x4 : Int32} {I : Nat → Nat → Int32} {L : Nat → Nat → Int64} {R : Nat → Nat} (th : qH h I L R) (hx1 : 119 ≤ x1) (hl : qLs lv [some (.ref (85)), some (.ref (x1)), none, some (.int (x3)), some (.int (x4)), none])
    (p1 : ∀ (c1 : (I 85 32) ≤ x4), Q (.inl (some (.int (x3))), h))
    (p2 : ∀ (c1 : ¬ (I 85 32) ≤ x4), ∀ (bb2 : sIn x4 6 = true), ∀ lv, qLs lv [some (.ref (85)), some (.ref (x1)), none, some (.int (x3 + (I x1 ((x4).toNatClampNeg)))), some (.int (x4 + (1 : Int32))), none] → qW 212 N 172 lv [] h Q) : qW 212 (N + 1) 172 lv [] h Q := by
  refine q1_iload (show mE (mtv 212) 172 = some (.iload 4, 2, 0, 0) from rfl) (hl 4 _ rfl) ?_
  refine q_aload_n (show mE (mtv 212) 174 = some (.aload_n 0, 1, 0, 0) from rfl) (hl 0 _ rfl) ?_
  refine q_getI th (show mE (mtv 212) 175 = some (.getfield 108, 3, 9, 32) from rfl) (by decide) rfl ?_
  refine q_ic_ge (t := 194) (show mE (mtv 212) 178 = some (.if_icmp .ge 16, 3, 0, 0) from rfl) rfl (fun c1 => ?_) (fun c1 => ?_)
  · refine q_iload_n (show mE (mtv 212) 194 = some (.iload_n 3, 1, 0, 0) from rfl) (hl 3 _ rfl) ?_
    refine q_ireturn (show mE (mtv 212) 195 = some (.ireturn, 1, 0, 0) from rfl) ?_
    exact p1 c1
  · refine q_iload_n (show mE (mtv 212) 181 = some (.iload_n 3, 1, 0, 0) from rfl) (hl 3 _ rfl) ?_
    refine q_aload_n (show mE (mtv 212) 182 = some (.aload_n 1, 1, 0, 0) from rfl) (hl 1 _ rfl) ?_
    refine q_iload (show mE (mtv 212) 183 = some (.iload 4, 2, 0, 0) from rfl) (hl 4 _ rfl) ?_
    refine q_ialoadN th (show mE (mtv 212) 185 = some (.iaload, 1, 0, 0) from rfl) hx1 (fun bb2 => ?_)
    refine q_iadd (show mE (mtv 212) 186 = some (.iadd, 1, 0, 0) from rfl) ?_
    refine q_istore_n (show mE (mtv 212) 187 = some (.istore_n 3, 1, 0, 0) from rfl) (Nat.le_of_ble_eq_true rfl) hl (fun lv3 (hl4 : qLs lv3 [some (.ref (85)), some (.ref (x1)), none, some (.int (x3 + (I x1 ((x4).toNatClampNeg)))), some (.int (x4)), none]) => ?_)
    refine q_iinc (show mE (mtv 212) 188 = some (.iinc 4 1, 3, 0, 0) from rfl) (Nat.le_of_ble_eq_true rfl) hl4 (hl4 4 _ rfl) kI_1 (fun lv5 (hl6 : qLs lv5 [some (.ref (85)), some (.ref (x1)), none, some (.int (x3 + (I x1 ((x4).toNatClampNeg)))), some (.int (x4 + (1 : Int32))), none]) => ?_)
    refine q_goto (t := 172) (show mE (mtv 212) 191 = some (.goto (-19), 3, 0, 0) from rfl) rfl ?_
    exact p2 c1 bb2 lv5 (qLs_wk hl6 (⟨rfl, rfl, rfl, rfl, trivial⟩))
noncomputable def F_212 : Nat → Nat → (Nat → Nat → Int32) → Nat → Nat → Int32 → Int32 → Int32 → Option (Int32 × (Nat → Nat → Int32))
  | 0, _, _, _, _, _, _, _ => none
  | n + 1, t, I, x1, x2, x3, x4, x5 => if t = 12 then (if (I 85 32) ≤ x3 then F_212 n 41 I x1 x2 (1 : Int32) x4 x5 else (F_212 n 12 (upI I x1 ((x3).toNatClampNeg) (b2 (hs (I 106 (((0 : Int32)).toNatClampNeg)) x3 = true))) x1 x2 (x3 + (1 : Int32)) x4 x5)) else if t = 41 then (if (I 85 31) ≤ x3 then F_212 n 172 I x1 x2 (0 : Int32) (0 : Int32) x5 else (F_212 n 52 I x1 x2 x3 (0 : Int32) x5)) else if t = 52 then (if (I 85 32) ≤ x4 then F_212 n 138 I x1 x2 x3 (0 : Int32) x5 else (F_212 n 69 (upI I x2 ((x4).toNatClampNeg) (0 : Int32)) x1 x2 x3 x4 (0 : Int32))) else if t = 69 then (if (I 85 32) ≤ x5 then F_212 n 52 I x1 x2 x3 (x4 + (1 : Int32)) x5 else (if (I 85 33) < (T_213 (x4 - x5)) then F_212 n 69 (upI I x2 ((x4).toNatClampNeg) ((I x2 ((x4).toNatClampNeg)) + (0 : Int32))) x1 x2 x3 x4 (x5 + (1 : Int32)) else (if hs (I 106 ((x3).toNatClampNeg)) x4 = true then F_212 n 69 (upI I x2 ((x4).toNatClampNeg) ((I x2 ((x4).toNatClampNeg)) + (I x1 ((x5).toNatClampNeg)))) x1 x2 x3 x4 (x5 + (1 : Int32)) else (F_212 n 69 (upI I x2 ((x4).toNatClampNeg) ((I x2 ((x4).toNatClampNeg)) + (0 : Int32))) x1 x2 x3 x4 (x5 + (1 : Int32)))))) else if t = 138 then (if (I 85 32) ≤ x4 then F_212 n 41 I x1 x2 (x3 + (1 : Int32)) x4 x5 else (F_212 n 138 (upI I x1 ((x4).toNatClampNeg) (I x2 ((x4).toNatClampNeg))) x1 x2 x3 (x4 + (1 : Int32)) x5)) else if t = 172 then (if (I 85 32) ≤ x4 then some (x3, I) else (F_212 n 172 I x1 x2 (x3 + (I x1 ((x4).toNatClampNeg))) (x4 + (1 : Int32)) x5)) else none
theorem fl_212 {L : Nat → Nat → Int64} {R : Nat → Nat} : ∀ N : Nat, (∀ (I : Nat → Nat → Int32) (x1 : Nat) (x2 : Nat) (x3 : Int32) (x4 : Int32) (x5 : Int32) (hx1 : 119 ≤ x1) (hx2 : 119 ≤ x2) (lv : sL) (h : sH),  qH h I L R → qLs lv [some (.ref (85)), some (.ref (x1)), some (.ref (x2)), some (.int (x3)), none, none] → qW 212 N 12 lv [] h (fun r => ∃ n x, F_212 n 12 I x1 x2 x3 x4 x5 = some x ∧ ∃ h1, r = (.inl (some (.int x.1)), h1) ∧ qH h1 x.2 L R)) ∧ (∀ (I : Nat → Nat → Int32) (x1 : Nat) (x2 : Nat) (x3 : Int32) (x4 : Int32) (x5 : Int32) (hx1 : 119 ≤ x1) (hx2 : 119 ≤ x2) (lv : sL) (h : sH),  qH h I L R → qLs lv [some (.ref (85)), some (.ref (x1)), some (.ref (x2)), some (.int (x3)), none, none] → qW 212 N 41 lv [] h (fun r => ∃ n x, F_212 n 41 I x1 x2 x3 x4 x5 = some x ∧ ∃ h1, r = (.inl (some (.int x.1)), h1) ∧ qH h1 x.2 L R)) ∧ (∀ (I : Nat → Nat → Int32) (x1 : Nat) (x2 : Nat) (x3 : Int32) (x4 : Int32) (x5 : Int32) (hx1 : 119 ≤ x1) (hx2 : 119 ≤ x2) (lv : sL) (h : sH),  qH h I L R → qLs lv [some (.ref (85)), some (.ref (x1)), some (.ref (x2)), some (.int (x3)), some (.int (x4)), none] → qW 212 N 52 lv [] h (fun r => ∃ n x, F_212 n 52 I x1 x2 x3 x4 x5 = some x ∧ ∃ h1, r = (.inl (some (.int x.1)), h1) ∧ qH h1 x.2 L R)) ∧ (∀ (I : Nat → Nat → Int32) (x1 : Nat) (x2 : Nat) (x3 : Int32) (x4 : Int32) (x5 : Int32) (hx1 : 119 ≤ x1) (hx2 : 119 ≤ x2) (lv : sL) (h : sH),  qH h I L R → qLs lv [some (.ref (85)), some (.ref (x1)), some (.ref (x2)), some (.int (x3)), some (.int (x4)), some (.int (x5))] → qW 212 N 69 lv [] h (fun r => ∃ n x, F_212 n 69 I x1 x2 x3 x4 x5 = some x ∧ ∃ h1, r = (.inl (some (.int x.1)), h1) ∧ qH h1 x.2 L R)) ∧ (∀ (I : Nat → Nat → Int32) (x1 : Nat) (x2 : Nat) (x3 : Int32) (x4 : Int32) (x5 : Int32) (hx1 : 119 ≤ x1) (hx2 : 119 ≤ x2) (lv : sL) (h : sH),  qH h I L R → qLs lv [some (.ref (85)), some (.ref (x1)), some (.ref (x2)), some (.int (x3)), some (.int (x4)), none] → qW 212 N 138 lv [] h (fun r => ∃ n x, F_212 n 138 I x1 x2 x3 x4 x5 = some x ∧ ∃ h1, r = (.inl (some (.int x.1)), h1) ∧ qH h1 x.2 L R)) ∧ (∀ (I : Nat → Nat → Int32) (x1 : Nat) (x2 : Nat) (x3 : Int32) (x4 : Int32) (x5 : Int32) (hx1 : 119 ≤ x1) (lv : sL) (h : sH),  qH h I L R → qLs lv [some (.ref (85)), some (.ref (x1)), none, some (.int (x3)), some (.int (x4)), none] → qW 212 N 172 lv [] h (fun r => ∃ n x, F_212 n 172 I x1 x2 x3 x4 x5 = some x ∧ ∃ h1, r = (.inl (some (.int x.1)), h1) ∧ qH h1 x.2 L R)) := by
  intro N
  induction N with
  | zero => exact ⟨fun _ _ _ _ _ _ _ _ _ _ _ _ => qW_0, fun _ _ _ _ _ _ _ _ _ _ _ _ => qW_0, fun _ _ _ _ _ _ _ _ _ _ _ _ => qW_0, fun _ _ _ _ _ _ _ _ _ _ _ _ => qW_0, fun _ _ _ _ _ _ _ _ _ _ _ _ => qW_0, fun _ _ _ _ _ _ _ _ _ _ _ => qW_0⟩
  | succ N ih =>
    refine ⟨?_, ?_, ?_, ?_, ?_, ?_⟩
    · intro I x1 x2 x3 x4 x5 hx1 hx2 lv h th hl
      refine qg_212_12 th hx1 hx2 hl (fun c1 lv' hl' => ?_) (fun c1 bb4 bb5 h6 t7 lv' hl' => ?_)
      · refine qW_mono ?_ (ih.2.1 I x1 x2 (1 : Int32) x4 x5 hx1 hx2 lv' h th hl')
        intro r ⟨n, x, e, q⟩
        exact ⟨n + 1, x, by simp only [F_212, Nat.reduceEqDiff, reduceIte, if_pos c1]; exact e, q⟩
      · refine qW_mono ?_ (ih.1 (upI I x1 ((x3).toNatClampNeg) (b2 (hs (I 106 (((0 : Int32)).toNatClampNeg)) x3 = true))) x1 x2 (x3 + (1 : Int32)) x4 x5 hx1 hx2 lv' h6 t7 hl')
        intro r ⟨n, x, e, q⟩
        exact ⟨n + 1, x, by simp only [F_212, Nat.reduceEqDiff, reduceIte, if_neg c1]; exact e, q⟩
    · intro I x1 x2 x3 x4 x5 hx1 hx2 lv h th hl
      refine qg_212_41 th hx1 hx2 hl (fun c1 lv' hl' => ?_) (fun c1 lv' hl' => ?_)
      · refine qW_mono ?_ (ih.2.2.2.2.2 I x1 x2 (0 : Int32) (0 : Int32) x5 hx1 lv' h th hl')
        intro r ⟨n, x, e, q⟩
        exact ⟨n + 1, x, by simp only [F_212, Nat.reduceEqDiff, reduceIte, if_pos c1]; exact e, q⟩
      · refine qW_mono ?_ (ih.2.2.1 I x1 x2 x3 (0 : Int32) x5 hx1 hx2 lv' h th hl')
        intro r ⟨n, x, e, q⟩
        exact ⟨n + 1, x, by simp only [F_212, Nat.reduceEqDiff, reduceIte, if_neg c1]; exact e, q⟩
    · intro I x1 x2 x3 x4 x5 hx1 hx2 lv h th hl
      refine qg_212_52 th hx1 hx2 hl (fun c1 lv' hl' => ?_) (fun c1 bb4 h5 t6 lv' hl' => ?_)
      · refine qW_mono ?_ (ih.2.2.2.2.1 I x1 x2 x3 (0 : Int32) x5 hx1 hx2 lv' h th hl')
        intro r ⟨n, x, e, q⟩
        exact ⟨n + 1, x, by simp only [F_212, Nat.reduceEqDiff, reduceIte, if_pos c1]; exact e, q⟩
      · refine qW_mono ?_ (ih.2.2.2.1 (upI I x2 ((x4).toNatClampNeg) (0 : Int32)) x1 x2 x3 x4 (0 : Int32) hx1 hx2 lv' h5 t6 hl')
        intro r ⟨n, x, e, q⟩
        exact ⟨n + 1, x, by simp only [F_212, Nat.reduceEqDiff, reduceIte, if_neg c1]; exact e, q⟩
    · intro I x1 x2 x3 x4 x5 hx1 hx2 lv h th hl
      refine qg_212_69 th hx1 hx2 hl (fun c1 lv' hl' => ?_) (fun c1 bb4 c5 h7 t8 lv' hl' => ?_) (fun c1 bb4 c5 bb11 c12 h14 t15 lv' hl' => ?_) (fun c1 bb4 c5 bb11 c12 bb18 h20 t21 lv' hl' => ?_)
      · refine qW_mono ?_ (ih.2.2.1 I x1 x2 x3 (x4 + (1 : Int32)) x5 hx1 hx2 lv' h th hl')
        intro r ⟨n, x, e, q⟩
        exact ⟨n + 1, x, by simp only [F_212, Nat.reduceEqDiff, reduceIte, if_pos c1]; exact e, q⟩
      · refine qW_mono ?_ (ih.2.2.2.1 (upI I x2 ((x4).toNatClampNeg) ((I x2 ((x4).toNatClampNeg)) + (0 : Int32))) x1 x2 x3 x4 (x5 + (1 : Int32)) hx1 hx2 lv' h7 t8 hl')
        intro r ⟨n, x, e, q⟩
        exact ⟨n + 1, x, by simp only [F_212, Nat.reduceEqDiff, reduceIte, if_neg c1, if_pos c5]; exact e, q⟩
      · refine qW_mono ?_ (ih.2.2.2.1 (upI I x2 ((x4).toNatClampNeg) ((I x2 ((x4).toNatClampNeg)) + (0 : Int32))) x1 x2 x3 x4 (x5 + (1 : Int32)) hx1 hx2 lv' h14 t15 hl')
        intro r ⟨n, x, e, q⟩
        exact ⟨n + 1, x, by simp only [F_212, Nat.reduceEqDiff, reduceIte, if_neg c1, if_neg c5, if_neg c12]; exact e, q⟩
      · refine qW_mono ?_ (ih.2.2.2.1 (upI I x2 ((x4).toNatClampNeg) ((I x2 ((x4).toNatClampNeg)) + (I x1 ((x5).toNatClampNeg)))) x1 x2 x3 x4 (x5 + (1 : Int32)) hx1 hx2 lv' h20 t21 hl')
        intro r ⟨n, x, e, q⟩
        exact ⟨n + 1, x, by simp only [F_212, Nat.reduceEqDiff, reduceIte, if_neg c1, if_neg c5, if_pos c12]; exact e, q⟩
    · intro I x1 x2 x3 x4 x5 hx1 hx2 lv h th hl
      refine qg_212_138 th hx1 hx2 hl (fun c1 lv' hl' => ?_) (fun c1 bb4 h6 t7 lv' hl' => ?_)
      · refine qW_mono ?_ (ih.2.1 I x1 x2 (x3 + (1 : Int32)) x4 x5 hx1 hx2 lv' h th hl')
        intro r ⟨n, x, e, q⟩
        exact ⟨n + 1, x, by simp only [F_212, Nat.reduceEqDiff, reduceIte, if_pos c1]; exact e, q⟩
      · refine qW_mono ?_ (ih.2.2.2.2.1 (upI I x1 ((x4).toNatClampNeg) (I x2 ((x4).toNatClampNeg))) x1 x2 x3 (x4 + (1 : Int32)) x5 hx1 hx2 lv' h6 t7 hl')
        intro r ⟨n, x, e, q⟩
        exact ⟨n + 1, x, by simp only [F_212, Nat.reduceEqDiff, reduceIte, if_neg c1]; exact e, q⟩
    · intro I x1 x2 x3 x4 x5 hx1 lv h th hl
      refine qg_212_172 th hx1 hl (fun c1 => ?_) (fun c1 bb2 lv' hl' => ?_)
      · exact ⟨1, (x3, I), by simp only [F_212, Nat.reduceEqDiff, reduceIte, if_pos c1], ⟨_, rfl, th⟩⟩
      · refine qW_mono ?_ (ih.2.2.2.2.2 I x1 x2 (x3 + (I x1 ((x4).toNatClampNeg))) (x4 + (1 : Int32)) x5 hx1 lv' h th hl')
        intro r ⟨n, x, e, q⟩
        exact ⟨n + 1, x, by simp only [F_212, Nat.reduceEqDiff, reduceIte, if_neg c1]; exact e, q⟩
theorem qg_34 {h : sH} {r : sR} {Q : sR → Prop} {a0 : Int64} {a1 : Int32} {I : Nat → Nat → Int32} {L : Nat → Nat → Int64} {R : Nat → Nat} (th : qH h I L R) (g : qGo 34 [.ref (1), .long (a0), .int (a1)] h r)
    (p1 : ∀ N lv, qLs lv [some (.ref (1)), some (.long (a0)), none, some (.int (a1)), some (.int ((I 1 1) - (1 : Int32))), none] → qW 34 N 8 lv [] h Q) : Q r := by
  refine qGo_w g (fun N => ?_)
  have hl0 : qLs (lv_args 0 [.ref (1), .long (a0), .int (a1)]) [some (.ref (1)), some (.long (a0)), none, some (.int (a1)), none, none] := qLs_ar 2
  refine q_aload_n (show mE (mtv 34) 0 = some (.aload_n 0, 1, 0, 0) from rfl) (hl0 0 _ rfl) ?_
  refine q_getI th (show mE (mtv 34) 1 = some (.getfield 16, 3, 4, 1) from rfl) (by decide) rfl ?_
  refine q_iconst (show mE (mtv 34) 4 = some (.iconst 1, 1, 0, 0) from rfl) kI_1 ?_
  refine q_isub (show mE (mtv 34) 5 = some (.isub, 1, 0, 0) from rfl) ?_
  refine q_istore (show mE (mtv 34) 6 = some (.istore 4, 2, 0, 0) from rfl) (Nat.le_of_ble_eq_true rfl) hl0 (fun lv1 (hl2 : qLs lv1 [some (.ref (1)), some (.long (a0)), none, some (.int (a1)), some (.int ((I 1 1) - (1 : Int32))), none]) => ?_)
  exact p1 _ lv1 (qLs_wk hl2 (⟨rfl, rfl, rfl, rfl, trivial⟩))
theorem qg_34_8 {N : Nat} {lv : sL} {h : sH} {Q : sR → Prop} {x1 : Int64} {x3 : Int32} {x4 : Int32} (hl : qLs lv [some (.ref (1)), some (.long (x1)), none, some (.int (x3)), some (.int (x4)), none])
    (p1 : ∀ (c1 : x4 < 0), ∀ lv, qLs lv [some (.ref (1)), none, none, none, some (.int ((0 : Int32))), some (.int ((0 : Int32)))] → qW 34 N 80 lv [] h Q)
    (p2 : ∀ (c1 : ¬ x4 < 0), ∀ lv, qLs lv [some (.ref (1)), some (.long (x1)), none, some (.int (x3)), some (.int (x4)), some (.int ((0 : Int32)))] → qW 34 N 16 lv [] h Q) : qW 34 (N + 1) 8 lv [] h Q := by
  refine q1_iload (show mE (mtv 34) 8 = some (.iload 4, 2, 0, 0) from rfl) (hl 4 _ rfl) ?_
  refine q_if_lt (t := 74) (show mE (mtv 34) 10 = some (.ifCond .lt 64, 3, 0, 0) from rfl) rfl (fun c1 => ?_) (fun c1 => ?_)
  · refine q_iconst (show mE (mtv 34) 74 = some (.iconst 0, 1, 0, 0) from rfl) kI_0 ?_
    refine q_istore (show mE (mtv 34) 75 = some (.istore 4, 2, 0, 0) from rfl) (Nat.le_of_ble_eq_true rfl) hl (fun lv2 (hl3 : qLs lv2 [some (.ref (1)), some (.long (x1)), none, some (.int (x3)), some (.int ((0 : Int32))), none]) => ?_)
    refine q_iconst (show mE (mtv 34) 77 = some (.iconst 0, 1, 0, 0) from rfl) kI_0 ?_
    refine q_istore (show mE (mtv 34) 78 = some (.istore 5, 2, 0, 0) from rfl) (Nat.le_of_ble_eq_true rfl) hl3 (fun lv4 (hl5 : qLs lv4 [some (.ref (1)), some (.long (x1)), none, some (.int (x3)), some (.int ((0 : Int32))), some (.int ((0 : Int32)))]) => ?_)
    exact p1 c1 lv4 (qLs_wk hl5 (⟨rfl, rfl, rfl, trivial⟩))
  · refine q_iconst (show mE (mtv 34) 13 = some (.iconst 0, 1, 0, 0) from rfl) kI_0 ?_
    refine q_istore (show mE (mtv 34) 14 = some (.istore 5, 2, 0, 0) from rfl) (Nat.le_of_ble_eq_true rfl) hl (fun lv6 (hl7 : qLs lv6 [some (.ref (1)), some (.long (x1)), none, some (.int (x3)), some (.int (x4)), some (.int ((0 : Int32)))]) => ?_)
    exact p2 c1 lv6 (qLs_wk hl7 (⟨rfl, rfl, rfl, rfl, rfl, trivial⟩))
theorem qg_34_16 {N : Nat} {lv : sL} {h : sH} {Q : sR → Prop} {x1 : Int64} {x3 : Int32} {x4 : Int32} {x5 : Int32} {I : Nat → Nat → Int32} {L : Nat → Nat → Int64} {R : Nat → Nat} (th : qH h I L R) (hl : qLs lv [some (.ref (1)), some (.long (x1)), none, some (.int (x3)), some (.int (x4)), some (.int (x5))])
    (p1 : ∀ (c1 : (I 1 2) ≤ x5), ∀ lv, qLs lv [some (.ref (1)), some (.long (x1)), none, some (.int (x3)), some (.int (x4 + (-1 : Int32))), none] → qW 34 N 8 lv [] h Q)
    (p2 : ∀ (c1 : ¬ (I 1 2) ≤ x5), ∀ (bb4 : sIn x4 6 = true), ∀ (c5 : ¬ ((x1 &&& (bitL x4 x5)) = (0 : Int64))), ∀ (bb6 : sIn x5 6 = true), ∀ (h7 : sH), ∀ (t8 : qH h7 (upI I (3 + (x4).toNatClampNeg) ((x5).toNatClampNeg) (wOnS I x4 x5 x3)) L R), ∀ lv, qLs lv [some (.ref (1)), some (.long (x1)), none, some (.int (x3)), some (.int (x4)), some (.int (x5 + (1 : Int32)))] → qW 34 N 16 lv [] h7 Q)
    (p3 : ∀ (c1 : ¬ (I 1 2) ≤ x5), ∀ (bb4 : sIn x4 6 = true), ∀ (c5 : (x1 &&& (bitL x4 x5)) = (0 : Int64)), ∀ (bb11 : sIn x5 6 = true), ∀ (h12 : sH), ∀ (t13 : qH h12 (upI I (3 + (x4).toNatClampNeg) ((x5).toNatClampNeg) (0 : Int32)) L R), ∀ lv, qLs lv [some (.ref (1)), some (.long (x1)), none, some (.int (x3)), some (.int (x4)), some (.int (x5 + (1 : Int32)))] → qW 34 N 16 lv [] h12 Q) : qW 34 (N + 1) 16 lv [] h Q := by
  refine q1_iload (show mE (mtv 34) 16 = some (.iload 5, 2, 0, 0) from rfl) (hl 5 _ rfl) ?_
  refine q_aload_n (show mE (mtv 34) 18 = some (.aload_n 0, 1, 0, 0) from rfl) (hl 0 _ rfl) ?_
  refine q_getI th (show mE (mtv 34) 19 = some (.getfield 20, 3, 4, 2) from rfl) (by decide) rfl ?_
  refine q_ic_ge (t := 68) (show mE (mtv 34) 22 = some (.if_icmp .ge 46, 3, 0, 0) from rfl) rfl (fun c1 => ?_) (fun c1 => ?_)
  · refine q_iinc (show mE (mtv 34) 68 = some (.iinc 4 (-1), 3, 0, 0) from rfl) (Nat.le_of_ble_eq_true rfl) hl (hl 4 _ rfl) kI_m1 (fun lv2 (hl3 : qLs lv2 [some (.ref (1)), some (.long (x1)), none, some (.int (x3)), some (.int (x4 + (-1 : Int32))), some (.int (x5))]) => ?_)
    refine q_goto (t := 8) (show mE (mtv 34) 71 = some (.goto (-63), 3, 0, 0) from rfl) rfl ?_
    exact p1 c1 lv2 (qLs_wk hl3 (⟨rfl, rfl, rfl, rfl, trivial⟩))
  · refine q_aload_n (show mE (mtv 34) 25 = some (.aload_n 0, 1, 0, 0) from rfl) (hl 0 _ rfl) ?_
    refine q_getR (m := 2) th (show mE (mtv 34) 26 = some (.getfield 11, 3, 4, 0) from rfl) (by decide) rfl rfl ?_
    refine q_iload (show mE (mtv 34) 29 = some (.iload 4, 2, 0, 0) from rfl) (hl 4 _ rfl) ?_
    refine q_aaload (n := 6) (t := 0) (m := 3) th (show mE (mtv 34) 31 = some (.aaload, 1, 0, 0) from rfl) (by decide) rfl (fun _ _ => rfl) (fun bb4 => ?_)
    refine q_iload (show mE (mtv 34) 32 = some (.iload 5, 2, 0, 0) from rfl) (hl 5 _ rfl) ?_
    refine q_lload_n (show mE (mtv 34) 34 = some (.lload_n 1, 1, 0, 0) from rfl) (hl 1 _ rfl) ?_
    refine q_iload (show mE (mtv 34) 35 = some (.iload 4, 2, 0, 0) from rfl) (hl 4 _ rfl) ?_
    refine q_iload (show mE (mtv 34) 37 = some (.iload 5, 2, 0, 0) from rfl) (hl 5 _ rfl) ?_
    refine q_staticP (show mE (mtv 34) 39 = some (.invokestatic 47, 3, 35, 0) from rfl) (by decide) rfl rfl rfl (fun _ g => sp_35 g) ?_
    refine q_land (show mE (mtv 34) 42 = some (.land, 1, 0, 0) from rfl) ?_
    refine q_lconst (show mE (mtv 34) 43 = some (.lconst 0, 1, 0, 0) from rfl) kL_0 ?_
    refine q_lcmp (show mE (mtv 34) 44 = some (.lcmp, 1, 0, 0) from rfl) ?_
    refine q_ifl_ne (t := 52) (show mE (mtv 34) 45 = some (.ifCond .ne 7, 3, 0, 0) from rfl) rfl (fun c5 => ?_) (fun c5 => ?_)
    · refine q_aload_n (show mE (mtv 34) 52 = some (.aload_n 0, 1, 0, 0) from rfl) (hl 0 _ rfl) ?_
      refine q_iload (show mE (mtv 34) 53 = some (.iload 4, 2, 0, 0) from rfl) (hl 4 _ rfl) ?_
      refine q_iload (show mE (mtv 34) 55 = some (.iload 5, 2, 0, 0) from rfl) (hl 5 _ rfl) ?_
      refine q_iload_n (show mE (mtv 34) 57 = some (.iload_n 3, 1, 0, 0) from rfl) (hl 3 _ rfl) ?_
      refine q_virtualP (show mE (mtv 34) 58 = some (.invokevirtual 51, 3, 36, 4) from rfl) (by decide) rfl rfl rfl (fun _ g => sp_36 th g) ?_
      refine q_iastore (n := 6) th (show mE (mtv 34) 61 = some (.iastore, 1, 0, 0) from rfl) (qB bb4 (by decide)) (qBw bb4) (fun bb6 h7 t8 => ?_)
      refine q_iinc (show mE (mtv 34) 62 = some (.iinc 5 1, 3, 0, 0) from rfl) (Nat.le_of_ble_eq_true rfl) hl (hl 5 _ rfl) kI_1 (fun lv9 (hl10 : qLs lv9 [some (.ref (1)), some (.long (x1)), none, some (.int (x3)), some (.int (x4)), some (.int (x5 + (1 : Int32)))]) => ?_)
      refine q_goto (t := 16) (show mE (mtv 34) 65 = some (.goto (-49), 3, 0, 0) from rfl) rfl ?_
      exact p2 c1 bb4 c5 bb6 h7 t8 lv9 (qLs_wk hl10 (⟨rfl, rfl, rfl, rfl, rfl, trivial⟩))
    · refine q_iconst (show mE (mtv 34) 48 = some (.iconst 0, 1, 0, 0) from rfl) kI_0 ?_
      refine q_goto (t := 61) (show mE (mtv 34) 49 = some (.goto 12, 3, 0, 0) from rfl) rfl ?_
      refine q_iastore (n := 6) th (show mE (mtv 34) 61 = some (.iastore, 1, 0, 0) from rfl) (qB bb4 (by decide)) (qBw bb4) (fun bb11 h12 t13 => ?_)
      refine q_iinc (show mE (mtv 34) 62 = some (.iinc 5 1, 3, 0, 0) from rfl) (Nat.le_of_ble_eq_true rfl) hl (hl 5 _ rfl) kI_1 (fun lv14 (hl15 : qLs lv14 [some (.ref (1)), some (.long (x1)), none, some (.int (x3)), some (.int (x4)), some (.int (x5 + (1 : Int32)))]) => ?_)
      refine q_goto (t := 16) (show mE (mtv 34) 65 = some (.goto (-49), 3, 0, 0) from rfl) rfl ?_
      exact p3 c1 bb4 c5 bb11 h12 t13 lv14 (qLs_wk hl15 (⟨rfl, rfl, rfl, rfl, rfl, trivial⟩))
theorem qg_34_80 {N : Nat} {lv : sL} {h : sH} {Q : sR → Prop} {x4 : Int32} {x5 : Int32} {I : Nat → Nat → Int32} {L : Nat → Nat → Int64} {R : Nat → Nat} (th : qH h I L R) (hl : qLs lv [some (.ref (1)), none, none, none, some (.int (x4)), some (.int (x5))])
    (p1 : ∀ (c1 : (I 1 2) ≤ x5), Q (.inl (some (.int (x4))), h))
    (p2 : ∀ (c1 : ¬ (I 1 2) ≤ x5), ∀ (bb2 : sIn (0 : Int32) 6 = true), ∀ (bb3 : sIn x5 6 = true), ∀ lv, qLs lv [some (.ref (1)), none, none, none, some (.int (x4 + (I (3 + ((0 : Int32)).toNatClampNeg) ((x5).toNatClampNeg)))), some (.int (x5 + (1 : Int32)))] → qW 34 N 80 lv [] h Q) : qW 34 (N + 1) 80 lv [] h Q := by
  refine q1_iload (show mE (mtv 34) 80 = some (.iload 5, 2, 0, 0) from rfl) (hl 5 _ rfl) ?_
  refine q_aload_n (show mE (mtv 34) 82 = some (.aload_n 0, 1, 0, 0) from rfl) (hl 0 _ rfl) ?_
  refine q_getI th (show mE (mtv 34) 83 = some (.getfield 20, 3, 4, 2) from rfl) (by decide) rfl ?_
  refine q_ic_ge (t := 109) (show mE (mtv 34) 86 = some (.if_icmp .ge 23, 3, 0, 0) from rfl) rfl (fun c1 => ?_) (fun c1 => ?_)
  · refine q_iload (show mE (mtv 34) 109 = some (.iload 4, 2, 0, 0) from rfl) (hl 4 _ rfl) ?_
    refine q_ireturn (show mE (mtv 34) 111 = some (.ireturn, 1, 0, 0) from rfl) ?_
    exact p1 c1
  · refine q_iload (show mE (mtv 34) 89 = some (.iload 4, 2, 0, 0) from rfl) (hl 4 _ rfl) ?_
    refine q_aload_n (show mE (mtv 34) 91 = some (.aload_n 0, 1, 0, 0) from rfl) (hl 0 _ rfl) ?_
    refine q_getR (m := 2) th (show mE (mtv 34) 92 = some (.getfield 11, 3, 4, 0) from rfl) (by decide) rfl rfl ?_
    refine q_iconst (show mE (mtv 34) 95 = some (.iconst 0, 1, 0, 0) from rfl) kI_0 ?_
    refine q_aaload (n := 6) (t := 0) (m := 3) th (show mE (mtv 34) 96 = some (.aaload, 1, 0, 0) from rfl) (by decide) rfl (fun _ _ => rfl) (fun bb2 => ?_)
    refine q_iload (show mE (mtv 34) 97 = some (.iload 5, 2, 0, 0) from rfl) (hl 5 _ rfl) ?_
    refine q_iaload (n := 6) th (show mE (mtv 34) 99 = some (.iaload, 1, 0, 0) from rfl) (qB bb2 (by decide)) (qBw bb2) (fun bb3 => ?_)
    refine q_iadd (show mE (mtv 34) 100 = some (.iadd, 1, 0, 0) from rfl) ?_
    refine q_istore (show mE (mtv 34) 101 = some (.istore 4, 2, 0, 0) from rfl) (Nat.le_of_ble_eq_true rfl) hl (fun lv4 (hl5 : qLs lv4 [some (.ref (1)), none, none, none, some (.int (x4 + (I (3 + ((0 : Int32)).toNatClampNeg) ((x5).toNatClampNeg)))), some (.int (x5))]) => ?_)
    refine q_iinc (show mE (mtv 34) 103 = some (.iinc 5 1, 3, 0, 0) from rfl) (Nat.le_of_ble_eq_true rfl) hl5 (hl5 5 _ rfl) kI_1 (fun lv6 (hl7 : qLs lv6 [some (.ref (1)), none, none, none, some (.int (x4 + (I (3 + ((0 : Int32)).toNatClampNeg) ((x5).toNatClampNeg)))), some (.int (x5 + (1 : Int32)))]) => ?_)
    refine q_goto (t := 80) (show mE (mtv 34) 106 = some (.goto (-26), 3, 0, 0) from rfl) rfl ?_
    exact p2 c1 bb2 bb3 lv6 (qLs_wk hl7 (⟨rfl, rfl, rfl, trivial⟩))
noncomputable def F_34 : Nat → Nat → (Nat → Nat → Int32) → Int64 → Int32 → Int32 → Int32 → Option (Int32 × (Nat → Nat → Int32))
  | 0, _, _, _, _, _, _ => none
  | n + 1, t, I, x1, x3, x4, x5 => if t = 8 then (if x4 < 0 then F_34 n 80 I x1 x3 (0 : Int32) (0 : Int32) else (F_34 n 16 I x1 x3 x4 (0 : Int32))) else if t = 16 then (if (I 1 2) ≤ x5 then F_34 n 8 I x1 x3 (x4 + (-1 : Int32)) x5 else (if (x1 &&& (bitL x4 x5)) = (0 : Int64) then F_34 n 16 (upI I (3 + (x4).toNatClampNeg) ((x5).toNatClampNeg) (0 : Int32)) x1 x3 x4 (x5 + (1 : Int32)) else (F_34 n 16 (upI I (3 + (x4).toNatClampNeg) ((x5).toNatClampNeg) (wOnS I x4 x5 x3)) x1 x3 x4 (x5 + (1 : Int32))))) else if t = 80 then (if (I 1 2) ≤ x5 then some (x4, I) else (F_34 n 80 I x1 x3 (x4 + (I (3 + ((0 : Int32)).toNatClampNeg) ((x5).toNatClampNeg))) (x5 + (1 : Int32)))) else none
theorem fl_34 {L : Nat → Nat → Int64} {R : Nat → Nat} : ∀ N : Nat, (∀ (I : Nat → Nat → Int32) (x1 : Int64) (x3 : Int32) (x4 : Int32) (x5 : Int32) (lv : sL) (h : sH),  qH h I L R → qLs lv [some (.ref (1)), some (.long (x1)), none, some (.int (x3)), some (.int (x4)), none] → qW 34 N 8 lv [] h (fun r => ∃ n x, F_34 n 8 I x1 x3 x4 x5 = some x ∧ ∃ h1, r = (.inl (some (.int x.1)), h1) ∧ qH h1 x.2 L R)) ∧ (∀ (I : Nat → Nat → Int32) (x1 : Int64) (x3 : Int32) (x4 : Int32) (x5 : Int32) (lv : sL) (h : sH),  qH h I L R → qLs lv [some (.ref (1)), some (.long (x1)), none, some (.int (x3)), some (.int (x4)), some (.int (x5))] → qW 34 N 16 lv [] h (fun r => ∃ n x, F_34 n 16 I x1 x3 x4 x5 = some x ∧ ∃ h1, r = (.inl (some (.int x.1)), h1) ∧ qH h1 x.2 L R)) ∧ (∀ (I : Nat → Nat → Int32) (x1 : Int64) (x3 : Int32) (x4 : Int32) (x5 : Int32) (lv : sL) (h : sH),  qH h I L R → qLs lv [some (.ref (1)), none, none, none, some (.int (x4)), some (.int (x5))] → qW 34 N 80 lv [] h (fun r => ∃ n x, F_34 n 80 I x1 x3 x4 x5 = some x ∧ ∃ h1, r = (.inl (some (.int x.1)), h1) ∧ qH h1 x.2 L R)) := by
  intro N
  induction N with
  | zero => exact ⟨fun _ _ _ _ _ _ _ _ _ => qW_0, fun _ _ _ _ _ _ _ _ _ => qW_0, fun _ _ _ _ _ _ _ _ _ => qW_0⟩
  | succ N ih =>
    refine ⟨?_, ?_, ?_⟩
    · intro I x1 x3 x4 x5 lv h th hl
      refine qg_34_8 hl (fun c1 lv' hl' => ?_) (fun c1 lv' hl' => ?_)
      · refine qW_mono ?_ (ih.2.2 I x1 x3 (0 : Int32) (0 : Int32) lv' h th hl')
        intro r ⟨n, x, e, q⟩
        exact ⟨n + 1, x, by simp only [F_34, Nat.reduceEqDiff, reduceIte, if_pos c1]; exact e, q⟩
      · refine qW_mono ?_ (ih.2.1 I x1 x3 x4 (0 : Int32) lv' h th hl')
        intro r ⟨n, x, e, q⟩
        exact ⟨n + 1, x, by simp only [F_34, Nat.reduceEqDiff, reduceIte, if_neg c1]; exact e, q⟩
    · intro I x1 x3 x4 x5 lv h th hl
      refine qg_34_16 th hl (fun c1 lv' hl' => ?_) (fun c1 bb4 c5 bb6 h7 t8 lv' hl' => ?_) (fun c1 bb4 c5 bb11 h12 t13 lv' hl' => ?_)
      · refine qW_mono ?_ (ih.1 I x1 x3 (x4 + (-1 : Int32)) x5 lv' h th hl')
        intro r ⟨n, x, e, q⟩
        exact ⟨n + 1, x, by simp only [F_34, Nat.reduceEqDiff, reduceIte, if_pos c1]; exact e, q⟩
      · refine qW_mono ?_ (ih.2.1 (upI I (3 + (x4).toNatClampNeg) ((x5).toNatClampNeg) (wOnS I x4 x5 x3)) x1 x3 x4 (x5 + (1 : Int32)) lv' h7 t8 hl')
        intro r ⟨n, x, e, q⟩
        exact ⟨n + 1, x, by simp only [F_34, Nat.reduceEqDiff, reduceIte, if_neg c1, if_neg c5]; exact e, q⟩
      · refine qW_mono ?_ (ih.2.1 (upI I (3 + (x4).toNatClampNeg) ((x5).toNatClampNeg) (0 : Int32)) x1 x3 x4 (x5 + (1 : Int32)) lv' h12 t13 hl')
        intro r ⟨n, x, e, q⟩
        exact ⟨n + 1, x, by simp only [F_34, Nat.reduceEqDiff, reduceIte, if_neg c1, if_pos c5]; exact e, q⟩
    · intro I x1 x3 x4 x5 lv h th hl
      refine qg_34_80 th hl (fun c1 => ?_) (fun c1 bb2 bb3 lv' hl' => ?_)
      · exact ⟨1, (x4, I), by simp only [F_34, Nat.reduceEqDiff, reduceIte, if_pos c1], ⟨_, rfl, th⟩⟩
      · refine qW_mono ?_ (ih.2.2 I x1 x3 (x4 + (I (3 + ((0 : Int32)).toNatClampNeg) ((x5).toNatClampNeg))) (x5 + (1 : Int32)) lv' h th hl')
        intro r ⟨n, x, e, q⟩
        exact ⟨n + 1, x, by simp only [F_34, Nat.reduceEqDiff, reduceIte, if_neg c1]; exact e, q⟩
/-- the first 119 cells as before -/
noncomputable def agL (J I : Nat → Nat → Int32) : Prop := ∀ a b, a < 119 → J a b = I a b
theorem agL_up {J I : Nat → Nat → Int32} {p b : Nat} {x : Int32} (hp : 119 ≤ p) (h : agL J I) : agL (upI J p b x) I := fun a c ha => by
  rw [upI_ne (fun q => by omega)]; exact h a c ha
/-- the pins let a depth in -/
noncomputable def cP (I : Nat → Nat → Int32) (c d : Nat) : Bool := hs (I 106 c) (Int32.ofNat d)
/-- two depths may be side by side -/
noncomputable def cA (I : Nat → Nat → Int32) (d e : Nat) : Bool := decide (¬ I 85 33 < T_213 (Int32.ofNat d - Int32.ofNat e))
theorem bj_and (a b : Bool) (x : Int32) : bj (a && b) * x = bj b * (bj a * x) := by
  cases a <;> cases b <;> simp only [bj_mul, Bool.and_self, Bool.and_false, Bool.and_true, Bool.false_eq_true, reduceIte]
theorem bj_b2 (b : Bool) : b2 (b = true) = bj b := by cases b <;> rfl
theorem sem_212 {I : Nat → Nat → Int32} {m nc p q : Nat} (em : (I 85 32).toNatClampNeg = m) (ec : (I 85 31).toNatClampNeg = nc) (bm : m ≤ 6) (bc : nc ≤ 6) (b1 : 1 ≤ nc) (hp : 119 ≤ p) (hq : 119 ≤ q) (hpq : p ≠ q) :
    ∀ n, (∀ J j x4 x5 r, agL J I → j ≤ m → (∀ d, d < j → J p d = bj (cP I 0 d)) → F_212 n 12 J p q (Int32.ofNat j) x4 x5 = some r → agL r.2 I ∧ r.1 = jS (wF (cP I) (cA I) m (nc - 1)) m) ∧
      (∀ J c x4 x5 r, agL J I → 1 ≤ c → c ≤ nc → (∀ d, d < m → J p d = wF (cP I) (cA I) m (c - 1) d) → F_212 n 41 J p q (Int32.ofNat c) x4 x5 = some r → agL r.2 I ∧ r.1 = jS (wF (cP I) (cA I) m (nc - 1)) m) ∧
      (∀ J c j x5 r, agL J I → 1 ≤ c → c < nc → j ≤ m → (∀ d, d < m → J p d = wF (cP I) (cA I) m (c - 1) d) → (∀ d, d < j → J q d = wF (cP I) (cA I) m c d) → F_212 n 52 J p q (Int32.ofNat c) (Int32.ofNat j) x5 = some r → agL r.2 I ∧ r.1 = jS (wF (cP I) (cA I) m (nc - 1)) m) ∧
      (∀ J c j e r, agL J I → 1 ≤ c → c < nc → j < m → e ≤ m → (∀ d, d < m → J p d = wF (cP I) (cA I) m (c - 1) d) → (∀ d, d < j → J q d = wF (cP I) (cA I) m c d) → J q j = jS (fun i => bj (cA I j i && cP I c j) * wF (cP I) (cA I) m (c - 1) i) e → F_212 n 69 J p q (Int32.ofNat c) (Int32.ofNat j) (Int32.ofNat e) = some r → agL r.2 I ∧ r.1 = jS (wF (cP I) (cA I) m (nc - 1)) m) ∧
      (∀ J c j x5 r, agL J I → 1 ≤ c → c < nc → j ≤ m → (∀ d, d < m → J q d = wF (cP I) (cA I) m c d) → (∀ d, d < j → J p d = wF (cP I) (cA I) m c d) → F_212 n 138 J p q (Int32.ofNat c) (Int32.ofNat j) x5 = some r → agL r.2 I ∧ r.1 = jS (wF (cP I) (cA I) m (nc - 1)) m) ∧
      (∀ J j x5 r, agL J I → j ≤ m → (∀ d, d < m → J p d = wF (cP I) (cA I) m (nc - 1) d) → F_212 n 172 J p q (jS (wF (cP I) (cA I) m (nc - 1)) j) (Int32.ofNat j) x5 = some r → agL r.2 I ∧ r.1 = jS (wF (cP I) (cA I) m (nc - 1)) m)
  | 0 => ⟨fun _ _ _ _ _ _ _ _ h => (by cases h), fun _ _ _ _ _ _ _ _ _ h => (by cases h), fun _ _ _ _ _ _ _ _ _ _ _ h => (by cases h), fun _ _ _ _ _ _ _ _ _ _ _ _ _ h => (by cases h), fun _ _ _ _ _ _ _ _ _ _ _ h => (by cases h), fun _ _ _ _ _ _ _ h => (by cases h)⟩
  | n + 1 => by
    obtain ⟨ih1, ih2, ih3, ih4, ih5, ih6⟩ := sem_212 em ec bm bc b1 hp hq hpq n
    refine ⟨?_, ?_, ?_, ?_, ?_, ?_⟩
    · intro J j x4 x5 r ha hj hd h
      simp only [F_212, reduceIte] at h
      rw [ha 85 32 (by decide)] at h
      by_cases g : I 85 32 ≤ Int32.ofNat j
      · rw [if_pos g] at h
        have := (le_oN (by omega)).mp g
        refine ih2 J 1 x4 x5 r ha (Nat.le_refl _) b1 (fun d hd' => ?_) h
        exact hd d (by omega)
      · rw [if_neg g, ofN_clamp (by omega), oN_s, show ((0 : Int32)).toNatClampNeg = 0 from rfl, ha 106 0 (by decide), bj_b2] at h
        have := mt (le_oN (by omega)).mpr g
        refine ih1 _ (j + 1) x4 x5 r (agL_up hp ha) (by omega) (fun d hd' => ?_) h
        by_cases e : d = j
        · subst e; exact upI_s
        · rw [upI_ne (fun z => e z.2)]; exact hd d (by omega)
    · intro J c x4 x5 r ha h1 hcn hd h
      simp only [F_212, Nat.reduceEqDiff, reduceIte] at h
      rw [ha 85 31 (by decide)] at h
      by_cases g : I 85 31 ≤ Int32.ofNat c
      · rw [if_pos g] at h
        have := (le_oN (by omega)).mp g
        have e : c = nc := by omega
        subst e
        exact ih6 J 0 x5 r ha (Nat.zero_le _) hd h
      · rw [if_neg g] at h
        have := mt (le_oN (by omega)).mpr g
        exact ih3 J c 0 x5 r ha h1 (by omega) (Nat.zero_le _) hd (fun d hd' => absurd hd' (Nat.not_lt_zero d)) h
    · intro J c j x5 r ha h1 hcn hj hd hd2 h
      simp only [F_212, Nat.reduceEqDiff, reduceIte] at h
      rw [ha 85 32 (by decide)] at h
      by_cases g : I 85 32 ≤ Int32.ofNat j
      · rw [if_pos g] at h
        have := (le_oN (by omega)).mp g
        exact ih5 J c 0 x5 r ha h1 hcn (Nat.zero_le _) (fun d hd' => hd2 d (by omega)) (fun d hd' => absurd hd' (Nat.not_lt_zero d)) h
      · rw [if_neg g, ofN_clamp (by omega)] at h
        have := mt (le_oN (by omega)).mpr g
        refine ih4 _ c j 0 r (agL_up hq ha) h1 hcn (by omega) (Nat.zero_le _) (fun d hd' => ?_) (fun d hd' => ?_) upI_s h
        · rw [upI_ne (fun z => hpq z.1)]; exact hd d hd'
        · rw [upI_ne (fun z => by omega)]; exact hd2 d hd'
    · intro J c j e r ha h1 hcn hj he hd hd2 hsum h
      simp only [F_212, Nat.reduceEqDiff, reduceIte] at h
      rw [ha 85 32 (by decide), ha 85 33 (by decide)] at h
      by_cases g : I 85 32 ≤ Int32.ofNat e
      · rw [if_pos g, oN_s] at h
        have := (le_oN (by omega)).mp g
        have ee : e = m := by omega
        subst ee
        refine ih3 J c (j + 1) _ r ha h1 hcn hj hd (fun d hd' => ?_) h
        by_cases e2 : d = j
        · subst e2
          rw [hsum]
          obtain ⟨c', rfl⟩ : ∃ c', c = c' + 1 := ⟨c - 1, by omega⟩
          show _ = bj (cP I (c' + 1) d) * jS (fun i => bj (cA I d i) * wF (cP I) (cA I) e c' i) e
          rw [← jS_mul]
          exact jS_ext (fun i _ => bj_and _ _ _)
        · exact hd2 d (by omega)
      · have := mt (le_oN (by omega)).mpr g
        have hkeep : ∀ x, (∀ d, d < m → (upI J q j x) p d = wF (cP I) (cA I) m (c - 1) d) ∧ (∀ d, d < j → (upI J q j x) q d = wF (cP I) (cA I) m c d) := fun x => by
          refine ⟨fun d hd' => ?_, fun d hd' => ?_⟩
          · rw [upI_ne (fun z => hpq z.1)]; exact hd d hd'
          · rw [upI_ne (fun z => by omega)]; exact hd2 d hd'
        have step : ∀ x, x = bj (cA I j e && cP I c j) * wF (cP I) (cA I) m (c - 1) e → F_212 n 69 (upI J q j (J q j + x)) p q (Int32.ofNat c) (Int32.ofNat j) (Int32.ofNat (e + 1)) = some r → agL r.2 I ∧ r.1 = jS (wF (cP I) (cA I) m (nc - 1)) m := fun x hx h => by
          refine ih4 _ c j (e + 1) r (agL_up hq ha) h1 hcn hj (by omega) (hkeep _).1 (hkeep _).2 ?_ h
          rw [upI_s, hsum, hx]; rfl
        rw [if_neg g, ofN_clamp (show j < 2147483648 by omega), ofN_clamp (show e < 2147483648 by omega), ofN_clamp (show c < 2147483648 by omega), oN_s, ha 106 c (by decide)] at h
        by_cases g2 : I 85 33 < T_213 (Int32.ofNat j - Int32.ofNat e)
        · rw [if_pos g2] at h
          refine step 0 ?_ h
          unfold cA
          rw [decide_eq_false (fun z => z g2), Bool.false_and, bj_mul]; rfl
        · rw [if_neg g2] at h
          by_cases g3 : hs (I 106 c) (Int32.ofNat j) = true
          · rw [if_pos g3] at h
            refine step _ ?_ h
            unfold cA cP
            rw [decide_eq_true g2, Bool.true_and, g3, bj_mul, hd e (by omega)]; rfl
          · rw [if_neg g3] at h
            refine step 0 ?_ h
            unfold cP
            rw [Bool.eq_false_iff.mpr g3, Bool.and_false, bj_mul]; rfl
    · intro J c j x5 r ha h1 hcn hj hd hd2 h
      simp only [F_212, Nat.reduceEqDiff, reduceIte] at h
      rw [ha 85 32 (by decide)] at h
      by_cases g : I 85 32 ≤ Int32.ofNat j
      · rw [if_pos g, oN_s] at h
        have := (le_oN (by omega)).mp g
        exact ih2 J (c + 1) _ x5 r ha (by omega) hcn (fun d hd' => hd2 d (by omega)) h
      · rw [if_neg g, ofN_clamp (by omega), oN_s] at h
        have := mt (le_oN (by omega)).mpr g
        refine ih5 _ c (j + 1) x5 r (agL_up hp ha) h1 hcn (by omega) (fun d hd' => ?_) (fun d hd' => ?_) h
        · rw [upI_ne (fun z => hpq z.1.symm)]; exact hd d hd'
        · by_cases e : d = j
          · subst e; rw [upI_s]; exact hd d (by omega)
          · rw [upI_ne (fun z => e z.2)]; exact hd2 d (by omega)
    · intro J j x5 r ha hj hd h
      simp only [F_212, Nat.reduceEqDiff, reduceIte] at h
      rw [ha 85 32 (by decide)] at h
      by_cases g : I 85 32 ≤ Int32.ofNat j
      · rw [if_pos g] at h
        have := (le_oN (by omega)).mp g
        cases h
        exact ⟨ha, by rw [show j = m by omega]⟩
      · rw [if_neg g, ofN_clamp (by omega), oN_s] at h
        have := mt (le_oN (by omega)).mpr g
        refine ih6 J (j + 1) x5 r ha (by omega) hd ?_
        rw [← h, hd j (by omega)]; rfl
noncomputable def cntP (I J : Nat → Nat → Int32) (v : Int32) : Prop := ∀ m nc, (I 85 32).toNatClampNeg = m → (I 85 31).toNatClampNeg = nc → m ≤ 6 → nc ≤ 6 → 1 ≤ nc → agL J I ∧ v = jS (wF (cP I) (cA I) m (nc - 1)) m
theorem sp_212 {h : sH} {r : sR} {I : Nat → Nat → Int32} {L : Nat → Nat → Int64} {R : Nat → Nat} (th : qH h I L R) (g : qGo 212 [.ref (85)] h r) : ∃ v J h1, r = (.inl (some (.int v)), h1) ∧ qH h1 J L R ∧ cntP I J v := by
  refine qg_212 (Q := fun r => ∃ v J h1, r = (.inl (some (.int v)), h1) ∧ qH h1 J L R ∧ cntP I J v) th g (fun o1 h2 y3 y4 y5 y6 t7 o10 h11 y12 y13 y14 y15 t16 N lv hl => ?_)
  refine qW_mono ?_ ((fl_212 N).1 I o1 o10 0 0 0 y4 y13 lv h11 t16 hl)
  intro r ⟨n, x, e, h1, q1, q2⟩
  refine ⟨x.1, x.2, h1, q1, q2, ?_⟩
  intro m nc em ec bm bc b1
  exact (sem_212 em ec bm bc b1 y4 y13 (by omega) n).1 I 0 0 0 x (fun _ _ _ => rfl) (Nat.zero_le _) (fun d hd => absurd hd (Nat.not_lt_zero d)) e
/-- a depth is among those of a long -/
noncomputable def lP (x : Int64) (c d : Nat) : Bool := decide (¬ (x &&& bitL (Int32.ofNat c) (Int32.ofNat d)) = 0)
noncomputable def lA (lim : Int32) (e d : Nat) : Bool := adjL lim (Int32.ofNat e) (Int32.ofNat d)
/-- all but the ways as before -/
noncomputable def agW (J I : Nat → Nat → Int32) : Prop := ∀ a b, (a < 3 ∨ 8 < a) → J a b = I a b
theorem agW_up {J I : Nat → Nat → Int32} {c b : Nat} {x : Int32} (hc : c < 6) (h : agW J I) : agW (upI J (3 + c) b x) I := fun a e ha => by
  rw [upI_ne (fun q => by omega)]; exact h a e ha
/-- the ways of the class from the chamber k on -/
noncomputable def wayC (x : Int64) (lim : Int32) (m nc k : Nat) (J : Nat → Nat → Int32) : Prop := ∀ c d, k ≤ c → c < nc → d < m → J (3 + c) d = bj (lP x c d) * wU (lP x) (lA lim) m (nc - 1 - c) c d
theorem oN_p (k : Nat) : Int32.ofNat (k + 1) - 1 = Int32.ofNat k := by rw [← oN_s, i32_p1m1]
theorem oN_m (k : Nat) : Int32.ofNat k + (-1 : Int32) = Int32.ofNat k - 1 := (Int32.sub_eq_add_neg _ _).symm
theorem sem_34 {I : Nat → Nat → Int32} {x : Int64} {lim : Int32} {m nc : Nat} (em : (I 1 2).toNatClampNeg = m) (ec : I 1 1 = Int32.ofNat nc) (bm : m ≤ 6) (bc : nc ≤ 6) (b1 : 1 ≤ nc) :
    ∀ n, (∀ J k x5 r, agW J I → k ≤ nc → wayC x lim m nc k J → F_34 n 8 J x lim (Int32.ofNat k - 1) x5 = some r → agW r.2 I ∧ wayC x lim m nc 0 r.2 ∧ r.1 = jS (fun d => bj (lP x 0 d) * wU (lP x) (lA lim) m (nc - 1) 0 d) m) ∧
      (∀ J k j r, agW J I → k < nc → j ≤ m → wayC x lim m nc (k + 1) J → (∀ d, d < j → J (3 + k) d = bj (lP x k d) * wU (lP x) (lA lim) m (nc - 1 - k) k d) → F_34 n 16 J x lim (Int32.ofNat k) (Int32.ofNat j) = some r → agW r.2 I ∧ wayC x lim m nc 0 r.2 ∧ r.1 = jS (fun d => bj (lP x 0 d) * wU (lP x) (lA lim) m (nc - 1) 0 d) m) ∧
      (∀ J y z j r, agW J I → j ≤ m → wayC x lim m nc 0 J → F_34 n 80 J y z (jS (fun d => bj (lP x 0 d) * wU (lP x) (lA lim) m (nc - 1) 0 d) j) (Int32.ofNat j) = some r → agW r.2 I ∧ wayC x lim m nc 0 r.2 ∧ r.1 = jS (fun d => bj (lP x 0 d) * wU (lP x) (lA lim) m (nc - 1) 0 d) m)
  | 0 => ⟨fun _ _ _ _ _ _ _ h => (by cases h), fun _ _ _ _ _ _ _ _ _ h => (by cases h), fun _ _ _ _ _ _ _ _ h => (by cases h)⟩
  | n + 1 => by
    obtain ⟨ih1, ih2, ih3⟩ := sem_34 em ec bm bc b1 n
    refine ⟨?_, ?_, ?_⟩
    · intro J k x5 r ha hk hw h
      simp only [F_34, reduceIte] at h
      cases k with
      | zero =>
        rw [if_pos (show Int32.ofNat 0 - 1 < 0 by decide)] at h
        exact ih3 J _ _ 0 r ha (Nat.zero_le _) hw h
      | succ k =>
        rw [oN_p, if_neg (fun q => by
          have := Int32.lt_iff_toInt_lt.mp q
          rw [ofN_toInt (by omega)] at this
          exact absurd this (by show ¬ _ < (0 : Int); omega))] at h
        exact ih2 J k 0 r ha (by omega) (Nat.zero_le _) hw (fun d hd => absurd hd (Nat.not_lt_zero d)) h
    · intro J k j r ha hk hj hw hd h
      simp only [F_34, Nat.reduceEqDiff, reduceIte] at h
      rw [ha 1 2 (by decide)] at h
      by_cases g : I 1 2 ≤ Int32.ofNat j
      · rw [if_pos g, oN_m] at h
        have := (le_oN (by omega)).mp g
        have h5 : F_34 n 8 J x lim (Int32.ofNat k - 1) (Int32.ofNat j) = some r := h
        refine ih1 J k (Int32.ofNat j) r ha (by omega) (fun c d h1 h2 h3 => ?_) h5
        by_cases e : c = k
        · subst e; exact hd d (by omega)
        · exact hw c d (by omega) h2 h3
      · have gl := mt (le_oN (by omega)).mpr g
        have step : ∀ z, z = bj (lP x k j) * wU (lP x) (lA lim) m (nc - 1 - k) k j → F_34 n 16 (upI J (3 + k) j z) x lim (Int32.ofNat k) (Int32.ofNat (j + 1)) = some r → agW r.2 I ∧ wayC x lim m nc 0 r.2 ∧ r.1 = jS (fun d => bj (lP x 0 d) * wU (lP x) (lA lim) m (nc - 1) 0 d) m := fun z hz h => by
          refine ih2 _ k (j + 1) r (agW_up (by omega) ha) hk (by omega) (fun c d h1 h2 h3 => ?_) (fun d hd' => ?_) h
          · rw [upI_ne (fun q => by omega)]; exact hw c d h1 h2 h3
          · by_cases e : d = j
            · subst e; rw [upI_s, hz]
            · rw [upI_ne (fun q => e q.2)]; exact hd d (by omega)
        rw [if_neg g, ofN_clamp (show k < 2147483648 by omega), ofN_clamp (show j < 2147483648 by omega), oN_s] at h
        by_cases g2 : (x &&& bitL (Int32.ofNat k) (Int32.ofNat j)) = 0
        · rw [if_pos g2] at h
          refine step 0 ?_ h
          unfold lP
          rw [decide_eq_false (fun q => q g2), bj_mul]; rfl
        · rw [if_neg g2] at h
          refine step _ ?_ h
          rw [show lP x k j = true from decide_eq_true g2, bj_mul, if_pos rfl]
          unfold wOnS
          rw [ha 1 1 (by decide), ec, ha 1 2 (by decide), em]
          obtain ⟨nc', rfl⟩ : ∃ nc', nc = nc' + 1 := ⟨nc - 1, by omega⟩
          rw [oN_p]
          by_cases g3 : k < nc'
          · rw [if_pos ((oN_lt (by omega) (by omega)).mpr g3)]
            obtain ⟨i, hi⟩ : ∃ i, nc' + 1 - 1 - k = i + 1 := ⟨nc' - k - 1, by omega⟩
            rw [hi]
            show _ = jS (fun e => bj (lA lim e j) * (bj (lP x (k + 1) e) * wU (lP x) (lA lim) m i (k + 1) e)) m
            apply jS_ext
            intro e he
            unfold wOn
            rw [oN_s, ofN_clamp (by omega), hw (k + 1) e (by omega) (by omega) he, show nc' + 1 - 1 - (k + 1) = i by omega]
            rfl
          · rw [if_neg (fun q => g3 ((oN_lt (by omega) (by omega)).mp q)), show nc' + 1 - 1 - k = 0 by omega]
            rfl
    · intro J y z j r ha hj hw h
      simp only [F_34, Nat.reduceEqDiff, reduceIte] at h
      rw [ha 1 2 (by decide)] at h
      by_cases g : I 1 2 ≤ Int32.ofNat j
      · rw [if_pos g] at h
        have := (le_oN (by omega)).mp g
        cases h
        exact ⟨ha, hw, by rw [show j = m by omega]⟩
      · have gl := mt (le_oN (by omega)).mpr g
        rw [if_neg g, ofN_clamp (by omega), oN_s, show 3 + ((0 : Int32)).toNatClampNeg = 3 + 0 from rfl, hw 0 j (Nat.le_refl _) (by omega) (by omega)] at h
        exact ih3 J y z (j + 1) r ha (by omega) hw h
end
section
/-! part 56: how many keys pins let in, on both sides -/
noncomputable def cwP (I : Nat → Nat → Int32) (x : Int64) (lim : Int32) (J : Nat → Nat → Int32) (v : Int32) : Prop := ∀ m nc, (I 1 2).toNatClampNeg = m → I 1 1 = Int32.ofNat nc → m ≤ 6 → nc ≤ 6 → 1 ≤ nc → agW J I ∧ wayC x lim m nc 0 J ∧ v = jS (fun d => bj (lP x 0 d) * wU (lP x) (lA lim) m (nc - 1) 0 d) m
theorem sp_34 {h : sH} {r : sR} {x : Int64} {lim : Int32} {I : Nat → Nat → Int32} {L : Nat → Nat → Int64} {R : Nat → Nat} (th : qH h I L R) (g : qGo 34 [.ref (1), .long x, .int lim] h r) : ∃ v J h1, r = (.inl (some (.int v)), h1) ∧ qH h1 J L R ∧ cwP I x lim J v := by
  refine qg_34 (Q := fun r => ∃ v J h1, r = (.inl (some (.int v)), h1) ∧ qH h1 J L R ∧ cwP I x lim J v) th g (fun N lv hl => ?_)
  refine qW_mono ?_ ((fl_34 N).1 I x lim (I 1 1 - 1) 0 lv h th hl)
  intro r ⟨n, z, e, h1, q1, q2⟩
  refine ⟨z.1, z.2, h1, q1, q2, ?_⟩
  intro m nc em ec bm bc b1
  rw [ec] at e
  exact (sem_34 em ec bm bc b1 n).1 I nc 0 z (fun _ _ _ => rfl) (Nat.le_refl _) (fun c d h1 h2 _ => absurd h2 (by omega)) e
theorem wU_ext {P P' A A' : Nat → Nat → Bool} {m C : Nat} (hP : ∀ c d, c ≤ C → d < m → P c d = P' c d) (hA : ∀ e d, e < m → d < m → A e d = A' e d) : ∀ j c d, c + j ≤ C → d < m → wU P A m j c d = wU P' A' m j c d
  | 0, _, _, _, _ => rfl
  | j + 1, c, d, h, hd => by
    show jS (fun e => bj (A e d) * (bj (P (c + 1) e) * wU P A m j (c + 1) e)) m = jS (fun e => bj (A' e d) * (bj (P' (c + 1) e) * wU P' A' m j (c + 1) e)) m
    apply jS_ext
    intro e he
    rw [hA e d he hd, hP (c + 1) e (by omega) he, wU_ext hP hA j (c + 1) e (by omega) he]
theorem lP_lb {x : Int64} {c d : Nat} (hc : c < 8) (hd : d < 8) : lP x c d = lb x (8 * c + d) := by
  unfold lP
  cases g : lb x (8 * c + d) with
  | true =>
    apply decide_eq_true
    intro h
    have := congrArg (fun z => lb z (8 * c + d)) h
    simp only [lb_and, lb_bit hc hd, lb_0, g, decide_true, Bool.and_self] at this
    cases this
  | false =>
    apply decide_eq_false
    intro h
    apply h
    apply lb_ext
    intro n _
    rw [lb_and, lb_bit hc hd, lb_0]
    by_cases e : n = 8 * c + d
    · rw [e, g]; rfl
    · rw [decide_eq_false e, Bool.and_false]
theorem lA_cA (I : Nat → Nat → Int32) (e d : Nat) : lA (I 85 33) e d = cA I e d := by
  unfold lA cA adjL T_213
  simp only [Int32.zero_sub]
/-- the counts of both sides -/
theorem cnt_CM {I J K K2 : Nat → Nat → Int32} {x : Int64} {lim v w : Int32} {m nc : Nat} (em : (I 1 2).toNatClampNeg = m) (ec : I 1 1 = Int32.ofNat nc) (bm : m ≤ 6) (bc : nc ≤ 6) (b1 : 1 ≤ nc)
    (hc : J 85 31 = I 1 1) (hm : J 85 32 = I 1 2) (ha : J 85 33 = lim) (hp : ∀ c e, c < nc → e < m → lb x (8 * c + e) = tb (J 106 c) e) (hv : cwP I x lim K v) (hw : cntP J K2 w) : v = w := by
  have h1 := (hv m nc em ec bm bc b1).2.2
  have h2 := (hw m nc (by rw [hm]; exact em) (by rw [hc, ec]; exact ofN_clamp (by omega)) bm bc b1).2
  rw [h1, h2, ← w_both (P := cP J) (adj := cA J) (m := m) (nc - 1)]
  have hP : ∀ c d, c ≤ nc - 1 → d < m → lP x c d = cP J c d := fun c d h3 h4 => by
    rw [lP_lb (by omega) (by omega), hp c d (by omega) h4]
    unfold cP hs tb
    rw [shD_nat (by omega)]
  have hA : ∀ e d, e < m → d < m → lA lim e d = cA J e d := fun e d _ _ => by
    rw [← ha]
    exact lA_cA J e d
  apply jS_ext
  intro d hd
  rw [hP 0 d (Nat.zero_le _) hd, wU_ext hP hA (nc - 1) 0 d (by omega) hd]
/-- all depths -/
theorem sem_49 {I : Nat → Nat → Int32} {m nc : Nat} (em : (I 1 2).toNatClampNeg = m) (ec : (I 1 1).toNatClampNeg = nc) (bm : m ≤ 6) (bc : nc ≤ 6) :
    ∀ n, (∀ x c y r, c ≤ nc → (∀ c' d, d < 8 → lb x (8 * c' + d) = decide (c' < c ∧ d < m)) → F_49 I n 4 x (Int32.ofNat c) y = some r → ∀ c' d, d < 8 → lb r (8 * c' + d) = decide (c' < nc ∧ d < m)) ∧
      (∀ x c e r, c < nc → e ≤ m → (∀ c' d, d < 8 → lb x (8 * c' + d) = decide (c' < c ∧ d < m ∨ c' = c ∧ d < e)) → F_49 I n 15 x (Int32.ofNat c) (Int32.ofNat e) = some r → ∀ c' d, d < 8 → lb r (8 * c' + d) = decide (c' < nc ∧ d < m))
  | 0 => ⟨fun _ _ _ _ _ _ h => (by cases h), fun _ _ _ _ _ _ _ h => (by cases h)⟩
  | n + 1 => by
    obtain ⟨ih1, ih2⟩ := sem_49 em ec bm bc n
    refine ⟨?_, ?_⟩
    · intro x c y r hc hx h
      simp only [F_49, reduceIte] at h
      by_cases g : I 1 1 ≤ Int32.ofNat c
      · rw [if_pos g] at h
        have := (le_oN (by omega)).mp g
        cases h
        have e : c = nc := by omega
        subst e
        exact hx
      · rw [if_neg g] at h
        have := mt (le_oN (by omega)).mpr g
        refine ih2 x c 0 r (by omega) (Nat.zero_le _) (fun c' d hd => ?_) h
        rw [hx c' d hd]
        exact decide_eq_decide.mpr ⟨fun q => .inl q, fun q => q.elim id (fun z => absurd z.2 (Nat.not_lt_zero _))⟩
    · intro x c e r hc he hx h
      simp only [F_49, Nat.reduceEqDiff, reduceIte] at h
      by_cases g : I 1 2 ≤ Int32.ofNat e
      · rw [if_pos g, oN_s] at h
        have := (le_oN (by omega)).mp g
        refine ih1 x (c + 1) _ r hc (fun c' d hd => ?_) h
        rw [hx c' d hd]
        apply decide_eq_decide.mpr
        omega
      · rw [if_neg g, oN_s] at h
        have := mt (le_oN (by omega)).mpr g
        refine ih2 _ c (e + 1) r hc (by omega) (fun c' d hd => ?_) h
        rw [lb_or, hx c' d hd, lb_bit (by omega) (by omega)]
        rw [← Bool.decide_or]
        apply decide_eq_decide.mpr
        omega
end
section
/-! part 57: keys, doors, blocks: what both sides hold alike -/
noncomputable def nkI (I : Nat → Nat → Int32) : Nat := (I 85 35).toNatClampNeg
noncomputable def ndI (I : Nat → Nat → Int32) : Nat := (I 85 36).toNatClampNeg
noncomputable def ncI (I : Nat → Nat → Int32) : Nat := (I 85 31).toNatClampNeg
noncomputable def mdI (I : Nat → Nat → Int32) : Nat := (I 85 32).toNatClampNeg
noncomputable def szI (I : Nat → Nat → Int32) : Nat := (I 85 34).toNatClampNeg
noncomputable def nbI (I : Nat → Nat → Int32) : Nat := (I 85 46).toNatClampNeg
/-- the model's own bounds -/
noncomputable def MI (I : Nat → Nat → Int32) : Prop :=
  (I 85 35 = Int32.ofNat (nkI I)) ∧
  (nkI I ≤ 16) ∧
  (I 85 36 = Int32.ofNat (ndI I)) ∧
  (ndI I ≤ 10) ∧
  (I 85 31 = Int32.ofNat (ncI I)) ∧
  (3 ≤ ncI I) ∧
  (ncI I ≤ 6) ∧
  (I 85 32 = Int32.ofNat (mdI I)) ∧
  (2 ≤ mdI I) ∧
  (mdI I ≤ 6) ∧
  (I 85 34 = Int32.ofNat (szI I)) ∧
  (szI I ≤ ncI I) ∧
  (I 85 46 = Int32.ofNat (nbI I)) ∧
  (nbI I ≤ 4) ∧
  (inR (I 85 33) 1 5) ∧
  (∀ k c, k < nkI I → c < ncI I → ∃ e, e < mdI I ∧ I 86 (6 * k + c) = Int32.ofNat e) ∧
  (∀ k c, k < nkI I → c + 1 < ncI I → cA I (dpM I k (c + 1)) (dpM I k c) = true) ∧
  (∀ c, c < szI I → ∃ e, e < mdI I ∧ I 87 c = Int32.ofNat e) ∧
  (∀ c, c + 1 < szI I → cA I (I 87 (c + 1)).toNatClampNeg (I 87 c).toNatClampNeg = true) ∧
  (∀ b, b < nbI I → ∃ e, 1 ≤ e ∧ e ≤ ncI I ∧ I 104 b = Int32.ofNat e) ∧
  (∀ b c, b < nbI I → c < (I 104 b).toNatClampNeg → ∃ e, e < mdI I ∧ I 105 (6 * b + c) = Int32.ofNat e) ∧
  (∀ a b, a < nbI I → b < nbI I → a ≠ b → ∃ c, c < (I 104 a).toNatClampNeg ∧ c < (I 104 b).toNatClampNeg ∧ I 105 (6 * a + c) ≠ I 105 (6 * b + c)) ∧
  (∀ k, k < nkI I → ∃ e, e < nkI I ∧ I 96 k = Int32.ofNat e) ∧
  (∀ k, nkI I ≤ k → k < 16 → I 96 k = Int32.ofNat k) ∧
  (∀ d k, k < 16 → tb (I 88 k) d = true → k < nkI I ∧ d < ndI I) ∧
  (∀ d k, k < 16 → tb (I 88 k) d = true → (I 95 k &&& I 97 d) = 0) ∧
  (∀ k, nkI I ≤ k → k < 16 → I 89 k = -1)
theorem MI.k {I : Nat → Nat → Int32} (h : MI I) : I 85 35 = Int32.ofNat (nkI I) := h.1
theorem MI.kb {I : Nat → Nat → Int32} (h : MI I) : nkI I ≤ 16 := h.2.1
theorem MI.d {I : Nat → Nat → Int32} (h : MI I) : I 85 36 = Int32.ofNat (ndI I) := h.2.2.1
theorem MI.db {I : Nat → Nat → Int32} (h : MI I) : ndI I ≤ 10 := h.2.2.2.1
theorem MI.c {I : Nat → Nat → Int32} (h : MI I) : I 85 31 = Int32.ofNat (ncI I) := h.2.2.2.2.1
theorem MI.c3 {I : Nat → Nat → Int32} (h : MI I) : 3 ≤ ncI I := h.2.2.2.2.2.1
theorem MI.c6 {I : Nat → Nat → Int32} (h : MI I) : ncI I ≤ 6 := h.2.2.2.2.2.2.1
theorem MI.m {I : Nat → Nat → Int32} (h : MI I) : I 85 32 = Int32.ofNat (mdI I) := h.2.2.2.2.2.2.2.1
theorem MI.m2 {I : Nat → Nat → Int32} (h : MI I) : 2 ≤ mdI I := h.2.2.2.2.2.2.2.2.1
theorem MI.m6 {I : Nat → Nat → Int32} (h : MI I) : mdI I ≤ 6 := h.2.2.2.2.2.2.2.2.2.1
theorem MI.s {I : Nat → Nat → Int32} (h : MI I) : I 85 34 = Int32.ofNat (szI I) := h.2.2.2.2.2.2.2.2.2.2.1
theorem MI.sc {I : Nat → Nat → Int32} (h : MI I) : szI I ≤ ncI I := h.2.2.2.2.2.2.2.2.2.2.2.1
theorem MI.b {I : Nat → Nat → Int32} (h : MI I) : I 85 46 = Int32.ofNat (nbI I) := h.2.2.2.2.2.2.2.2.2.2.2.2.1
theorem MI.bb {I : Nat → Nat → Int32} (h : MI I) : nbI I ≤ 4 := h.2.2.2.2.2.2.2.2.2.2.2.2.2.1
theorem MI.ap {I : Nat → Nat → Int32} (h : MI I) : inR (I 85 33) 1 5 := h.2.2.2.2.2.2.2.2.2.2.2.2.2.2.1
theorem MI.dep {I : Nat → Nat → Int32} (h : MI I) : ∀ k c, k < nkI I → c < ncI I → ∃ e, e < mdI I ∧ I 86 (6 * k + c) = Int32.ofNat e := h.2.2.2.2.2.2.2.2.2.2.2.2.2.2.2.1
theorem MI.near {I : Nat → Nat → Int32} (h : MI I) : ∀ k c, k < nkI I → c + 1 < ncI I → cA I (dpM I k (c + 1)) (dpM I k c) = true := h.2.2.2.2.2.2.2.2.2.2.2.2.2.2.2.2.1
theorem MI.told {I : Nat → Nat → Int32} (h : MI I) : ∀ c, c < szI I → ∃ e, e < mdI I ∧ I 87 c = Int32.ofNat e := h.2.2.2.2.2.2.2.2.2.2.2.2.2.2.2.2.2.1
theorem MI.toldn {I : Nat → Nat → Int32} (h : MI I) : ∀ c, c + 1 < szI I → cA I (I 87 (c + 1)).toNatClampNeg (I 87 c).toNatClampNeg = true := h.2.2.2.2.2.2.2.2.2.2.2.2.2.2.2.2.2.2.1
theorem MI.bs {I : Nat → Nat → Int32} (h : MI I) : ∀ b, b < nbI I → ∃ e, 1 ≤ e ∧ e ≤ ncI I ∧ I 104 b = Int32.ofNat e := h.2.2.2.2.2.2.2.2.2.2.2.2.2.2.2.2.2.2.2.1
theorem MI.bd {I : Nat → Nat → Int32} (h : MI I) : ∀ b c, b < nbI I → c < (I 104 b).toNatClampNeg → ∃ e, e < mdI I ∧ I 105 (6 * b + c) = Int32.ofNat e := h.2.2.2.2.2.2.2.2.2.2.2.2.2.2.2.2.2.2.2.2.1
theorem MI.bp {I : Nat → Nat → Int32} (h : MI I) : ∀ a b, a < nbI I → b < nbI I → a ≠ b → ∃ c, c < (I 104 a).toNatClampNeg ∧ c < (I 104 b).toNatClampNeg ∧ I 105 (6 * a + c) ≠ I 105 (6 * b + c) := h.2.2.2.2.2.2.2.2.2.2.2.2.2.2.2.2.2.2.2.2.2.1
theorem MI.rb {I : Nat → Nat → Int32} (h : MI I) : ∀ k, k < nkI I → ∃ e, e < nkI I ∧ I 96 k = Int32.ofNat e := h.2.2.2.2.2.2.2.2.2.2.2.2.2.2.2.2.2.2.2.2.2.2.1
theorem MI.ru {I : Nat → Nat → Int32} (h : MI I) : ∀ k, nkI I ≤ k → k < 16 → I 96 k = Int32.ofNat k := h.2.2.2.2.2.2.2.2.2.2.2.2.2.2.2.2.2.2.2.2.2.2.2.1
theorem MI.wu {I : Nat → Nat → Int32} (h : MI I) : ∀ d k, k < 16 → tb (I 88 k) d = true → k < nkI I ∧ d < ndI I := h.2.2.2.2.2.2.2.2.2.2.2.2.2.2.2.2.2.2.2.2.2.2.2.2.1
theorem MI.wf {I : Nat → Nat → Int32} (h : MI I) : ∀ d k, k < 16 → tb (I 88 k) d = true → (I 95 k &&& I 97 d) = 0 := h.2.2.2.2.2.2.2.2.2.2.2.2.2.2.2.2.2.2.2.2.2.2.2.2.2.1
theorem MI.hu {I : Nat → Nat → Int32} (h : MI I) : ∀ k, nkI I ≤ k → k < 16 → I 89 k = -1 := h.2.2.2.2.2.2.2.2.2.2.2.2.2.2.2.2.2.2.2.2.2.2.2.2.2.2
/-- keys, doors, blocks of the class are those of the model -/
noncomputable def RK (I : Nat → Nat → Int32) (L : Nat → Nat → Int64) (R : Nat → Nat) : Prop :=
  (MI I) ∧
  (I 1 1 = I 85 31) ∧
  (I 1 2 = I 85 32) ∧
  (I 1 3 = I 85 33) ∧
  (I 1 6 = I 85 34) ∧
  (I 0 9 = I 85 35) ∧
  (I 0 10 = I 85 36) ∧
  (I 0 17 = I 85 44) ∧
  (I 0 12 = I 85 46) ∧
  (∀ k, k < nkI I → isCuts (L (19 + k) 0) (dpM I k) (ncI I)) ∧
  (∀ k, k < nkI I → I 95 k = I (19 + k) 1) ∧
  (∀ k, k < 16 → I 92 k = I (19 + k) 2) ∧
  (∀ k, k < 16 → I 89 k = I (19 + k) 4) ∧
  (∀ k, k < nkI I → ¬ I 89 k = -1 → I 90 k = I (19 + k) 5) ∧
  (∀ k j, k < nkI I → j < 32 → (tb (I (19 + k) 3) j = true ↔ j < nkI I ∧ I 96 j = I 96 k)) ∧
  (∀ d k, d < 10 → k < 16 → tb (I (R d) 1) k = tb (I 88 k) d) ∧
  (∀ d k, d < 10 → 16 ≤ k → tb (I (R d) 1) k = false) ∧
  (∀ d, d < 10 → I 97 d = I (R d) 0) ∧
  (∀ d, d < 10 → I 98 d = I (R d) 2) ∧
  (∀ d, d < 10 → 35 ≤ R d ∧ R d ≤ 44) ∧
  (∀ d e, d < 10 → e < 10 → R d = R e → d = e) ∧
  (isCuts (L 1 5) (fun c => (I 87 c).toNatClampNeg) (szI I)) ∧
  (∀ b, b < nbI I → isCuts (L 15 b) (fun c => (I 105 (6 * b + c)).toNatClampNeg) (I 104 b).toNatClampNeg)
theorem RK.mi {I : Nat → Nat → Int32} {L : Nat → Nat → Int64} {R : Nat → Nat} (h : RK I L R) : MI I := h.1
theorem RK.ch {I : Nat → Nat → Int32} {L : Nat → Nat → Int64} {R : Nat → Nat} (h : RK I L R) : I 1 1 = I 85 31 := h.2.1
theorem RK.dp {I : Nat → Nat → Int32} {L : Nat → Nat → Int64} {R : Nat → Nat} (h : RK I L R) : I 1 2 = I 85 32 := h.2.2.1
theorem RK.ap {I : Nat → Nat → Int32} {L : Nat → Nat → Int64} {R : Nat → Nat} (h : RK I L R) : I 1 3 = I 85 33 := h.2.2.2.1
theorem RK.sz {I : Nat → Nat → Int32} {L : Nat → Nat → Int64} {R : Nat → Nat} (h : RK I L R) : I 1 6 = I 85 34 := h.2.2.2.2.1
theorem RK.nk {I : Nat → Nat → Int32} {L : Nat → Nat → Int64} {R : Nat → Nat} (h : RK I L R) : I 0 9 = I 85 35 := h.2.2.2.2.2.1
theorem RK.nd {I : Nat → Nat → Int32} {L : Nat → Nat → Int64} {R : Nat → Nat} (h : RK I L R) : I 0 10 = I 85 36 := h.2.2.2.2.2.2.1
theorem RK.ct {I : Nat → Nat → Int32} {L : Nat → Nat → Int64} {R : Nat → Nat} (h : RK I L R) : I 0 17 = I 85 44 := h.2.2.2.2.2.2.2.1
theorem RK.nb {I : Nat → Nat → Int32} {L : Nat → Nat → Int64} {R : Nat → Nat} (h : RK I L R) : I 0 12 = I 85 46 := h.2.2.2.2.2.2.2.2.1
theorem RK.kc {I : Nat → Nat → Int32} {L : Nat → Nat → Int64} {R : Nat → Nat} (h : RK I L R) : ∀ k, k < nkI I → isCuts (L (19 + k) 0) (dpM I k) (ncI I) := h.2.2.2.2.2.2.2.2.2.1
theorem RK.kp {I : Nat → Nat → Int32} {L : Nat → Nat → Int64} {R : Nat → Nat} (h : RK I L R) : ∀ k, k < nkI I → I 95 k = I (19 + k) 1 := h.2.2.2.2.2.2.2.2.2.2.1
theorem RK.kl {I : Nat → Nat → Int32} {L : Nat → Nat → Int64} {R : Nat → Nat} (h : RK I L R) : ∀ k, k < 16 → I 92 k = I (19 + k) 2 := h.2.2.2.2.2.2.2.2.2.2.2.1
theorem RK.kh {I : Nat → Nat → Int32} {L : Nat → Nat → Int64} {R : Nat → Nat} (h : RK I L R) : ∀ k, k < 16 → I 89 k = I (19 + k) 4 := h.2.2.2.2.2.2.2.2.2.2.2.2.1
theorem RK.kd {I : Nat → Nat → Int32} {L : Nat → Nat → Int64} {R : Nat → Nat} (h : RK I L R) : ∀ k, k < nkI I → ¬ I 89 k = -1 → I 90 k = I (19 + k) 5 := h.2.2.2.2.2.2.2.2.2.2.2.2.2.1
theorem RK.kr {I : Nat → Nat → Int32} {L : Nat → Nat → Int64} {R : Nat → Nat} (h : RK I L R) : ∀ k j, k < nkI I → j < 32 → (tb (I (19 + k) 3) j = true ↔ j < nkI I ∧ I 96 j = I 96 k) := h.2.2.2.2.2.2.2.2.2.2.2.2.2.2.1
theorem RK.wi {I : Nat → Nat → Int32} {L : Nat → Nat → Int64} {R : Nat → Nat} (h : RK I L R) : ∀ d k, d < 10 → k < 16 → tb (I (R d) 1) k = tb (I 88 k) d := h.2.2.2.2.2.2.2.2.2.2.2.2.2.2.2.1
theorem RK.w0 {I : Nat → Nat → Int32} {L : Nat → Nat → Int64} {R : Nat → Nat} (h : RK I L R) : ∀ d k, d < 10 → 16 ≤ k → tb (I (R d) 1) k = false := h.2.2.2.2.2.2.2.2.2.2.2.2.2.2.2.2.1
theorem RK.wa {I : Nat → Nat → Int32} {L : Nat → Nat → Int64} {R : Nat → Nat} (h : RK I L R) : ∀ d, d < 10 → I 97 d = I (R d) 0 := h.2.2.2.2.2.2.2.2.2.2.2.2.2.2.2.2.2.1
theorem RK.bu {I : Nat → Nat → Int32} {L : Nat → Nat → Int64} {R : Nat → Nat} (h : RK I L R) : ∀ d, d < 10 → I 98 d = I (R d) 2 := h.2.2.2.2.2.2.2.2.2.2.2.2.2.2.2.2.2.2.1
theorem RK.rr {I : Nat → Nat → Int32} {L : Nat → Nat → Int64} {R : Nat → Nat} (h : RK I L R) : ∀ d, d < 10 → 35 ≤ R d ∧ R d ≤ 44 := h.2.2.2.2.2.2.2.2.2.2.2.2.2.2.2.2.2.2.2.1
theorem RK.ri {I : Nat → Nat → Int32} {L : Nat → Nat → Int64} {R : Nat → Nat} (h : RK I L R) : ∀ d e, d < 10 → e < 10 → R d = R e → d = e := h.2.2.2.2.2.2.2.2.2.2.2.2.2.2.2.2.2.2.2.2.1
theorem RK.to {I : Nat → Nat → Int32} {L : Nat → Nat → Int64} {R : Nat → Nat} (h : RK I L R) : isCuts (L 1 5) (fun c => (I 87 c).toNatClampNeg) (szI I) := h.2.2.2.2.2.2.2.2.2.2.2.2.2.2.2.2.2.2.2.2.2.1
theorem RK.bl {I : Nat → Nat → Int32} {L : Nat → Nat → Int64} {R : Nat → Nat} (h : RK I L R) : ∀ b, b < nbI I → isCuts (L 15 b) (fun c => (I 105 (6 * b + c)).toNatClampNeg) (I 104 b).toNatClampNeg := h.2.2.2.2.2.2.2.2.2.2.2.2.2.2.2.2.2.2.2.2.2.2
/-- a door's pins, of the class -/
noncomputable def pinC (I : Nat → Nat → Int32) (L : Nat → Nat → Int64) (R : Nat → Nat) (d : Nat) : Int64 := G_14 L (I (R d) 1) 0 0 (nkI I)
theorem MI.dep8 {I : Nat → Nat → Int32} (h : MI I) : ∀ k c, k < nkI I → c < ncI I → ∃ e, e < 8 ∧ I 86 (6 * k + c) = Int32.ofNat e := fun k c h1 h2 => by
  obtain ⟨e, q1, q2⟩ := h.dep k c h1 h2
  have := h.m6
  exact ⟨e, by omega, q2⟩
theorem lay_get {I J : Nat → Nat → Int32} {d : Nat} (h : MI I) (hd : d < 32) (hl : layP I (Int32.ofNat d) J) : agr 106 J I ∧ pinM I d (nkI I) (ncI I) (nkI I) 0 J := hl d (nkI I) (ncI I) rfl hd h.k h.c h.kb h.c6 h.dep8
/-- the pins of both sides -/
theorem pin_RK {I J : Nat → Nat → Int32} {L : Nat → Nat → Int64} {R : Nat → Nat} (h : RK I L R) {d : Nat} (hd : d < 10) (hl : layP I (Int32.ofNat d) J) {c e : Nat} (hc : c < 6) (he : e < 8) : lb (pinC I L R d) (8 * c + e) = tb (J 106 c) e := by
  have hm := h.mi
  exact pin_CM (I := I) (L := L) (w := I (R d) 1) (d := d) hm.kb hm.c6 h.kc (fun k hk => h.wi d k hd (by have := hm.kb; omega)) hm.dep8 (lay_get hm (by omega) hl).2 hc he
/-- a key is let in by a door's pins -/
noncomputable def inP (I : Nat → Nat → Int32) (d k : Nat) : Bool := (List.range (ncI I)).all (fun c => (List.range (nkI I)).any (fun i => tb (I 88 i) d && decide (I 86 (6 * i + c) = I 86 (6 * k + c))))
/-- it fits, too -/
noncomputable def comM (I : Nat → Nat → Int32) (d k : Nat) : Bool := decide ((I 95 k &&& I 97 d) = 0) && inP I d k
noncomputable def opnM (I : Nat → Nat → Int32) (d k : Nat) : Bool := decide (I 98 d = Int32.ofNat k) || comM I d k
theorem inP_iff {I : Nat → Nat → Int32} {d k : Nat} : inP I d k = true ↔ ∀ c, c < ncI I → ∃ i, i < nkI I ∧ tb (I 88 i) d = true ∧ I 86 (6 * i + c) = I 86 (6 * k + c) := by
  unfold inP
  rw [List.all_eq_true]
  constructor
  · intro h c hc
    obtain ⟨i, hi, q⟩ := List.any_eq_true.mp (h c (List.mem_range.mpr hc))
    rw [Bool.and_eq_true, decide_eq_true_eq] at q
    exact ⟨i, List.mem_range.mp hi, q⟩
  · intro h c hc
    obtain ⟨i, hi, q⟩ := h c (List.mem_range.mp hc)
    exact List.any_eq_true.mpr ⟨i, List.mem_range.mpr hi, by rw [Bool.and_eq_true, decide_eq_true_eq]; exact q⟩
theorem bool_iff {a b : Bool} (h : a = true ↔ b = true) : a = b := by
  cases a <;> cases b
  · rfl
  · exact absurd (h.mpr rfl) (by decide)
  · exact absurd (h.mp rfl) (by decide)
  · rfl
/-- who comes in, of the model -/
theorem come_M {I J : Nat → Nat → Int32} (hm : MI I) {d k : Nat} (hd : d < 10) (hk : k < nkI I) (hl : layP I (Int32.ofNat d) J) : comesB J (Int32.ofNat d) (Int32.ofNat k) = comM I d k := by
  have hkb := hm.kb
  have h6 := hm.c6
  obtain ⟨ha, hp⟩ := lay_get hm (show d < 32 by omega) hl
  have key : inB J (Int32.ofNat k) = inP I d k := by
    apply bool_iff
    rw [inP_iff]
    unfold inB
    rw [List.all_eq_true, ha 85 31 (by decide)]
    have one : ∀ c, c < ncI I → (hs (J 106 c) (J 86 ((6 : Int32) * Int32.ofNat k + Int32.ofNat c).toNatClampNeg) = true ↔ ∃ i, i < nkI I ∧ tb (I 88 i) d = true ∧ I 86 (6 * i + c) = I 86 (6 * k + c)) := fun c hc => by
      obtain ⟨e, he, q⟩ := hm.dep8 k c hk hc
      rw [oN_6, ofN_clamp (by omega), ha 86 _ (by decide), q]
      have eh : hs (J 106 c) (Int32.ofNat e) = tb (J 106 c) e := by unfold hs tb; rw [shD_nat (by omega)]
      rw [eh, hp c e (by omega) (by omega)]
      constructor
      · rintro ⟨i, _, q2, q3, q4⟩; exact ⟨i, q2, q3, q4⟩
      · rintro ⟨i, q2, q3, q4⟩; exact ⟨i, .inl ⟨q2, hc⟩, q2, q3, q4⟩
    constructor
    · intro q c hc
      exact (one c hc).mp (q c (List.mem_range.mpr hc))
    · intro q c hc
      exact (one c (List.mem_range.mp hc)).mpr (q c (List.mem_range.mp hc))
  unfold comesB comM
  rw [key, ofN_clamp (by omega), ofN_clamp (by omega), ha 95 k (by decide), ha 97 d (by decide)]
/-- who comes in, of the class -/
theorem come_C {I : Nat → Nat → Int32} {L : Nat → Nat → Int64} {R : Nat → Nat} (h : RK I L R) {d k : Nat} (hd : d < 10) (hk : k < nkI I) : T_17 I L (R d) (pinC I L R d) (Int32.ofNat k) = comM I d k := by
  have hm := h.mi
  have hkb := hm.kb
  have h6 := hm.c6
  have hf : ∀ i c, i < nkI I → c < ncI I → dpM I i c < 8 ∧ I 86 (6 * i + c) = Int32.ofNat (dpM I i c) := fun i c hi hc => by
    obtain ⟨e, q1, q2⟩ := hm.dep8 i c hi hc
    unfold dpM
    rw [q2, ofN_clamp (by omega)]
    exact ⟨q1, rfl⟩
  have key : letIn (L (19 + k) 0) (pinC I L R d) ↔ inP I d k = true := by
    show (_ &&& (_ ^^^ _)) = 0 ↔ _
    rw [letIn_iff (h.kc k hk) h6 (fun c hc => (hf k c hk hc).1), inP_iff]
    have one : ∀ c, c < ncI I → (lb (pinC I L R d) (8 * c + dpM I k c) = true ↔ ∃ i, i < nkI I ∧ tb (I 88 i) d = true ∧ I 86 (6 * i + c) = I 86 (6 * k + c)) := fun c hc => by
      have h8 := (hf k c hk hc).1
      have := lb_14 (L := L) (w := I (R d) 1) (nkI I) 0 0 (8 * c + dpM I k c) (by omega)
      unfold pinC
      rw [this, lb_0]
      constructor
      · rintro (q | ⟨i, _, q2, q3, q4⟩)
        · cases q
        · have hi : i < nkI I := by omega
          rw [h.kc i hi c _ h8, decide_eq_true_eq] at q4
          exact ⟨i, hi, by rw [← h.wi d i hd (by omega)]; exact q3, by rw [(hf i c hi hc).2, (hf k c hk hc).2, q4.2]⟩
      · rintro ⟨i, hi, q3, q4⟩
        refine .inr ⟨i, Nat.zero_le _, by omega, by rw [h.wi d i hd (by omega)]; exact q3, ?_⟩
        rw [h.kc i hi c _ h8, decide_eq_true_eq]
        refine ⟨hc, ?_⟩
        unfold dpM
        rw [q4]
    exact ⟨fun q c hc => (one c hc).mp (q c hc), fun q c hc => (one c hc).mpr (q c hc)⟩
  unfold T_17 comM
  rw [ofN_clamp (by omega), ← h.kp k hk, ← h.wa d hd]
  by_cases h1 : (I 95 k &&& I 97 d) = 0
  · rw [if_pos h1, decide_eq_true h1, Bool.true_and]
    by_cases h2 : letIn (L (19 + k) 0) (pinC I L R d)
    · rw [if_pos h2]
      exact (key.mp h2).symm
    · rw [if_neg h2]
      exact (Bool.eq_false_iff.mpr (fun q => h2 (key.mpr q))).symm
  · rw [if_neg h1, decide_eq_false h1, Bool.false_and]
theorem open_C {I : Nat → Nat → Int32} {L : Nat → Nat → Int64} {R : Nat → Nat} (h : RK I L R) {d k : Nat} (hd : d < 10) (hk : k < nkI I) : T_16 I L (R d) (pinC I L R d) (Int32.ofNat k) = opnM I d k := by
  unfold T_16 opnM
  rw [← h.bu d hd]
  by_cases h1 : I 98 d = Int32.ofNat k
  · rw [if_pos h1, decide_eq_true h1]; rfl
  · rw [if_neg h1, decide_eq_false h1, Bool.false_or, come_C h hd hk]
    cases comM I d k <;> rfl
end
section
/-! part 58: strays, on both sides -/
theorem qg_235 {h : sH} {r : sR} {Q : sR → Prop} {a0 : Int32} {I : Nat → Nat → Int32} {L : Nat → Nat → Int64} {R : Nat → Nat} (th : qH h I L R) (g : qGo 235 [.ref (85), .int (a0)] h r)
    (p1 : ∀ (j1 : Nat → Nat → Int32), ∀ (h2 : sH), ∀ (t3 : qH h2 j1 L R), ∀ (e4 : layP I a0 j1), ∀ N lv, qLs lv [some (.ref (85)), some (.int (a0)), some (.int ((0 : Int32))), some (.int ((0 : Int32)))] → qW 235 N 9 lv [] h2 Q) : Q r := by
  refine qGo_w g (fun N => ?_)
  have hl0 : qLs (lv_args 0 [.ref (85), .int (a0)]) [some (.ref (85)), some (.int (a0)), none, none] := qLs_ar 2
  refine q_aload_n (show mE (mtv 235) 0 = some (.aload_n 0, 1, 0, 0) from rfl) (hl0 0 _ rfl) ?_
  refine q_iload_n (show mE (mtv 235) 1 = some (.iload_n 1, 1, 0, 0) from rfl) (hl0 1 _ rfl) ?_
  refine q_virtualE (show mE (mtv 235) 2 = some (.invokevirtual 192, 3, 229, 9) from rfl) (by decide) rfl rfl rfl (fun _ g => sp_229 th g) ?_
  rintro _ ⟨j1, h2, rfl, t3, e4⟩
  refine qK_n ?_
  refine q_iconst (show mE (mtv 235) 5 = some (.iconst 0, 1, 0, 0) from rfl) kI_0 ?_
  refine q_istore_n (show mE (mtv 235) 6 = some (.istore_n 2, 1, 0, 0) from rfl) (Nat.le_of_ble_eq_true rfl) hl0 (fun lv5 (hl6 : qLs lv5 [some (.ref (85)), some (.int (a0)), some (.int ((0 : Int32))), none]) => ?_)
  refine q_iconst (show mE (mtv 235) 7 = some (.iconst 0, 1, 0, 0) from rfl) kI_0 ?_
  refine q_istore_n (show mE (mtv 235) 8 = some (.istore_n 3, 1, 0, 0) from rfl) (Nat.le_of_ble_eq_true rfl) hl6 (fun lv7 (hl8 : qLs lv7 [some (.ref (85)), some (.int (a0)), some (.int ((0 : Int32))), some (.int ((0 : Int32)))]) => ?_)
  exact p1 j1 h2 t3 e4 _ lv7 (qLs_wk hl8 (⟨rfl, rfl, rfl, rfl, trivial⟩))
theorem qg_235_9 {N : Nat} {lv : sL} {h : sH} {Q : sR → Prop} {x1 : Int32} {x2 : Int32} {x3 : Int32} {I : Nat → Nat → Int32} {L : Nat → Nat → Int64} {R : Nat → Nat} (th : qH h I L R) (hl : qLs lv [some (.ref (85)), some (.int (x1)), some (.int (x2)), some (.int (x3))])
    (p1 : ∀ (c1 : (I 85 35) ≤ x3), Q (.inl (some (.int (x2))), h))
    (p2 : ∀ (c1 : ¬ (I 85 35) ≤ x3), ∀ (c2 : ¬ (comesB I x1 x3 = true)), ∀ lv, qLs lv [some (.ref (85)), some (.int (x1)), some (.int (x2 + (0 : Int32))), some (.int (x3 + (1 : Int32)))] → qW 235 N 9 lv [] h Q)
    (p3 : ∀ (c1 : ¬ (I 85 35) ≤ x3), ∀ (c2 : comesB I x1 x3 = true), ∀ (bb7 : sIn x3 16 = true), ∀ (c8 : hs (I 88 ((x3).toNatClampNeg)) x1 = true), ∀ lv, qLs lv [some (.ref (85)), some (.int (x1)), some (.int (x2 + (0 : Int32))), some (.int (x3 + (1 : Int32)))] → qW 235 N 9 lv [] h Q)
    (p4 : ∀ (c1 : ¬ (I 85 35) ≤ x3), ∀ (c2 : comesB I x1 x3 = true), ∀ (bb7 : sIn x3 16 = true), ∀ (c8 : ¬ (hs (I 88 ((x3).toNatClampNeg)) x1 = true)), ∀ lv, qLs lv [some (.ref (85)), some (.int (x1)), some (.int (x2 + (1 : Int32))), some (.int (x3 + (1 : Int32)))] → qW 235 N 9 lv [] h Q) : qW 235 (N + 1) 9 lv [] h Q := by
  refine q1_iload_n (show mE (mtv 235) 9 = some (.iload_n 3, 1, 0, 0) from rfl) (hl 3 _ rfl) ?_
  refine q_aload_n (show mE (mtv 235) 10 = some (.aload_n 0, 1, 0, 0) from rfl) (hl 0 _ rfl) ?_
  refine q_getI th (show mE (mtv 235) 11 = some (.getfield 117, 3, 9, 35) from rfl) (by decide) rfl ?_
  refine q_ic_ge (t := 53) (show mE (mtv 235) 14 = some (.if_icmp .ge 39, 3, 0, 0) from rfl) rfl (fun c1 => ?_) (fun c1 => ?_)
  · refine q_iload_n (show mE (mtv 235) 53 = some (.iload_n 2, 1, 0, 0) from rfl) (hl 2 _ rfl) ?_
    refine q_ireturn (show mE (mtv 235) 54 = some (.ireturn, 1, 0, 0) from rfl) ?_
    exact p1 c1
  · refine q_iload_n (show mE (mtv 235) 17 = some (.iload_n 2, 1, 0, 0) from rfl) (hl 2 _ rfl) ?_
    refine q_aload_n (show mE (mtv 235) 18 = some (.aload_n 0, 1, 0, 0) from rfl) (hl 0 _ rfl) ?_
    refine q_iload_n (show mE (mtv 235) 19 = some (.iload_n 1, 1, 0, 0) from rfl) (hl 1 _ rfl) ?_
    refine q_iload_n (show mE (mtv 235) 20 = some (.iload_n 3, 1, 0, 0) from rfl) (hl 3 _ rfl) ?_
    refine q_virtualP (show mE (mtv 235) 21 = some (.invokevirtual 202, 3, 233, 9) from rfl) (by decide) rfl rfl rfl (fun _ g => sp_233 th g) ?_
    refine q_ifb_eq (t := 44) (show mE (mtv 235) 24 = some (.ifCond .eq 20, 3, 0, 0) from rfl) rfl (fun c2 => ?_) (fun c2 => ?_)
    · refine q_iconst (show mE (mtv 235) 44 = some (.iconst 0, 1, 0, 0) from rfl) kI_0 ?_
      refine q_iadd (show mE (mtv 235) 45 = some (.iadd, 1, 0, 0) from rfl) ?_
      refine q_istore_n (show mE (mtv 235) 46 = some (.istore_n 2, 1, 0, 0) from rfl) (Nat.le_of_ble_eq_true rfl) hl (fun lv3 (hl4 : qLs lv3 [some (.ref (85)), some (.int (x1)), some (.int (x2 + (0 : Int32))), some (.int (x3))]) => ?_)
      refine q_iinc (show mE (mtv 235) 47 = some (.iinc 3 1, 3, 0, 0) from rfl) (Nat.le_of_ble_eq_true rfl) hl4 (hl4 3 _ rfl) kI_1 (fun lv5 (hl6 : qLs lv5 [some (.ref (85)), some (.int (x1)), some (.int (x2 + (0 : Int32))), some (.int (x3 + (1 : Int32)))]) => ?_)
      refine q_goto (t := 9) (show mE (mtv 235) 50 = some (.goto (-41), 3, 0, 0) from rfl) rfl ?_
      exact p2 c1 c2 lv5 (qLs_wk hl6 (⟨rfl, rfl, rfl, rfl, trivial⟩))
    · refine q_aload_n (show mE (mtv 235) 27 = some (.aload_n 0, 1, 0, 0) from rfl) (hl 0 _ rfl) ?_
      refine q_getR (m := 88) th (show mE (mtv 235) 28 = some (.getfield 16, 3, 9, 2) from rfl) (by decide) rfl rfl ?_
      refine q_iload_n (show mE (mtv 235) 31 = some (.iload_n 3, 1, 0, 0) from rfl) (hl 3 _ rfl) ?_
      refine q_iaload (n := 16) th (show mE (mtv 235) 32 = some (.iaload, 1, 0, 0) from rfl) (by decide) rfl (fun bb7 => ?_)
      refine q_iload_n (show mE (mtv 235) 33 = some (.iload_n 1, 1, 0, 0) from rfl) (hl 1 _ rfl) ?_
      refine q_ishr (show mE (mtv 235) 34 = some (.ishr, 1, 0, 0) from rfl) ?_
      refine q_iconst (show mE (mtv 235) 35 = some (.iconst 1, 1, 0, 0) from rfl) kI_1 ?_
      refine q_iand (show mE (mtv 235) 36 = some (.iand, 1, 0, 0) from rfl) ?_
      rw [hs_is]
      refine q_ifb_ne (t := 44) (show mE (mtv 235) 37 = some (.ifCond .ne 7, 3, 0, 0) from rfl) rfl (fun c8 => ?_) (fun c8 => ?_)
      · refine q_iconst (show mE (mtv 235) 44 = some (.iconst 0, 1, 0, 0) from rfl) kI_0 ?_
        refine q_iadd (show mE (mtv 235) 45 = some (.iadd, 1, 0, 0) from rfl) ?_
        refine q_istore_n (show mE (mtv 235) 46 = some (.istore_n 2, 1, 0, 0) from rfl) (Nat.le_of_ble_eq_true rfl) hl (fun lv9 (hl10 : qLs lv9 [some (.ref (85)), some (.int (x1)), some (.int (x2 + (0 : Int32))), some (.int (x3))]) => ?_)
        refine q_iinc (show mE (mtv 235) 47 = some (.iinc 3 1, 3, 0, 0) from rfl) (Nat.le_of_ble_eq_true rfl) hl10 (hl10 3 _ rfl) kI_1 (fun lv11 (hl12 : qLs lv11 [some (.ref (85)), some (.int (x1)), some (.int (x2 + (0 : Int32))), some (.int (x3 + (1 : Int32)))]) => ?_)
        refine q_goto (t := 9) (show mE (mtv 235) 50 = some (.goto (-41), 3, 0, 0) from rfl) rfl ?_
        exact p3 c1 c2 bb7 c8 lv11 (qLs_wk hl12 (⟨rfl, rfl, rfl, rfl, trivial⟩))
      · refine q_iconst (show mE (mtv 235) 40 = some (.iconst 1, 1, 0, 0) from rfl) kI_1 ?_
        refine q_goto (t := 45) (show mE (mtv 235) 41 = some (.goto 4, 3, 0, 0) from rfl) rfl ?_
        refine q_iadd (show mE (mtv 235) 45 = some (.iadd, 1, 0, 0) from rfl) ?_
        refine q_istore_n (show mE (mtv 235) 46 = some (.istore_n 2, 1, 0, 0) from rfl) (Nat.le_of_ble_eq_true rfl) hl (fun lv13 (hl14 : qLs lv13 [some (.ref (85)), some (.int (x1)), some (.int (x2 + (1 : Int32))), some (.int (x3))]) => ?_)
        refine q_iinc (show mE (mtv 235) 47 = some (.iinc 3 1, 3, 0, 0) from rfl) (Nat.le_of_ble_eq_true rfl) hl14 (hl14 3 _ rfl) kI_1 (fun lv15 (hl16 : qLs lv15 [some (.ref (85)), some (.int (x1)), some (.int (x2 + (1 : Int32))), some (.int (x3 + (1 : Int32)))]) => ?_)
        refine q_goto (t := 9) (show mE (mtv 235) 50 = some (.goto (-41), 3, 0, 0) from rfl) rfl ?_
        exact p4 c1 c2 bb7 c8 lv15 (qLs_wk hl16 (⟨rfl, rfl, rfl, rfl, trivial⟩))
noncomputable def F_235 (I : Nat → Nat → Int32) : Nat → Nat → Int32 → Int32 → Int32 → Option (Int32)
  | 0, _, _, _, _ => none
  | n + 1, t, x1, x2, x3 => if t = 9 then (if (I 85 35) ≤ x3 then some x2 else (if comesB I x1 x3 = true then if hs (I 88 ((x3).toNatClampNeg)) x1 = true then F_235 I n 9 x1 (x2 + (0 : Int32)) (x3 + (1 : Int32)) else (F_235 I n 9 x1 (x2 + (1 : Int32)) (x3 + (1 : Int32))) else (F_235 I n 9 x1 (x2 + (0 : Int32)) (x3 + (1 : Int32))))) else none
theorem fl_235 {I : Nat → Nat → Int32} {L : Nat → Nat → Int64} {R : Nat → Nat} : ∀ N : Nat, (∀ (x1 : Int32) (x2 : Int32) (x3 : Int32) (lv : sL) (h : sH),  qH h I L R → qLs lv [some (.ref (85)), some (.int (x1)), some (.int (x2)), some (.int (x3))] → qW 235 N 9 lv [] h (fun r => ∃ n x, F_235 I n 9 x1 x2 x3 = some x ∧ r = (.inl (some (.int x)), h))) := by
  intro N
  induction N with
  | zero => exact fun _ _ _ _ _ _ _ => qW_0
  | succ N ih =>
    · intro x1 x2 x3 lv h th hl
      refine qg_235_9 th hl (fun c1 => ?_) (fun c1 c2 lv' hl' => ?_) (fun c1 c2 bb7 c8 lv' hl' => ?_) (fun c1 c2 bb7 c8 lv' hl' => ?_)
      · exact ⟨1, x2, by simp only [F_235, Nat.reduceEqDiff, reduceIte, if_pos c1], rfl⟩
      · refine qW_mono ?_ (ih x1 (x2 + (0 : Int32)) (x3 + (1 : Int32)) lv' h th hl')
        intro r ⟨n, x, e, q⟩
        exact ⟨n + 1, x, by simp only [F_235, Nat.reduceEqDiff, reduceIte, if_neg c1, if_neg c2]; exact e, q⟩
      · refine qW_mono ?_ (ih x1 (x2 + (0 : Int32)) (x3 + (1 : Int32)) lv' h th hl')
        intro r ⟨n, x, e, q⟩
        exact ⟨n + 1, x, by simp only [F_235, Nat.reduceEqDiff, reduceIte, if_neg c1, if_pos c2, if_pos c8]; exact e, q⟩
      · refine qW_mono ?_ (ih x1 (x2 + (1 : Int32)) (x3 + (1 : Int32)) lv' h th hl')
        intro r ⟨n, x, e, q⟩
        exact ⟨n + 1, x, by simp only [F_235, Nat.reduceEqDiff, reduceIte, if_neg c1, if_pos c2, if_neg c8]; exact e, q⟩
theorem cnt_77 {I : Nat → Nat → Int32} {L : Nat → Nat → Int64} {a : Nat} {x : Int64} : ∀ m j, j + m ≤ 32 → G_77 I L a x j (jS (fun i => bj (T_17 I L a x (Int32.ofNat i) && !tb (I a 1) i)) j) m = jS (fun i => bj (T_17 I L a x (Int32.ofNat i) && !tb (I a 1) i)) (j + m)
  | 0, _, _ => rfl
  | m + 1, j, h => by
    have ih := cnt_77 (I := I) (L := L) (a := a) (x := x) m (j + 1) (by omega)
    rw [show j + 1 + m = j + (m + 1) by omega] at ih
    rw [← ih]
    have e : hs (I a 1) (Int32.ofNat j) = tb (I a 1) j := by unfold hs tb; rw [shD_nat (by omega)]
    show (if hs (I a 1) (Int32.ofNat j) = true then _ else _) = G_77 I L a x (j + 1) (jS _ j + bj (T_17 I L a x (Int32.ofNat j) && !tb (I a 1) j)) m
    rw [e]
    by_cases h1 : tb (I a 1) j = true
    · rw [if_pos h1, h1, Bool.not_true, Bool.and_false, show bj false = 0 from rfl, Int32.add_zero]
    · rw [if_neg h1, Bool.eq_false_iff.mpr h1, Bool.not_false, Bool.and_true]
      by_cases h2 : T_17 I L a x (Int32.ofNat j) = true
      · rw [if_pos h2, h2]; rfl
      · rw [if_neg h2, Bool.eq_false_iff.mpr h2, show bj false = 0 from rfl, Int32.add_zero]
noncomputable def strM (J : Nat → Nat → Int32) (d : Int32) (i : Nat) : Int32 := bj (comesB J d (Int32.ofNat i) && !hs (J 88 i) d)
theorem sem_235 {J : Nat → Nat → Int32} {d : Int32} : ∀ n j r, j ≤ nkI J → nkI J ≤ 16 → F_235 J n 9 d (jS (strM J d) j) (Int32.ofNat j) = some r → r = jS (strM J d) (nkI J)
  | 0, _, _, _, _, h => by cases h
  | n + 1, j, r, hj, hk, h => by
    simp only [F_235, reduceIte] at h
    by_cases g : J 85 35 ≤ Int32.ofNat j
    · rw [if_pos g] at h
      have : nkI J ≤ j := (le_oN (by omega)).mp g
      cases h
      rw [show j = nkI J by omega]
    · have gl : ¬ nkI J ≤ j := mt (le_oN (by omega)).mpr g
      have step : ∀ z, z = strM J d j → F_235 J n 9 d (jS (strM J d) j + z) (Int32.ofNat (j + 1)) = some r → r = jS (strM J d) (nkI J) := fun z hz h => by
        subst hz
        exact sem_235 n (j + 1) r (by omega) hk h
      rw [if_neg g, oN_s, ofN_clamp (by omega)] at h
      by_cases h1 : comesB J d (Int32.ofNat j) = true
      · rw [if_pos h1] at h
        by_cases h2 : hs (J 88 j) d = true
        · rw [if_pos h2] at h
          refine step 0 ?_ h
          unfold strM; rw [h1, h2]; rfl
        · rw [if_neg h2] at h
          refine step 1 ?_ h
          unfold strM; rw [h1, Bool.eq_false_iff.mpr h2]; rfl
      · rw [if_neg h1] at h
        refine step 0 ?_ h
        unfold strM; rw [Bool.eq_false_iff.mpr h1]; rfl
noncomputable def strS (I : Nat → Nat → Int32) (d i : Nat) : Int32 := bj (comM I d i && !tb (I 88 i) d)
noncomputable def strP (I : Nat → Nat → Int32) (d : Int32) (J : Nat → Nat → Int32) (v : Int32) : Prop := MI I → ∀ dn, dn < 10 → d = Int32.ofNat dn → agr 106 J I ∧ v = jS (strS I dn) (nkI I)
theorem sp_235 {h : sH} {r : sR} {d : Int32} {I : Nat → Nat → Int32} {L : Nat → Nat → Int64} {R : Nat → Nat} (th : qH h I L R) (g : qGo 235 [.ref (85), .int d] h r) : ∃ v J h1, r = (.inl (some (.int v)), h1) ∧ qH h1 J L R ∧ strP I d J v := by
  refine qg_235 (Q := fun r => ∃ v J h1, r = (.inl (some (.int v)), h1) ∧ qH h1 J L R ∧ strP I d J v) th g (fun j1 h2 t3 e4 N lv hl => ?_)
  refine qW_mono ?_ (fl_235 N d 0 0 lv h2 t3 hl)
  intro r ⟨n, x, e, q⟩
  refine ⟨x, j1, h2, q, t3, fun hm dn hd ed => ?_⟩
  subst ed
  have hkb := hm.kb
  have ha := (lay_get hm (show dn < 32 by omega) e4).1
  have ek : nkI j1 = nkI I := by unfold nkI; rw [ha 85 35 (by decide)]
  have h2 := sem_235 n 0 x (Nat.zero_le _) (by rw [ek]; exact hkb) e
  refine ⟨ha, ?_⟩
  rw [h2, ek]
  refine jS_ext (fun i hi => ?_)
  unfold strM strS
  rw [come_M hm hd hi e4, ha 88 i (by decide)]
  unfold hs tb
  rw [shD_nat (by omega)]
/-- the strays of the class -/
theorem str_C {I : Nat → Nat → Int32} {L : Nat → Nat → Int64} {R : Nat → Nat} (h : RK I L R) {d : Nat} (hd : d < 10) : G_77 I L (R d) (pinC I L R d) 0 0 (nkI I) = jS (strS I d) (nkI I) := by
  have hkb := h.mi.kb
  have h1 := cnt_77 (I := I) (L := L) (a := R d) (x := pinC I L R d) (nkI I) 0 (by omega)
  rw [Nat.zero_add] at h1
  refine h1.trans (jS_ext (fun i hi => ?_))
  unfold strS
  rw [come_C h hd hi, h.wi d i hd (by omega)]
end
section
/-! part 59: what scratch cells don't touch; lost keys at a door -/
theorem qg_248 {h : sH} {r : sR} {Q : sR → Prop} {a0 : Int32} (g : qGo 248 [.ref (85), .int (a0)] h r)
    (p1 : ∀ N lv, qLs lv [some (.ref (85)), some (.int (a0)), some (.int ((0 : Int32))), some (.int ((0 : Int32)))] → qW 248 N 4 lv [] h Q) : Q r := by
  refine qGo_w g (fun N => ?_)
  have hl0 : qLs (lv_args 0 [.ref (85), .int (a0)]) [some (.ref (85)), some (.int (a0)), none, none] := qLs_ar 2
  refine q_iconst (show mE (mtv 248) 0 = some (.iconst 0, 1, 0, 0) from rfl) kI_0 ?_
  refine q_istore_n (show mE (mtv 248) 1 = some (.istore_n 2, 1, 0, 0) from rfl) (Nat.le_of_ble_eq_true rfl) hl0 (fun lv1 (hl2 : qLs lv1 [some (.ref (85)), some (.int (a0)), some (.int ((0 : Int32))), none]) => ?_)
  refine q_iconst (show mE (mtv 248) 2 = some (.iconst 0, 1, 0, 0) from rfl) kI_0 ?_
  refine q_istore_n (show mE (mtv 248) 3 = some (.istore_n 3, 1, 0, 0) from rfl) (Nat.le_of_ble_eq_true rfl) hl2 (fun lv3 (hl4 : qLs lv3 [some (.ref (85)), some (.int (a0)), some (.int ((0 : Int32))), some (.int ((0 : Int32)))]) => ?_)
  exact p1 _ lv3 (qLs_wk hl4 (⟨rfl, rfl, rfl, rfl, trivial⟩))
theorem qg_248_4 {N : Nat} {lv : sL} {h : sH} {Q : sR → Prop} {x1 : Int32} {x2 : Int32} {x3 : Int32} {I : Nat → Nat → Int32} {L : Nat → Nat → Int64} {R : Nat → Nat} (th : qH h I L R) (hl : qLs lv [some (.ref (85)), some (.int (x1)), some (.int (x2)), some (.int (x3))])
    (p1 : ∀ (c1 : (I 85 35) ≤ x3), Q (.inl (some (.int (x2))), h))
    (p2 : ∀ (c1 : ¬ (I 85 35) ≤ x3), ∀ (bb2 : sIn x3 16 = true), ∀ (c3 : (I 92 ((x3).toNatClampNeg)) = 0), ∀ lv, qLs lv [some (.ref (85)), some (.int (x1)), some (.int (x2 + (0 : Int32))), some (.int (x3 + (1 : Int32)))] → qW 248 N 4 lv [] h Q)
    (p3 : ∀ (c1 : ¬ (I 85 35) ≤ x3), ∀ (bb2 : sIn x3 16 = true), ∀ (c3 : ¬ (I 92 ((x3).toNatClampNeg)) = 0), ∀ (j9 : Nat → Nat → Int32), ∀ (h10 : sH), ∀ (t11 : qH h10 j9 L R), ∀ (e12 : layP I x1 j9), ∀ (bb13 : sIn x1 10 = true), ∀ (c14 : (j9 98 ((x1).toNatClampNeg)) = x3), ∀ lv, qLs lv [some (.ref (85)), some (.int (x1)), some (.int (x2 + (1 : Int32))), some (.int (x3 + (1 : Int32)))] → qW 248 N 4 lv [] h10 Q)
    (p4 : ∀ (c1 : ¬ (I 85 35) ≤ x3), ∀ (bb2 : sIn x3 16 = true), ∀ (c3 : ¬ (I 92 ((x3).toNatClampNeg)) = 0), ∀ (j9 : Nat → Nat → Int32), ∀ (h10 : sH), ∀ (t11 : qH h10 j9 L R), ∀ (e12 : layP I x1 j9), ∀ (bb13 : sIn x1 10 = true), ∀ (c14 : ¬ (j9 98 ((x1).toNatClampNeg)) = x3), ∀ (c19 : ¬ (comesB j9 x1 x3 = true)), ∀ lv, qLs lv [some (.ref (85)), some (.int (x1)), some (.int (x2 + (0 : Int32))), some (.int (x3 + (1 : Int32)))] → qW 248 N 4 lv [] h10 Q)
    (p5 : ∀ (c1 : ¬ (I 85 35) ≤ x3), ∀ (bb2 : sIn x3 16 = true), ∀ (c3 : ¬ (I 92 ((x3).toNatClampNeg)) = 0), ∀ (j9 : Nat → Nat → Int32), ∀ (h10 : sH), ∀ (t11 : qH h10 j9 L R), ∀ (e12 : layP I x1 j9), ∀ (bb13 : sIn x1 10 = true), ∀ (c14 : ¬ (j9 98 ((x1).toNatClampNeg)) = x3), ∀ (c19 : comesB j9 x1 x3 = true), ∀ lv, qLs lv [some (.ref (85)), some (.int (x1)), some (.int (x2 + (1 : Int32))), some (.int (x3 + (1 : Int32)))] → qW 248 N 4 lv [] h10 Q) : qW 248 (N + 1) 4 lv [] h Q := by
  refine q1_iload_n (show mE (mtv 248) 4 = some (.iload_n 3, 1, 0, 0) from rfl) (hl 3 _ rfl) ?_
  refine q_aload_n (show mE (mtv 248) 5 = some (.aload_n 0, 1, 0, 0) from rfl) (hl 0 _ rfl) ?_
  refine q_getI th (show mE (mtv 248) 6 = some (.getfield 117, 3, 9, 35) from rfl) (by decide) rfl ?_
  refine q_ic_ge (t := 44) (show mE (mtv 248) 9 = some (.if_icmp .ge 35, 3, 0, 0) from rfl) rfl (fun c1 => ?_) (fun c1 => ?_)
  · refine q_iload_n (show mE (mtv 248) 44 = some (.iload_n 2, 1, 0, 0) from rfl) (hl 2 _ rfl) ?_
    refine q_ireturn (show mE (mtv 248) 45 = some (.ireturn, 1, 0, 0) from rfl) ?_
    exact p1 c1
  · refine q_iload_n (show mE (mtv 248) 12 = some (.iload_n 2, 1, 0, 0) from rfl) (hl 2 _ rfl) ?_
    refine q_aload_n (show mE (mtv 248) 13 = some (.aload_n 0, 1, 0, 0) from rfl) (hl 0 _ rfl) ?_
    refine q_getR (m := 92) th (show mE (mtv 248) 14 = some (.getfield 28, 3, 9, 6) from rfl) (by decide) rfl rfl ?_
    refine q_iload_n (show mE (mtv 248) 17 = some (.iload_n 3, 1, 0, 0) from rfl) (hl 3 _ rfl) ?_
    refine q_baload (n := 16) th (show mE (mtv 248) 18 = some (.baload, 1, 0, 0) from rfl) (by decide) rfl (fun bb2 => ?_)
    refine q_if_eq (t := 35) (show mE (mtv 248) 19 = some (.ifCond .eq 16, 3, 0, 0) from rfl) rfl (fun c3 => ?_) (fun c3 => ?_)
    · refine q_iconst (show mE (mtv 248) 35 = some (.iconst 0, 1, 0, 0) from rfl) kI_0 ?_
      refine q_iadd (show mE (mtv 248) 36 = some (.iadd, 1, 0, 0) from rfl) ?_
      refine q_istore_n (show mE (mtv 248) 37 = some (.istore_n 2, 1, 0, 0) from rfl) (Nat.le_of_ble_eq_true rfl) hl (fun lv4 (hl5 : qLs lv4 [some (.ref (85)), some (.int (x1)), some (.int (x2 + (0 : Int32))), some (.int (x3))]) => ?_)
      refine q_iinc (show mE (mtv 248) 38 = some (.iinc 3 1, 3, 0, 0) from rfl) (Nat.le_of_ble_eq_true rfl) hl5 (hl5 3 _ rfl) kI_1 (fun lv6 (hl7 : qLs lv6 [some (.ref (85)), some (.int (x1)), some (.int (x2 + (0 : Int32))), some (.int (x3 + (1 : Int32)))]) => ?_)
      refine q_goto (t := 4) (show mE (mtv 248) 41 = some (.goto (-37), 3, 0, 0) from rfl) rfl ?_
      exact p2 c1 bb2 c3 lv6 (qLs_wk hl7 (⟨rfl, rfl, rfl, rfl, trivial⟩))
    · refine q_aload_n (show mE (mtv 248) 22 = some (.aload_n 0, 1, 0, 0) from rfl) (hl 0 _ rfl) ?_
      refine q_iload_n (show mE (mtv 248) 23 = some (.iload_n 1, 1, 0, 0) from rfl) (hl 1 _ rfl) ?_
      refine q_iload_n (show mE (mtv 248) 24 = some (.iload_n 3, 1, 0, 0) from rfl) (hl 3 _ rfl) ?_
      refine q_virtualI (show mE (mtv 248) 25 = some (.invokevirtual 199, 3, 232, 9) from rfl) (by decide) rfl rfl rfl (fun _ => ?_)
      have hl8 : qLs (lv_args 0 [.ref (85), .int (x1), .int (x3)]) [some (.ref (85)), some (.int (x1)), some (.int (x3))] := qLs_ar 0
      refine q_aload_n (show mE (mtv 232) 0 = some (.aload_n 0, 1, 0, 0) from rfl) (hl8 0 _ rfl) ?_
      refine q_iload_n (show mE (mtv 232) 1 = some (.iload_n 1, 1, 0, 0) from rfl) (hl8 1 _ rfl) ?_
      refine q_virtualE (show mE (mtv 232) 2 = some (.invokevirtual 192, 3, 229, 9) from rfl) (by decide) rfl rfl rfl (fun _ g => sp_229 th g) ?_
      rintro _ ⟨j9, h10, rfl, t11, e12⟩
      refine qK_n ?_
      refine q_aload_n (show mE (mtv 232) 5 = some (.aload_n 0, 1, 0, 0) from rfl) (hl8 0 _ rfl) ?_
      refine q_getR (m := 98) t11 (show mE (mtv 232) 6 = some (.getfield 47, 3, 9, 12) from rfl) (by decide) rfl rfl ?_
      refine q_iload_n (show mE (mtv 232) 9 = some (.iload_n 1, 1, 0, 0) from rfl) (hl8 1 _ rfl) ?_
      refine q_iaload (n := 10) t11 (show mE (mtv 232) 10 = some (.iaload, 1, 0, 0) from rfl) (by decide) rfl (fun bb13 => ?_)
      refine q_iload_n (show mE (mtv 232) 11 = some (.iload_n 2, 1, 0, 0) from rfl) (hl8 2 _ rfl) ?_
      refine q_ic_eq (t := 24) (show mE (mtv 232) 12 = some (.if_icmp .eq 12, 3, 0, 0) from rfl) rfl (fun c14 => ?_) (fun c14 => ?_)
      · refine q_iconst (show mE (mtv 232) 24 = some (.iconst 1, 1, 0, 0) from rfl) kI_1 ?_
        refine q_goto (t := 29) (show mE (mtv 232) 25 = some (.goto 4, 3, 0, 0) from rfl) rfl ?_
        refine q_ireturn (show mE (mtv 232) 29 = some (.ireturn, 1, 0, 0) from rfl) ?_
        refine qK_v ?_
        refine q_iff (t := 35) (show mE (mtv 248) 28 = some (.ifCond .eq 7, 3, 0, 0) from rfl) (by decide) rfl ?_
        refine q_iconst (show mE (mtv 248) 31 = some (.iconst 1, 1, 0, 0) from rfl) kI_1 ?_
        refine q_goto (t := 36) (show mE (mtv 248) 32 = some (.goto 4, 3, 0, 0) from rfl) rfl ?_
        refine q_iadd (show mE (mtv 248) 36 = some (.iadd, 1, 0, 0) from rfl) ?_
        refine q_istore_n (show mE (mtv 248) 37 = some (.istore_n 2, 1, 0, 0) from rfl) (Nat.le_of_ble_eq_true rfl) hl (fun lv15 (hl16 : qLs lv15 [some (.ref (85)), some (.int (x1)), some (.int (x2 + (1 : Int32))), some (.int (x3))]) => ?_)
        refine q_iinc (show mE (mtv 248) 38 = some (.iinc 3 1, 3, 0, 0) from rfl) (Nat.le_of_ble_eq_true rfl) hl16 (hl16 3 _ rfl) kI_1 (fun lv17 (hl18 : qLs lv17 [some (.ref (85)), some (.int (x1)), some (.int (x2 + (1 : Int32))), some (.int (x3 + (1 : Int32)))]) => ?_)
        refine q_goto (t := 4) (show mE (mtv 248) 41 = some (.goto (-37), 3, 0, 0) from rfl) rfl ?_
        exact p3 c1 bb2 c3 j9 h10 t11 e12 bb13 c14 lv17 (qLs_wk hl18 (⟨rfl, rfl, rfl, rfl, trivial⟩))
      · refine q_aload_n (show mE (mtv 232) 15 = some (.aload_n 0, 1, 0, 0) from rfl) (hl8 0 _ rfl) ?_
        refine q_iload_n (show mE (mtv 232) 16 = some (.iload_n 1, 1, 0, 0) from rfl) (hl8 1 _ rfl) ?_
        refine q_iload_n (show mE (mtv 232) 17 = some (.iload_n 2, 1, 0, 0) from rfl) (hl8 2 _ rfl) ?_
        refine q_virtualP (show mE (mtv 232) 18 = some (.invokevirtual 202, 3, 233, 9) from rfl) (by decide) rfl rfl rfl (fun _ g => sp_233 t11 g) ?_
        refine q_ifb_eq (t := 28) (show mE (mtv 232) 21 = some (.ifCond .eq 7, 3, 0, 0) from rfl) rfl (fun c19 => ?_) (fun c19 => ?_)
        · refine q_iconst (show mE (mtv 232) 28 = some (.iconst 0, 1, 0, 0) from rfl) kI_0 ?_
          refine q_ireturn (show mE (mtv 232) 29 = some (.ireturn, 1, 0, 0) from rfl) ?_
          refine qK_v ?_
          refine q_ift (t := 35) (show mE (mtv 248) 28 = some (.ifCond .eq 7, 3, 0, 0) from rfl) (by decide) rfl ?_
          refine q_iconst (show mE (mtv 248) 35 = some (.iconst 0, 1, 0, 0) from rfl) kI_0 ?_
          refine q_iadd (show mE (mtv 248) 36 = some (.iadd, 1, 0, 0) from rfl) ?_
          refine q_istore_n (show mE (mtv 248) 37 = some (.istore_n 2, 1, 0, 0) from rfl) (Nat.le_of_ble_eq_true rfl) hl (fun lv20 (hl21 : qLs lv20 [some (.ref (85)), some (.int (x1)), some (.int (x2 + (0 : Int32))), some (.int (x3))]) => ?_)
          refine q_iinc (show mE (mtv 248) 38 = some (.iinc 3 1, 3, 0, 0) from rfl) (Nat.le_of_ble_eq_true rfl) hl21 (hl21 3 _ rfl) kI_1 (fun lv22 (hl23 : qLs lv22 [some (.ref (85)), some (.int (x1)), some (.int (x2 + (0 : Int32))), some (.int (x3 + (1 : Int32)))]) => ?_)
          refine q_goto (t := 4) (show mE (mtv 248) 41 = some (.goto (-37), 3, 0, 0) from rfl) rfl ?_
          exact p4 c1 bb2 c3 j9 h10 t11 e12 bb13 c14 c19 lv22 (qLs_wk hl23 (⟨rfl, rfl, rfl, rfl, trivial⟩))
        · refine q_iconst (show mE (mtv 232) 24 = some (.iconst 1, 1, 0, 0) from rfl) kI_1 ?_
          refine q_goto (t := 29) (show mE (mtv 232) 25 = some (.goto 4, 3, 0, 0) from rfl) rfl ?_
          refine q_ireturn (show mE (mtv 232) 29 = some (.ireturn, 1, 0, 0) from rfl) ?_
          refine qK_v ?_
          refine q_iff (t := 35) (show mE (mtv 248) 28 = some (.ifCond .eq 7, 3, 0, 0) from rfl) (by decide) rfl ?_
          refine q_iconst (show mE (mtv 248) 31 = some (.iconst 1, 1, 0, 0) from rfl) kI_1 ?_
          refine q_goto (t := 36) (show mE (mtv 248) 32 = some (.goto 4, 3, 0, 0) from rfl) rfl ?_
          refine q_iadd (show mE (mtv 248) 36 = some (.iadd, 1, 0, 0) from rfl) ?_
          refine q_istore_n (show mE (mtv 248) 37 = some (.istore_n 2, 1, 0, 0) from rfl) (Nat.le_of_ble_eq_true rfl) hl (fun lv24 (hl25 : qLs lv24 [some (.ref (85)), some (.int (x1)), some (.int (x2 + (1 : Int32))), some (.int (x3))]) => ?_)
          refine q_iinc (show mE (mtv 248) 38 = some (.iinc 3 1, 3, 0, 0) from rfl) (Nat.le_of_ble_eq_true rfl) hl25 (hl25 3 _ rfl) kI_1 (fun lv26 (hl27 : qLs lv26 [some (.ref (85)), some (.int (x1)), some (.int (x2 + (1 : Int32))), some (.int (x3 + (1 : Int32)))]) => ?_)
          refine q_goto (t := 4) (show mE (mtv 248) 41 = some (.goto (-37), 3, 0, 0) from rfl) rfl ?_
          exact p5 c1 bb2 c3 j9 h10 t11 e12 bb13 c14 c19 lv26 (qLs_wk hl27 (⟨rfl, rfl, rfl, rfl, trivial⟩))
noncomputable def scr (a b : Nat) : Prop := (3 ≤ a ∧ a ≤ 11) ∨ a = 91 ∨ a = 106 ∨ 119 ≤ a ∨ (a = 85 ∧ b = 42)
noncomputable def agS (J I : Nat → Nat → Int32) : Prop := ∀ a b, ¬ scr a b → J a b = I a b
theorem agS_r {J I : Nat → Nat → Int32} (h : agr 106 J I) : agS J I := fun a b hn => h a b (fun e => hn (by unfold scr; omega))
theorem agS_t {J K I : Nat → Nat → Int32} (h : agS J K) (g : agS K I) : agS J I := fun a b hn => (h a b hn).trans (g a b hn)
theorem MI_S {J I : Nat → Nat → Int32} (h : agS J I) (m : MI I) : MI J := by
  have e : ∀ a b, a ≠ 85 → 11 < a → a < 119 → a ≠ 91 → a ≠ 106 → J a b = I a b := fun a b h1 h2 h3 h4 h5 => h a b (by unfold scr; omega)
  have e85 : ∀ b, b ≠ 42 → J 85 b = I 85 b := fun b hb => h 85 b (by unfold scr; omega)
  have e86 : ∀ b, J 86 b = I 86 b := fun b => e 86 b (by decide) (by decide) (by decide) (by decide) (by decide)
  have e87 : ∀ b, J 87 b = I 87 b := fun b => e 87 b (by decide) (by decide) (by decide) (by decide) (by decide)
  have e88 : ∀ b, J 88 b = I 88 b := fun b => e 88 b (by decide) (by decide) (by decide) (by decide) (by decide)
  have e89 : ∀ b, J 89 b = I 89 b := fun b => e 89 b (by decide) (by decide) (by decide) (by decide) (by decide)
  have e95 : ∀ b, J 95 b = I 95 b := fun b => e 95 b (by decide) (by decide) (by decide) (by decide) (by decide)
  have e96 : ∀ b, J 96 b = I 96 b := fun b => e 96 b (by decide) (by decide) (by decide) (by decide) (by decide)
  have e97 : ∀ b, J 97 b = I 97 b := fun b => e 97 b (by decide) (by decide) (by decide) (by decide) (by decide)
  have e104 : ∀ b, J 104 b = I 104 b := fun b => e 104 b (by decide) (by decide) (by decide) (by decide) (by decide)
  have e105 : ∀ b, J 105 b = I 105 b := fun b => e 105 b (by decide) (by decide) (by decide) (by decide) (by decide)
  have nk : nkI J = nkI I := by unfold nkI; rw [e85 35 (by decide)]
  have nd : ndI J = ndI I := by unfold ndI; rw [e85 36 (by decide)]
  have nc : ncI J = ncI I := by unfold ncI; rw [e85 31 (by decide)]
  have md : mdI J = mdI I := by unfold mdI; rw [e85 32 (by decide)]
  have sz : szI J = szI I := by unfold szI; rw [e85 34 (by decide)]
  have nb : nbI J = nbI I := by unfold nbI; rw [e85 46 (by decide)]
  have ca : cA J = cA I := by funext d e; unfold cA; rw [e85 33 (by decide)]
  have dp : dpM J = dpM I := by funext k c; unfold dpM; rw [e86]
  refine ⟨?_, ?_, ?_, ?_, ?_, ?_, ?_, ?_, ?_, ?_, ?_, ?_, ?_, ?_, ?_, ?_, ?_, ?_, ?_, ?_, ?_, ?_, ?_, ?_, ?_, ?_, ?_⟩ <;> try simp only [nk, nd, nc, md, sz, nb, ca, dp, e86, e87, e88, e89, e95, e96, e97, e104, e105]
  · rw [e85 35 (by decide)]; exact m.k
  · exact m.kb
  · rw [e85 36 (by decide)]; exact m.d
  · exact m.db
  · rw [e85 31 (by decide)]; exact m.c
  · exact m.c3
  · exact m.c6
  · rw [e85 32 (by decide)]; exact m.m
  · exact m.m2
  · exact m.m6
  · rw [e85 34 (by decide)]; exact m.s
  · exact m.sc
  · rw [e85 46 (by decide)]; exact m.b
  · exact m.bb
  · rw [e85 33 (by decide)]; exact m.ap
  · exact m.dep
  · exact m.near
  · exact m.told
  · exact m.toldn
  · exact m.bs
  · exact m.bd
  · exact m.bp
  · exact m.rb
  · exact m.ru
  · exact m.wu
  · exact m.wf
  · exact m.hu
theorem nkI_S {J I : Nat → Nat → Int32} (h : agS J I) : nkI J = nkI I := by unfold nkI; rw [h 85 35 (by unfold scr; omega)]
theorem comM_S {J I : Nat → Nat → Int32} (h : agS J I) (d k : Nat) : comM J d k = comM I d k := by
  have e : ∀ a b, a ≠ 85 → 11 < a → a < 119 → a ≠ 91 → a ≠ 106 → J a b = I a b := fun a b h1 h2 h3 h4 h5 => h a b (by unfold scr; omega)
  have e86 : ∀ b, J 86 b = I 86 b := fun b => e 86 b (by decide) (by decide) (by decide) (by decide) (by decide)
  have e88 : ∀ b, J 88 b = I 88 b := fun b => e 88 b (by decide) (by decide) (by decide) (by decide) (by decide)
  have e95 : ∀ b, J 95 b = I 95 b := fun b => e 95 b (by decide) (by decide) (by decide) (by decide) (by decide)
  have e97 : ∀ b, J 97 b = I 97 b := fun b => e 97 b (by decide) (by decide) (by decide) (by decide) (by decide)
  unfold comM inP ncI nkI
  simp only [e86, e88, e95, e97, h 85 35 (by unfold scr; omega), h 85 31 (by unfold scr; omega)]
theorem opnM_S {J I : Nat → Nat → Int32} (h : agS J I) (d k : Nat) : opnM J d k = opnM I d k := by
  unfold opnM
  rw [comM_S h, h 98 d (by unfold scr; omega)]
/-- a lost key that opens a door -/
noncomputable def losM (I : Nat → Nat → Int32) (d i : Nat) : Int32 := bj (!decide (I 92 i = 0) && opnM I d i)
noncomputable def lostM (I : Nat → Nat → Int32) (d : Nat) : Int32 := jS (losM I d) (nkI I)
theorem cnt_13 {I : Nat → Nat → Int32} {L : Nat → Nat → Int64} {a : Nat} {x : Int64} : ∀ m j, j + m ≤ 32 → G_13 I L a x j (jS (fun i => bj (!decide (I (19 + i) 2 = 0) && T_16 I L a x (Int32.ofNat i))) j) m = jS (fun i => bj (!decide (I (19 + i) 2 = 0) && T_16 I L a x (Int32.ofNat i))) (j + m)
  | 0, _, _ => rfl
  | m + 1, j, h => by
    have ih := cnt_13 (I := I) (L := L) (a := a) (x := x) m (j + 1) (by omega)
    rw [show j + 1 + m = j + (m + 1) by omega] at ih
    rw [← ih]
    show (if I (19 + (Int32.ofNat j).toNatClampNeg) 2 = 0 then _ else _) = G_13 I L a x (j + 1) (jS _ j + bj (!decide (I (19 + j) 2 = 0) && T_16 I L a x (Int32.ofNat j))) m
    rw [ofN_clamp (by omega)]
    by_cases h1 : I (19 + j) 2 = 0
    · rw [if_pos h1, decide_eq_true h1, Bool.not_true, Bool.false_and, show bj false = 0 from rfl, Int32.add_zero]
    · rw [if_neg h1, decide_eq_false h1, Bool.not_false, Bool.true_and]
      by_cases h2 : T_16 I L a x (Int32.ofNat j) = true
      · rw [if_pos h2, h2]; rfl
      · rw [if_neg h2, Bool.eq_false_iff.mpr h2, show bj false = 0 from rfl, Int32.add_zero]
theorem los_C {I : Nat → Nat → Int32} {L : Nat → Nat → Int64} {R : Nat → Nat} (h : RK I L R) {d : Nat} (hd : d < 10) : G_13 I L (R d) (pinC I L R d) 0 0 (nkI I) = lostM I d := by
  have hkb := h.mi.kb
  have h1 := cnt_13 (I := I) (L := L) (a := R d) (x := pinC I L R d) (nkI I) 0 (by omega)
  rw [Nat.zero_add] at h1
  refine h1.trans (jS_ext (fun i hi => ?_))
  unfold losM
  rw [open_C h hd hi, h.kl i (by omega)]
theorem sem_248 {I : Nat → Nat → Int32} {L : Nat → Nat → Int64} {R : Nat → Nat} (hm : MI I) {d : Nat} (hd : d < 10) : ∀ N J j lv h, qH h J L R → agr 106 J I → j ≤ nkI I → qLs lv [some (.ref (85)), some (.int (Int32.ofNat d)), some (.int (jS (losM I d) j)), some (.int (Int32.ofNat j))] → qW 248 N 4 lv [] h (fun r => ∃ v J h1, r = (.inl (some (.int v)), h1) ∧ qH h1 J L R ∧ agr 106 J I ∧ v = lostM I d)
  | 0, _, _, _, _, _, _, _, _ => qW_0
  | N + 1, J, j, lv, h, th, ha, hj, hl => by
    have hkb := hm.kb
    have hmJ := MI_S (agS_r ha) hm
    have ek : J 85 35 = Int32.ofNat (nkI I) := (ha 85 35 (by decide)).trans hm.k
    have gl : ¬ J 85 35 ≤ Int32.ofNat j → j < nkI I := fun g => by
      rw [ek] at g
      have := mt (oN_le (by omega) (by omega)).mpr g
      omega
    have nx : ∀ z J' h', qH h' J' L R → agr 106 J' I → j < nkI I → z = losM I d j → ∀ lv', qLs lv' [some (.ref (85)), some (.int (Int32.ofNat d)), some (.int (jS (losM I d) j + z)), some (.int (Int32.ofNat j + 1))] → qW 248 N 4 lv' [] h' (fun r => ∃ v J h1, r = (.inl (some (.int v)), h1) ∧ qH h1 J L R ∧ agr 106 J I ∧ v = lostM I d) := fun z J' h' t' a' hjl hz lv' hl' => by
      subst hz
      rw [oN_s] at hl'
      exact sem_248 hm hd N J' (j + 1) lv' h' t' a' hjl hl'
    have lay : ∀ J', layP J (Int32.ofNat d) J' → agr 106 J' I ∧ (j < nkI I → comesB J' (Int32.ofNat d) (Int32.ofNat j) = comM I d j) := fun J' hl' => by
      have a1 := (lay_get hmJ (show d < 32 by omega) hl').1
      refine ⟨fun a b hn => (a1 a b hn).trans (ha a b hn), fun hjl => ?_⟩
      rw [come_M hmJ hd (by rw [nkI_S (agS_r ha)]; exact hjl) hl', comM_S (agS_r ha)]
    have cl : ∀ x, x < 32 → (Int32.ofNat x).toNatClampNeg = x := fun x hx => ofN_clamp (by omega)
    refine qg_248_4 th hl (fun c1 => ?_) (fun c1 _ c3 lv' hl' => ?_) (fun c1 _ c3 J' h' t' e' _ c14 lv' hl' => ?_) (fun c1 _ c3 J' h' t' e' _ c14 c19 lv' hl' => ?_) (fun c1 _ c3 J' h' t' e' _ c14 c19 lv' hl' => ?_)
    · rw [ek] at c1
      have := (oN_le (by omega) (by omega)).mp c1
      exact ⟨_, J, h, rfl, th, ha, by rw [show j = nkI I by omega]; rfl⟩
    · have hjl := gl c1
      rw [cl j (by omega), ha 92 j (by decide)] at c3
      refine nx 0 J h th ha hjl ?_ lv' hl'
      unfold losM
      rw [decide_eq_true c3]; rfl
    · have hjl := gl c1
      obtain ⟨a1, a2⟩ := lay J' e'
      rw [cl j (by omega), ha 92 j (by decide)] at c3
      rw [cl d (by omega), a1 98 d (by decide)] at c14
      refine nx 1 J' h' t' a1 hjl ?_ lv' hl'
      unfold losM opnM
      rw [decide_eq_false c3, decide_eq_true c14]; rfl
    · have hjl := gl c1
      obtain ⟨a1, a2⟩ := lay J' e'
      rw [cl j (by omega), ha 92 j (by decide)] at c3
      rw [cl d (by omega), a1 98 d (by decide)] at c14
      rw [a2 hjl] at c19
      refine nx 0 J' h' t' a1 hjl ?_ lv' hl'
      unfold losM opnM
      rw [decide_eq_false c3, decide_eq_false c14, Bool.eq_false_iff.mpr c19]; rfl
    · have hjl := gl c1
      obtain ⟨a1, a2⟩ := lay J' e'
      rw [cl j (by omega), ha 92 j (by decide)] at c3
      rw [cl d (by omega), a1 98 d (by decide)] at c14
      rw [a2 hjl] at c19
      refine nx 1 J' h' t' a1 hjl ?_ lv' hl'
      unfold losM opnM
      rw [decide_eq_false c3, decide_eq_false c14, c19]; rfl
noncomputable def lostP (I : Nat → Nat → Int32) (d : Int32) (J : Nat → Nat → Int32) (v : Int32) : Prop := MI I → ∀ dn, dn < 10 → d = Int32.ofNat dn → agr 106 J I ∧ v = lostM I dn
theorem wk_248 {L : Nat → Nat → Int64} {R : Nat → Nat} {d : Int32} : ∀ N J x2 x3 lv h, qH h J L R → qLs lv [some (.ref (85)), some (.int d), some (.int x2), some (.int x3)] → qW 248 N 4 lv [] h (fun r => ∃ v J h1, r = (.inl (some (.int v)), h1) ∧ qH h1 J L R)
  | 0, _, _, _, _, _, _, _ => qW_0
  | N + 1, J, x2, x3, lv, h, th, hl => qg_248_4 th hl (fun _ => ⟨x2, J, h, rfl, th⟩) (fun _ _ _ lv' hl' => wk_248 N J _ _ lv' h th hl') (fun _ _ _ J' h' t' _ _ _ lv' hl' => wk_248 N J' _ _ lv' h' t' hl') (fun _ _ _ J' h' t' _ _ _ _ lv' hl' => wk_248 N J' _ _ lv' h' t' hl') (fun _ _ _ J' h' t' _ _ _ _ lv' hl' => wk_248 N J' _ _ lv' h' t' hl')
theorem sp_248 {h : sH} {r : sR} {d : Int32} {I : Nat → Nat → Int32} {L : Nat → Nat → Int64} {R : Nat → Nat} (th : qH h I L R) (g : qGo 248 [.ref (85), .int d] h r) : ∃ v J h1, r = (.inl (some (.int v)), h1) ∧ qH h1 J L R ∧ lostP I d J v := by
  by_cases c : MI I ∧ ∃ dn, dn < 10 ∧ d = Int32.ofNat dn
  · obtain ⟨hm, dn, hd, rfl⟩ := c
    refine qg_248 (Q := fun r => ∃ v J h1, r = (.inl (some (.int v)), h1) ∧ qH h1 J L R ∧ lostP I (Int32.ofNat dn) J v) g (fun N lv hl => ?_)
    refine qW_mono ?_ (sem_248 hm hd N I 0 lv h th (fun _ _ _ => rfl) (Nat.zero_le _) hl)
    intro r ⟨v, J, h1, q1, q2, q3, q4⟩
    refine ⟨v, J, h1, q1, q2, fun _ dm hd2 e => ?_⟩
    have : dn = dm := (oN_inj (by omega) (by omega)).mp e
    subst this
    exact ⟨q3, q4⟩
  · refine qg_248 (Q := fun r => ∃ v J h1, r = (.inl (some (.int v)), h1) ∧ qH h1 J L R ∧ lostP I d J v) g (fun N lv hl => ?_)
    refine qW_mono ?_ (wk_248 N I 0 0 lv h th hl)
    intro r ⟨v, J, h1, q1, q2⟩
    exact ⟨v, J, h1, q1, q2, fun hm dm hd e => absurd ⟨hm, dm, hd, e⟩ c⟩
end
section
/-! part 60: doors that a lost key opens -/
theorem qg_247 {h : sH} {r : sR} {Q : sR → Prop} (g : qGo 247 [.ref (85)] h r)
    (p1 : ∀ N lv, qLs lv [some (.ref (85)), some (.int ((0 : Int32))), some (.int ((0 : Int32)))] → qW 247 N 4 lv [] h Q) : Q r := by
  refine qGo_w g (fun N => ?_)
  have hl0 : qLs (lv_args 0 [.ref (85)]) [some (.ref (85)), none, none] := qLs_ar 2
  refine q_iconst (show mE (mtv 247) 0 = some (.iconst 0, 1, 0, 0) from rfl) kI_0 ?_
  refine q_istore_n (show mE (mtv 247) 1 = some (.istore_n 1, 1, 0, 0) from rfl) (Nat.le_of_ble_eq_true rfl) hl0 (fun lv1 (hl2 : qLs lv1 [some (.ref (85)), some (.int ((0 : Int32))), none]) => ?_)
  refine q_iconst (show mE (mtv 247) 2 = some (.iconst 0, 1, 0, 0) from rfl) kI_0 ?_
  refine q_istore_n (show mE (mtv 247) 3 = some (.istore_n 2, 1, 0, 0) from rfl) (Nat.le_of_ble_eq_true rfl) hl2 (fun lv3 (hl4 : qLs lv3 [some (.ref (85)), some (.int ((0 : Int32))), some (.int ((0 : Int32)))]) => ?_)
  exact p1 _ lv3 (qLs_wk hl4 (⟨rfl, rfl, rfl, trivial⟩))
theorem qg_247_4 {N : Nat} {lv : sL} {h : sH} {Q : sR → Prop} {x1 : Int32} {x2 : Int32} {I : Nat → Nat → Int32} {L : Nat → Nat → Int64} {R : Nat → Nat} (th : qH h I L R) (hl : qLs lv [some (.ref (85)), some (.int (x1)), some (.int (x2))])
    (p1 : ∀ (c1 : (I 85 36) ≤ x2), Q (.inl (some (.int (x1))), h))
    (p2 : ∀ (c1 : ¬ (I 85 36) ≤ x2), ∀ (v6 : Int32), ∀ (j2 : Nat → Nat → Int32), ∀ (h3 : sH), ∀ (t4 : qH h3 j2 L R), ∀ (e5 : lostP I x2 j2 v6), ∀ (c7 : v6 ≤ 0), ∀ lv, qLs lv [some (.ref (85)), some (.int (x1 + (0 : Int32))), some (.int (x2 + (1 : Int32)))] → qW 247 N 4 lv [] h3 Q)
    (p3 : ∀ (c1 : ¬ (I 85 36) ≤ x2), ∀ (v6 : Int32), ∀ (j2 : Nat → Nat → Int32), ∀ (h3 : sH), ∀ (t4 : qH h3 j2 L R), ∀ (e5 : lostP I x2 j2 v6), ∀ (c7 : ¬ v6 ≤ 0), ∀ lv, qLs lv [some (.ref (85)), some (.int (x1 + (1 : Int32))), some (.int (x2 + (1 : Int32)))] → qW 247 N 4 lv [] h3 Q) : qW 247 (N + 1) 4 lv [] h Q := by
  refine q1_iload_n (show mE (mtv 247) 4 = some (.iload_n 2, 1, 0, 0) from rfl) (hl 2 _ rfl) ?_
  refine q_aload_n (show mE (mtv 247) 5 = some (.aload_n 0, 1, 0, 0) from rfl) (hl 0 _ rfl) ?_
  refine q_getI th (show mE (mtv 247) 6 = some (.getfield 120, 3, 9, 36) from rfl) (by decide) rfl ?_
  refine q_ic_ge (t := 34) (show mE (mtv 247) 9 = some (.if_icmp .ge 25, 3, 0, 0) from rfl) rfl (fun c1 => ?_) (fun c1 => ?_)
  · refine q_iload_n (show mE (mtv 247) 34 = some (.iload_n 1, 1, 0, 0) from rfl) (hl 1 _ rfl) ?_
    refine q_ireturn (show mE (mtv 247) 35 = some (.ireturn, 1, 0, 0) from rfl) ?_
    exact p1 c1
  · refine q_iload_n (show mE (mtv 247) 12 = some (.iload_n 1, 1, 0, 0) from rfl) (hl 1 _ rfl) ?_
    refine q_aload_n (show mE (mtv 247) 13 = some (.aload_n 0, 1, 0, 0) from rfl) (hl 0 _ rfl) ?_
    refine q_iload_n (show mE (mtv 247) 14 = some (.iload_n 2, 1, 0, 0) from rfl) (hl 2 _ rfl) ?_
    refine q_virtualE (show mE (mtv 247) 15 = some (.invokevirtual 230, 3, 248, 9) from rfl) (by decide) rfl rfl rfl (fun _ g => sp_248 th g) ?_
    rintro _ ⟨v6, j2, h3, rfl, t4, e5⟩
    refine qK_v ?_
    refine q_if_le (t := 25) (show mE (mtv 247) 18 = some (.ifCond .le 7, 3, 0, 0) from rfl) rfl (fun c7 => ?_) (fun c7 => ?_)
    · refine q_iconst (show mE (mtv 247) 25 = some (.iconst 0, 1, 0, 0) from rfl) kI_0 ?_
      refine q_iadd (show mE (mtv 247) 26 = some (.iadd, 1, 0, 0) from rfl) ?_
      refine q_istore_n (show mE (mtv 247) 27 = some (.istore_n 1, 1, 0, 0) from rfl) (Nat.le_of_ble_eq_true rfl) hl (fun lv8 (hl9 : qLs lv8 [some (.ref (85)), some (.int (x1 + (0 : Int32))), some (.int (x2))]) => ?_)
      refine q_iinc (show mE (mtv 247) 28 = some (.iinc 2 1, 3, 0, 0) from rfl) (Nat.le_of_ble_eq_true rfl) hl9 (hl9 2 _ rfl) kI_1 (fun lv10 (hl11 : qLs lv10 [some (.ref (85)), some (.int (x1 + (0 : Int32))), some (.int (x2 + (1 : Int32)))]) => ?_)
      refine q_goto (t := 4) (show mE (mtv 247) 31 = some (.goto (-27), 3, 0, 0) from rfl) rfl ?_
      exact p2 c1 v6 j2 h3 t4 e5 c7 lv10 (qLs_wk hl11 (⟨rfl, rfl, rfl, trivial⟩))
    · refine q_iconst (show mE (mtv 247) 21 = some (.iconst 1, 1, 0, 0) from rfl) kI_1 ?_
      refine q_goto (t := 26) (show mE (mtv 247) 22 = some (.goto 4, 3, 0, 0) from rfl) rfl ?_
      refine q_iadd (show mE (mtv 247) 26 = some (.iadd, 1, 0, 0) from rfl) ?_
      refine q_istore_n (show mE (mtv 247) 27 = some (.istore_n 1, 1, 0, 0) from rfl) (Nat.le_of_ble_eq_true rfl) hl (fun lv12 (hl13 : qLs lv12 [some (.ref (85)), some (.int (x1 + (1 : Int32))), some (.int (x2))]) => ?_)
      refine q_iinc (show mE (mtv 247) 28 = some (.iinc 2 1, 3, 0, 0) from rfl) (Nat.le_of_ble_eq_true rfl) hl13 (hl13 2 _ rfl) kI_1 (fun lv14 (hl15 : qLs lv14 [some (.ref (85)), some (.int (x1 + (1 : Int32))), some (.int (x2 + (1 : Int32)))]) => ?_)
      refine q_goto (t := 4) (show mE (mtv 247) 31 = some (.goto (-27), 3, 0, 0) from rfl) rfl ?_
      exact p3 c1 v6 j2 h3 t4 e5 c7 lv14 (qLs_wk hl15 (⟨rfl, rfl, rfl, trivial⟩))
theorem lostM_S {J I : Nat → Nat → Int32} (h : agS J I) (d : Nat) : lostM J d = lostM I d := by
  unfold lostM
  rw [nkI_S h]
  refine jS_ext (fun i _ => ?_)
  unfold losM
  rw [opnM_S h, h 92 i (by unfold scr; omega)]
noncomputable def unsM (I : Nat → Nat → Int32) (d : Nat) : Int32 := bj (!decide (lostM I d ≤ 0))
noncomputable def unsafeM (I : Nat → Nat → Int32) : Int32 := jS (unsM I) (ndI I)
theorem sem_247 {I : Nat → Nat → Int32} {L : Nat → Nat → Int64} {R : Nat → Nat} (hm : MI I) : ∀ N J j lv h, qH h J L R → agr 106 J I → j ≤ ndI I → qLs lv [some (.ref (85)), some (.int (jS (unsM I) j)), some (.int (Int32.ofNat j))] → qW 247 N 4 lv [] h (fun r => ∃ v J h1, r = (.inl (some (.int v)), h1) ∧ qH h1 J L R ∧ agr 106 J I ∧ v = unsafeM I)
  | 0, _, _, _, _, _, _, _, _ => qW_0
  | N + 1, J, j, lv, h, th, ha, hj, hl => by
    have hdb := hm.db
    have hmJ := MI_S (agS_r ha) hm
    have ed : J 85 36 = Int32.ofNat (ndI I) := (ha 85 36 (by decide)).trans hm.d
    have gl : ¬ J 85 36 ≤ Int32.ofNat j → j < ndI I := fun g => by
      rw [ed] at g
      have := mt (oN_le (by omega) (by omega)).mpr g
      omega
    have nx : ∀ z J' h', qH h' J' L R → agr 106 J' I → j < ndI I → z = unsM I j → ∀ lv', qLs lv' [some (.ref (85)), some (.int (jS (unsM I) j + z)), some (.int (Int32.ofNat j + 1))] → qW 247 N 4 lv' [] h' (fun r => ∃ v J h1, r = (.inl (some (.int v)), h1) ∧ qH h1 J L R ∧ agr 106 J I ∧ v = unsafeM I) := fun z J' h' t' a' hjl hz lv' hl' => by
      subst hz
      rw [oN_s] at hl'
      exact sem_247 hm N J' (j + 1) lv' h' t' a' hjl hl'
    refine qg_247_4 th hl (fun c1 => ?_) (fun c1 v J' h' t' e' c7 lv' hl' => ?_) (fun c1 v J' h' t' e' c7 lv' hl' => ?_)
    · rw [ed] at c1
      have := (oN_le (by omega) (by omega)).mp c1
      exact ⟨_, J, h, rfl, th, ha, by rw [show j = ndI I by omega]; rfl⟩
    · have hjl := gl c1
      obtain ⟨a1, a2⟩ := e' hmJ j (by omega) rfl
      rw [a2, lostM_S (agS_r ha)] at c7
      refine nx 0 J' h' t' (fun a b hn => (a1 a b hn).trans (ha a b hn)) hjl ?_ lv' hl'
      unfold unsM
      rw [decide_eq_true c7]; rfl
    · have hjl := gl c1
      obtain ⟨a1, a2⟩ := e' hmJ j (by omega) rfl
      rw [a2, lostM_S (agS_r ha)] at c7
      refine nx 1 J' h' t' (fun a b hn => (a1 a b hn).trans (ha a b hn)) hjl ?_ lv' hl'
      unfold unsM
      rw [decide_eq_false c7]; rfl
theorem wk_247 {L : Nat → Nat → Int64} {R : Nat → Nat} : ∀ N J x1 x2 lv h, qH h J L R → qLs lv [some (.ref (85)), some (.int x1), some (.int x2)] → qW 247 N 4 lv [] h (fun r => ∃ v J h1, r = (.inl (some (.int v)), h1) ∧ qH h1 J L R)
  | 0, _, _, _, _, _, _, _ => qW_0
  | N + 1, J, x1, x2, lv, h, th, hl => qg_247_4 th hl (fun _ => ⟨x1, J, h, rfl, th⟩) (fun _ _ J' h' t' _ _ lv' hl' => wk_247 N J' _ _ lv' h' t' hl') (fun _ _ J' h' t' _ _ lv' hl' => wk_247 N J' _ _ lv' h' t' hl')
noncomputable def unsP (I J : Nat → Nat → Int32) (v : Int32) : Prop := MI I → agr 106 J I ∧ v = unsafeM I
theorem sp_247 {h : sH} {r : sR} {I : Nat → Nat → Int32} {L : Nat → Nat → Int64} {R : Nat → Nat} (th : qH h I L R) (g : qGo 247 [.ref (85)] h r) : ∃ v J h1, r = (.inl (some (.int v)), h1) ∧ qH h1 J L R ∧ unsP I J v := by
  refine qg_247 (Q := fun r => ∃ v J h1, r = (.inl (some (.int v)), h1) ∧ qH h1 J L R ∧ unsP I J v) g (fun N lv hl => ?_)
  by_cases hm : MI I
  · refine qW_mono ?_ (sem_247 hm N I 0 lv h th (fun _ _ _ => rfl) (Nat.zero_le _) hl)
    intro r ⟨v, J, h1, q1, q2, q3, q4⟩
    exact ⟨v, J, h1, q1, q2, fun _ => ⟨q3, q4⟩⟩
  · refine qW_mono ?_ (wk_247 N I 0 0 lv h th hl)
    intro r ⟨v, J, h1, q1, q2⟩
    exact ⟨v, J, h1, q1, q2, fun hm2 => absurd hm2 hm⟩
/-- the class counts the same doors -/
theorem uns_C {I : Nat → Nat → Int32} {L : Nat → Nat → Int64} {R : Nat → Nat} (h : RK I L R) : ∀ m j, j + m ≤ 10 → G_12 I L R j (jS (unsM I) j) m = jS (unsM I) (j + m)
  | 0, _, _ => rfl
  | m + 1, j, hj => by
    have ih := uns_C h m (j + 1) (by omega)
    rw [show j + 1 + m = j + (m + 1) by omega] at ih
    rw [← ih]
    have e := los_C h (d := j) (by omega)
    show (if _ then _ else _) = G_12 I L R (j + 1) (jS (unsM I) j + unsM I j) m
    rw [ofN_clamp (by omega), show (I 0 9).toNatClampNeg = nkI I by rw [h.nk]; rfl]
    unfold pinC at e
    rw [e]
    unfold unsM
    by_cases c : lostM I j ≤ 0
    · rw [if_pos c, decide_eq_true c, show bj (!true) = 0 from rfl, Int32.add_zero]
    · rw [if_neg c, decide_eq_false c]; rfl
end
