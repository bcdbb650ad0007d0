/-! part 53: local arrays; what the loops of keys and doors mean -/
/-! a local array -/
theorem vI_ap {h : sH} {c : sC} (hz : ∀ g, iOf ((sVs c).getD g .null) = 0) : vI (h ++ [c]) = vI h := by
  funext b g
  unfold vI
  rcases Nat.lt_trichotomy b h.length with e | e | e
  · rw [List.getElem?_append_left e]
  · subst e
    rw [List.getElem?_concat_length, List.getElem?_eq_none (Nat.le_refl _)]
    exact hz g
  · rw [List.getElem?_eq_none (by rw [List.length_append]; exact e), List.getElem?_eq_none (Nat.le_of_lt e)]
theorem vL_ap {h : sH} {c : sC} (hz : ∀ g, lOf ((sVs c).getD g .null) = 0) : vL (h ++ [c]) = vL h := by
  funext b g
  unfold vL
  rcases Nat.lt_trichotomy b h.length with e | e | e
  · rw [List.getElem?_append_left e]
  · subst e
    rw [List.getElem?_concat_length, List.getElem?_eq_none (Nat.le_refl _)]
    exact hz g
  · rw [List.getElem?_eq_none (by rw [List.length_append]; exact e), List.getElem?_eq_none (Nat.le_of_lt e)]
theorem tInv_ap {h : sH} {c : sC} (ht : tInv h) (hc : eGb c) : tInv (h ++ [c]) := by
  obtain ⟨t1, t2, t3⟩ := ht
  refine ⟨by rw [List.length_append]; omega, fun a d ha hd => ?_, fun a d ha hd => ?_⟩
  · rw [List.getElem?_append_left (by omega)] at hd
    exact t2 a d ha hd
  · by_cases e : a < h.length
    · rw [List.getElem?_append_left e] at hd
      exact t3 a d ha hd
    · have hl := (List.getElem?_eq_some_iff.mp hd).1
      rw [List.length_append] at hl
      have e2 : a = h.length := by
        have : ([c] : List sC).length = 1 := rfl
        omega
      subst e2
      rw [List.getElem?_concat_length] at hd
      cases hd
      exact hc
theorem g6 : ∀ g : Nat, ∃ v : Value, (List.replicate 6 (Value.int 0)).getD g .null = v ∧ iOf v = 0 ∧ lOf v = 0
  | 0 => ⟨_, rfl, rfl, rfl⟩
  | 1 => ⟨_, rfl, rfl, rfl⟩
  | 2 => ⟨_, rfl, rfl, rfl⟩
  | 3 => ⟨_, rfl, rfl, rfl⟩
  | 4 => ⟨_, rfl, rfl, rfl⟩
  | 5 => ⟨_, rfl, rfl, rfl⟩
  | _ + 6 => ⟨_, rfl, rfl, rfl⟩
theorem qH_ap {h : sH} {I : Nat → Nat → Int32} {L : Nat → Nat → Int64} {R : Nat → Nat} (th : qH h I L R) : qH (h ++ [.inl (0, List.replicate 6 (.int 0))]) I L R := by
  obtain ⟨t1, rfl, rfl, rfl⟩ := th
  refine ⟨tInv_ap t1 ⟨_, rfl, rfl, fun v hv => ⟨0, (List.mem_replicate.mp hv).2⟩⟩, vI_ap (fun g => ?_), vL_ap (fun g => ?_), ?_⟩
  · obtain ⟨v, e, h1, _⟩ := g6 g
    show iOf ((List.replicate 6 (Value.int 0)).getD g .null) = 0
    rw [e, h1]
  · obtain ⟨v, e, _, h2⟩ := g6 g
    show lOf ((List.replicate 6 (Value.int 0)).getD g .null) = 0
    rw [e, h2]
  · funext j
    unfold vR
    rw [List.getElem?_append_left (by have := t1.1; omega)]
theorem q_newarray {K N pc a1 a2 ln : Nat} {Q : sR → Prop} {lv : sL} {st : List Value} {h : sH} {I : Nat → Nat → Int32} {L : Nat → Nat → Int64} {R : Nat → Nat} (th : qH h I L R) (he : mE (mtv K) pc = some (.newarray .int, ln, a1, a2)) (h1 : ¬ 1000 ≤ a1)
    (k : ∀ p h', p = h.length → 119 ≤ p → h'.length = h.length + 1 → (∀ f, I p f = 0) → qH h' I L R → qW K N (pc + 2) lv (.ref p :: st) h' Q) : qW K N pc lv (.int 6 :: st) h Q := qW_le (Nat.le_succ N) (q_step1 (fun D cl sl z hz => by
  unfold sStep at hz
  rw [he] at hz; dsimp only at hz
  rw [show sP (mL (mtv K)) (.newarray .int) pc lv (.int 6 :: st) = none from rfl] at hz; dsimp only at hz
  rw [show sHp none (.newarray .int) a1 a2 pc lv (.int 6 :: st) h = none from rfl] at hz; dsimp only at hz
  rw [show sRet (mR (mtv K)) (.newarray .int) (.int 6 :: st) = none from rfl] at hz; dsimp only at hz
  rw [if_neg h1, show sInv0 mtv (.newarray .int) a1 a2 (.int 6 :: st) h = none from rfl] at hz; dsimp only at hz
  cases g : sAl (mC (mtv K)) (mS (mtv K)) (.newarray .int) a1 pc lv (.int 6 :: st) h cl sl with
  | none => rw [g] at hz; cases hz
  | some q =>
    rw [g] at hz; cases hz
    unfold sAl at g; dsimp only at g
    split at g
    · cases g
      exact fun n r hn hr => k h.length (h ++ [.inl (0, List.replicate 6 (.int 0))]) rfl th.1.1 (by rw [List.length_append]; rfl) (fun f => by
        rw [← th.2.1]; unfold vI; rw [List.getElem?_eq_none (Nat.le_refl _)]) (qH_ap th) n D _ _ r hn hr
    · cases g))
theorem q_idiv {K N pc a1 a2 ln : Nat} {Q : sR → Prop} {lv : sL} {st : List Value} {h : sH} {x y : Int32} (he : mE (mtv K) pc = some (.idiv, ln, a1, a2)) (k : ¬ y = 0 → qW K N (pc + 1) lv (.int (x / y) :: st) h Q) : qW K N pc lv (.int y :: .int x :: st) h Q := by
  by_cases hy : y = 0
  · refine qW_le (Nat.le_succ N) (q_step1 (fun D cl sl z hz => ?_))
    have e : sP (mL (mtv K)) .idiv pc lv (.int y :: .int x :: st) = none := if_pos hy
    rw [sNo he e rfl rfl rfl rfl rfl] at hz
    cases hz
  · exact q_P he (show (if y = 0 then none else _) = _ from if_neg hy) (k hy)
theorem q_irem {K N pc a1 a2 ln : Nat} {Q : sR → Prop} {lv : sL} {st : List Value} {h : sH} {x y : Int32} (he : mE (mtv K) pc = some (.irem, ln, a1, a2)) (k : ¬ y = 0 → qW K N (pc + 1) lv (.int (x - x / y * y) :: st) h Q) : qW K N pc lv (.int y :: .int x :: st) h Q := by
  by_cases hy : y = 0
  · refine qW_le (Nat.le_succ N) (q_step1 (fun D cl sl z hz => ?_))
    have e : sP (mL (mtv K)) .irem pc lv (.int y :: .int x :: st) = none := if_pos hy
    rw [sNo he e rfl rfl rfl rfl rfl] at hz
    cases hz
  · exact q_P he (show (if y = 0 then none else _) = _ from if_neg hy) (k hy)
theorem q_fdiv {K N pc a1 a2 ln : Nat} {Q : sR → Prop} {lv : sL} {st : List Value} {h : sH} {x y : UInt32} (he : mE (mtv K) pc = some (.fdiv, ln, a1, a2)) (k : qW K N (pc + 1) lv (.float (FP.fdiv x y) :: st) h Q) : qW K N pc lv (.float y :: .float x :: st) h Q := by
  by_cases hy : FP.fdiv x y &&& 0x7fffffff ≤ 0x7f800000
  · exact q_P he (show (if FP.fdiv x y &&& 0x7fffffff ≤ 0x7f800000 then some _ else none) = _ from if_pos hy) k
  · refine qW_le (Nat.le_succ N) (q_step1 (fun D cl sl z hz => ?_))
    have e : sP (mL (mtv K)) .fdiv pc lv (.float y :: .float x :: st) = none := if_neg hy
    rw [sNo he e rfl rfl rfl rfl rfl] at hz
    cases hz
theorem q_ddiv {K N pc a1 a2 ln : Nat} {Q : sR → Prop} {lv : sL} {st : List Value} {h : sH} {x y : UInt64} (he : mE (mtv K) pc = some (.ddiv, ln, a1, a2)) (k : qW K N (pc + 1) lv (.double (FP.ddiv x y) :: st) h Q) : qW K N pc lv (.double y :: .double x :: st) h Q := by
  by_cases hy : FP.ddiv x y &&& 0x7fffffffffffffff ≤ 0x7ff0000000000000
  · exact q_P he (show (if FP.ddiv x y &&& 0x7fffffffffffffff ≤ 0x7ff0000000000000 then some _ else none) = _ from if_pos hy) k
  · refine qW_le (Nat.le_succ N) (q_step1 (fun D cl sl z hz => ?_))
    have e : sP (mL (mtv K)) .ddiv pc lv (.double y :: .double x :: st) = none := if_neg hy
    rw [sNo he e rfl rfl rfl rfl rfl] at hz
    cases hz
/-! part 53: what the loops of keys and doors mean -/
theorem oN_le {a b : Nat} (ha : a < 2147483648) (hb : b < 2147483648) : Int32.ofNat a ≤ Int32.ofNat b ↔ a ≤ b := by
  rw [Int32.le_iff_toInt_le, ofN_toInt ha, ofN_toInt hb]
  exact Int.ofNat_le
theorem oN_lt {a b : Nat} (ha : a < 2147483648) (hb : b < 2147483648) : Int32.ofNat a < Int32.ofNat b ↔ a < b := by
  rw [Int32.lt_iff_toInt_lt, ofN_toInt ha, ofN_toInt hb]
  exact Int.ofNat_lt
theorem oN_inj {a b : Nat} (ha : a < 2147483648) (hb : b < 2147483648) : Int32.ofNat a = Int32.ofNat b ↔ a = b :=
  ⟨fun h => by have := congrArg Int32.toNatClampNeg h; rwa [ofN_clamp ha, ofN_clamp hb] at this, fun h => by rw [h]⟩
theorem oN_s (a : Nat) : Int32.ofNat a + 1 = Int32.ofNat (a + 1) := (Int32.ofNat_add a 1).symm
theorem oN_6 (k c : Nat) : (6 : Int32) * Int32.ofNat k + Int32.ofNat c = Int32.ofNat (6 * k + c) := by
  rw [Int32.ofNat_add, Int32.ofNat_mul]; rfl
theorem oN_of {x : Int32} {m : Nat} (h : inR x 0 m) : ∃ n, n ≤ m ∧ x = Int32.ofNat n := by
  refine ⟨x.toNatClampNeg, clampB h, ?_⟩
  unfold inR at h
  apply Int32.toInt_inj.mp
  have e : x.toNatClampNeg = x.toInt.toNat := rfl
  have := i32_rng x
  rw [ofN_toInt (by omega)]
  omega
/-- all but one array as before -/
def agr (t : Nat) (J I : Nat → Nat → Int32) : Prop := ∀ a b, a ≠ t → J a b = I a b
theorem agr_up {t : Nat} {J I : Nat → Nat → Int32} (h : agr t J I) (b : Nat) (x : Int32) : agr t (upI J t b x) I := fun a c hn => by
  rw [upI_ne (fun q => hn q.1)]; exact h a c hn
/-- a door's pins, as the class joins them -/
theorem lb_14 {L : Nat → Nat → Int64} {w : Int32} : ∀ (m j : Nat) (x : Int64) (n : Nat), j + m ≤ 32 → (lb (G_14 L w j x m) n = true ↔ lb x n = true ∨ ∃ i, j ≤ i ∧ i < j + m ∧ tb w i = true ∧ lb (L (19 + i) 0) n = true)
  | 0, j, x, n, _ => ⟨Or.inl, fun h => h.elim id (fun ⟨i, h1, h2, _⟩ => absurd h2 (by omega))⟩
  | m + 1, j, x, n, hm => by
    unfold G_14
    have ec : (Int32.ofNat j).toNatClampNeg = j := ofN_clamp (by omega)
    have eh : hs w (Int32.ofNat j) = tb w j := by unfold hs tb; rw [shD_nat (by omega)]
    rw [ec, eh]
    by_cases hb : tb w j = true
    · rw [if_pos hb, lb_14 m (j + 1) _ n (by omega), lb_or, Bool.or_eq_true]
      constructor
      · rintro ((h | h) | ⟨i, h1, h2, h3⟩)
        · exact .inl h
        · exact .inr ⟨j, by omega, by omega, hb, h⟩
        · exact .inr ⟨i, by omega, by omega, h3⟩
      · rintro (h | ⟨i, h1, h2, h3, h4⟩)
        · exact .inl (.inl h)
        · by_cases e : i = j
          · rw [e] at h4; exact .inl (.inr h4)
          · exact .inr ⟨i, by omega, by omega, h3, h4⟩
    · rw [if_neg hb, lb_14 m (j + 1) _ n (by omega)]
      constructor
      · rintro (h | ⟨i, h1, h2, h3⟩)
        · exact .inl h
        · exact .inr ⟨i, by omega, by omega, h3⟩
      · rintro (h | ⟨i, h1, h2, h3, h4⟩)
        · exact .inl h
        · by_cases e : i = j
          · rw [e] at h3; exact absurd h3 hb
          · exact .inr ⟨i, by omega, by omega, h3, h4⟩
/-- a door's pins, as the model lays them -/
def pinM (I : Nat → Nat → Int32) (d nk nc : Nat) (k0 c0 : Nat) (J : Nat → Nat → Int32) : Prop :=
  ∀ c e, c < 6 → e < 32 → (tb (J 106 c) e = true ↔ ∃ i, (i < k0 ∧ c < nc ∨ i = k0 ∧ c < c0) ∧ i < nk ∧ tb (I 88 i) d = true ∧ I 86 (6 * i + c) = Int32.ofNat e)
theorem sem_229 {I : Nat → Nat → Int32} {d nk nc : Nat} (hd : d < 32) (hk : I 85 35 = Int32.ofNat nk) (hc : I 85 31 = Int32.ofNat nc) (bk : nk ≤ 16) (bc : nc ≤ 6) (bd : ∀ k c, k < nk → c < nc → ∃ e, e < 8 ∧ I 86 (6 * k + c) = Int32.ofNat e) :
    ∀ n, (∀ J j y r, agr 106 J I → (∀ c, c < j → J 106 c = 0) → j ≤ 6 → F_229 n 2 J (Int32.ofNat d) (Int32.ofNat j) y = some r → agr 106 r.2 I ∧ pinM I d nk nc nk 0 r.2) ∧
      (∀ J k y r, agr 106 J I → k ≤ nk → pinM I d nk nc k 0 J → F_229 n 23 J (Int32.ofNat d) (Int32.ofNat k) y = some r → agr 106 r.2 I ∧ pinM I d nk nc nk 0 r.2) ∧
      (∀ J k c r, agr 106 J I → k < nk → c ≤ nc → pinM I d nk nc k c J → F_229 n 33 J (Int32.ofNat d) (Int32.ofNat k) (Int32.ofNat c) = some r → agr 106 r.2 I ∧ pinM I d nk nc nk 0 r.2)
  | 0 => ⟨fun _ _ _ _ _ _ _ h => (by cases h), fun _ _ _ _ _ _ _ h => (by cases h), fun _ _ _ _ _ _ _ _ h => (by cases h)⟩
  | n + 1 => by
    obtain ⟨ih1, ih2, ih3⟩ := sem_229 hd hk hc bk bc bd n
    refine ⟨?_, ?_, ?_⟩
    · intro J j y r ha hz hj h
      simp only [F_229, reduceIte] at h
      by_cases hp : (6 : Int32) ≤ Int32.ofNat j
      · rw [if_pos hp] at h
        have hj6 : j = 6 := by
          have := (oN_le (a := 6) (b := j) (by decide) (by omega)).mp hp
          omega
        refine ih2 J 0 y r ha (Nat.zero_le _) ?_ h
        intro c e h1 h2
        rw [hz c (by omega), tb_0]
        constructor
        · intro q; cases q
        · rintro ⟨i, q, _⟩; omega
      · rw [if_neg hp, ofN_clamp (by omega), oN_s] at h
        have hj6 : j < 6 := by
          have := mt (oN_le (a := 6) (b := j) (by decide) (by omega)).mpr hp
          omega
        refine ih1 _ (j + 1) y r (agr_up ha _ _) ?_ (by omega) h
        intro c h1
        by_cases e : c = j
        · rw [e]; exact upI_s
        · rw [upI_ne (fun q => e q.2)]; exact hz c (by omega)
    · intro J k y r ha hkn hp h
      simp only [F_229, Nat.reduceEqDiff, reduceIte] at h
      rw [ha 85 35 (by decide), hk] at h
      by_cases hq : Int32.ofNat nk ≤ Int32.ofNat k
      · rw [if_pos hq] at h
        have : k = nk := by
          have := (oN_le (by omega) (by omega)).mp hq
          omega
        cases h
        subst this
        exact ⟨ha, hp⟩
      · rw [if_neg hq] at h
        have : k < nk := by
          have := mt (oN_le (by omega) (by omega)).mpr hq
          omega
        exact ih3 J k 0 r ha this (Nat.zero_le _) hp h
    · intro J k c r ha hkn hcn hp h
      simp only [F_229, Nat.reduceEqDiff, reduceIte] at h
      rw [ha 85 31 (by decide), hc] at h
      by_cases hq : Int32.ofNat nc ≤ Int32.ofNat c
      · rw [if_pos hq, oN_s] at h
        have : c = nc := by
          have := (oN_le (by omega) (by omega)).mp hq
          omega
        refine ih2 J (k + 1) _ r ha hkn ?_ h
        intro c' e h1 h2
        rw [hp c' e h1 h2]
        constructor
        · rintro ⟨i, q, q2⟩; exact ⟨i, by omega, q2⟩
        · rintro ⟨i, q, q2⟩; exact ⟨i, by omega, q2⟩
      · rw [if_neg hq, ofN_clamp (by omega), ofN_clamp (by omega), ha 88 k (by decide)] at h
        have hcl : c < nc := by
          have := mt (oN_le (by omega) (by omega)).mpr hq
          omega
        have eh : hs (I 88 k) (Int32.ofNat d) = tb (I 88 k) d := by unfold hs tb; rw [shD_nat hd]
        rw [eh] at h
        by_cases hw : tb (I 88 k) d = true
        · obtain ⟨e0, he0, hE⟩ := bd k c hkn hcl
          rw [if_pos hw, oN_6, ofN_clamp (by omega), ha 86 _ (by decide), hE, oN_s] at h
          refine ih3 _ k (c + 1) r (agr_up ha _ _) hkn hcl ?_ h
          intro c' e h1 h2
          by_cases ec : c' = c
          · subst ec
            rw [upI_s, tb_or, Bool.or_eq_true, hp c' e h1 h2, tb_shl, shD_nat (by omega), decide_eq_true_eq]
            constructor
            · rintro (⟨i, q, q2⟩ | q)
              · exact ⟨i, by omega, q2⟩
              · exact ⟨k, by omega, hkn, hw, by rw [hE, q]⟩
            · rintro ⟨i, q, q2, q3, q4⟩
              by_cases ei : i = k
              · right
                rw [ei, hE] at q4
                exact ((oN_inj (by omega) (by omega)).mp q4).symm
              · exact .inl ⟨i, by omega, q2, q3, q4⟩
          · rw [upI_ne (fun q => ec q.2), hp c' e h1 h2]
            constructor
            · rintro ⟨i, q, q2⟩; exact ⟨i, by omega, q2⟩
            · rintro ⟨i, q, q2⟩; exact ⟨i, by omega, q2⟩
        · rw [if_neg hw, oN_s] at h
          refine ih2 J (k + 1) _ r ha hkn ?_ h
          intro c' e h1 h2
          rw [hp c' e h1 h2]
          constructor
          · rintro ⟨i, q, q2⟩; exact ⟨i, by omega, q2⟩
          · rintro ⟨i, q, q2, q3, q4⟩
            refine ⟨i, ?_, q2, q3, q4⟩
            have : i ≠ k := fun e => hw (e ▸ q3)
            omega
/-- the class has a key with these cuts and the blank's profile -/
theorem sem_56 {I : Nat → Nat → Int32} {L : Nat → Nat → Int64} {x : Int64} : ∀ m j, j + m ≤ 32 → (G_56 I L x j m = true ↔ ∃ i, j ≤ i ∧ i < j + m ∧ L (19 + i) 0 = x ∧ I (19 + i) 1 = I 1 4)
  | 0, j, _ => ⟨fun h => (by cases h), fun ⟨i, h1, h2, _⟩ => absurd h2 (by omega)⟩
  | m + 1, j, hm => by
    unfold G_56
    rw [ofN_clamp (show j < 2147483648 by omega)]
    have ih := sem_56 (I := I) (L := L) (x := x) m (j + 1) (by omega)
    have keep : (¬ (L (19 + j) 0 = x ∧ I (19 + j) 1 = I 1 4)) → ((∃ i, j + 1 ≤ i ∧ i < j + 1 + m ∧ L (19 + i) 0 = x ∧ I (19 + i) 1 = I 1 4) ↔ ∃ i, j ≤ i ∧ i < j + (m + 1) ∧ L (19 + i) 0 = x ∧ I (19 + i) 1 = I 1 4) := fun hn => by
      constructor
      · rintro ⟨i, h1, h2, h3⟩; exact ⟨i, by omega, by omega, h3⟩
      · rintro ⟨i, h1, h2, h3⟩
        have : i ≠ j := fun e => hn (e ▸ h3)
        exact ⟨i, by omega, by omega, h3⟩
    by_cases h1 : L (19 + j) 0 = x
    · rw [if_pos h1]
      by_cases h2 : I (19 + j) 1 = I 1 4
      · rw [if_pos h2]
        exact ⟨fun _ => ⟨j, by omega, by omega, h1, h2⟩, fun _ => rfl⟩
      · rw [if_neg h2, ih]
        exact keep (fun q => h2 q.2)
    · rw [if_neg h1, ih]
      exact keep (fun q => h1 q.1)
/-- the model's key has the depths that are tried and the blank's profile -/
def sameM (I : Nat → Nat → Int32) (nc k : Nat) : Prop := I 95 k = I 85 43 ∧ ∀ c, c < nc → I 86 (6 * k + c) = I 91 c
theorem sem_217 {I : Nat → Nat → Int32} {nk nc : Nat} (hk : I 85 35 = Int32.ofNat nk) (hc : I 85 31 = Int32.ofNat nc) (bk : nk ≤ 16) (bc : nc ≤ 6) :
    ∀ n, (∀ k x2 x3 r, k ≤ nk → (∀ i, i < k → ¬ sameM I nc i) → F_217 I n 2 (Int32.ofNat k) x2 x3 = some r → (r = -1 ∧ ∀ i, i < nk → ¬ sameM I nc i) ∨ ∃ i, i < nk ∧ sameM I nc i ∧ r = Int32.ofNat i) ∧
      (∀ k c x2 r, k < nk → c ≤ nc → (∀ i, i < k → ¬ sameM I nc i) → (x2 = 0 ∧ ¬ sameM I nc k ∨ x2 = 1 ∧ I 95 k = I 85 43 ∧ ∀ e, e < c → I 86 (6 * k + e) = I 91 e) → F_217 I n 31 (Int32.ofNat k) x2 (Int32.ofNat c) = some r → (r = -1 ∧ ∀ i, i < nk → ¬ sameM I nc i) ∨ ∃ i, i < nk ∧ sameM I nc i ∧ r = Int32.ofNat i)
  | 0 => ⟨fun _ _ _ _ _ _ h => (by cases h), fun _ _ _ _ _ _ _ _ h => (by cases h)⟩
  | n + 1 => by
    obtain ⟨ih1, ih2⟩ := sem_217 hk hc bk bc n
    refine ⟨?_, ?_⟩
    · intro k x2 x3 r hkn hno h
      simp only [F_217, reduceIte] at h
      rw [hk] at h
      by_cases hq : Int32.ofNat nk ≤ Int32.ofNat k
      · rw [if_pos hq] at h
        cases h
        have := (oN_le (by omega) (by omega)).mp hq
        exact .inl ⟨rfl, fun i hi => hno i (by omega)⟩
      · rw [if_neg hq, ofN_clamp (by omega)] at h
        have hkl : k < nk := by
          have := mt (oN_le (by omega) (by omega)).mpr hq
          omega
        by_cases hp : I 95 k = I 85 43
        · rw [if_pos hp] at h
          exact ih2 k 0 1 r hkl (Nat.zero_le _) hno (.inr ⟨rfl, hp, fun e he => absurd he (Nat.not_lt_zero e)⟩) h
        · rw [if_neg hp] at h
          exact ih2 k 0 0 r hkl (Nat.zero_le _) hno (.inl ⟨rfl, fun q => hp q.1⟩) h
    · intro k c x2 r hkl hcn hno hx h
      simp only [F_217, Nat.reduceEqDiff, reduceIte] at h
      rw [hc] at h
      by_cases hq : Int32.ofNat nc ≤ Int32.ofNat c
      · rw [if_pos hq] at h
        have ec : c = nc := by
          have := (oN_le (by omega) (by omega)).mp hq
          omega
        rcases hx with ⟨e, hn⟩ | ⟨e, hp, ha⟩
        · subst e
          rw [if_pos rfl, oN_s] at h
          refine ih1 (k + 1) _ _ r hkl (fun i hi => ?_) h
          by_cases e2 : i = k
          · rw [e2]; exact hn
          · exact hno i (by omega)
        · subst e
          rw [if_neg (by decide)] at h
          cases h
          exact .inr ⟨k, hkl, ⟨hp, fun e he => ha e (by omega)⟩, rfl⟩
      · rw [if_neg hq] at h
        have hcl : c < nc := by
          have := mt (oN_le (by omega) (by omega)).mpr hq
          omega
        rcases hx with ⟨e, hn⟩ | ⟨e, hp, ha⟩
        · subst e
          rw [if_pos rfl, oN_s] at h
          exact ih2 k (c + 1) 0 r hkl hcl hno (.inl ⟨rfl, hn⟩) h
        · subst e
          rw [if_neg (by decide), oN_6, ofN_clamp (by omega), ofN_clamp (by omega), oN_s] at h
          by_cases hb : I 86 (6 * k + c) = I 91 c
          · rw [if_pos hb] at h
            refine ih2 k (c + 1) 1 r hkl hcl hno (.inr ⟨rfl, hp, fun e he => ?_⟩) h
            by_cases e2 : e = c
            · rw [e2]; exact hb
            · exact ha e (by omega)
          · rw [if_neg hb] at h
            exact ih2 k (c + 1) 0 r hkl hcl hno (.inl ⟨rfl, fun q => hb (q.2 c hcl)⟩) h
/-- a key's depths are all among the pins that are laid -/
def inM (I : Nat → Nat → Int32) (nc k : Nat) : Prop := ∀ c, c < nc → hs (I 106 c) (I 86 (6 * k + c)) = true
theorem sem_233 {I : Nat → Nat → Int32} {nc k : Nat} (hc : I 85 31 = Int32.ofNat nc) (bk : k ≤ 16) (bc : nc ≤ 6) :
    ∀ n c r, c ≤ nc → (∀ e, e < c → hs (I 106 e) (I 86 (6 * k + e)) = true) → F_233 I n 20 (Int32.ofNat k) (Int32.ofNat c) = some r → (r = 1 ∧ inM I nc k) ∨ (r = 0 ∧ ¬ inM I nc k)
  | 0, _, _, _, _, h => by cases h
  | n + 1, c, r, hcn, ha, h => by
    simp only [F_233, reduceIte] at h
    rw [hc] at h
    by_cases hq : Int32.ofNat nc ≤ Int32.ofNat c
    · rw [if_pos hq] at h
      cases h
      have := (oN_le (by omega) (by omega)).mp hq
      exact .inl ⟨rfl, fun e he => ha e (by omega)⟩
    · rw [if_neg hq, oN_6, ofN_clamp (by omega), ofN_clamp (by omega), oN_s] at h
      have hcl : c < nc := by
        have := mt (oN_le (by omega) (by omega)).mpr hq
        omega
      by_cases hb : hs (I 106 c) (I 86 (6 * k + c)) = true
      · rw [if_pos hb] at h
        refine sem_233 hc bk bc n (c + 1) r hcl (fun e he => ?_) h
        by_cases e2 : e = c
        · rw [e2]; exact hb
        · exact ha e (by omega)
      · rw [if_neg hb] at h
        cases h
        exact .inr ⟨rfl, fun q => hb (q c hcl)⟩
/-- the depth of a key in a chamber -/
def dpM (I : Nat → Nat → Int32) (k c : Nat) : Nat := (I 86 (6 * k + c)).toNatClampNeg
/-- the pins of both sides -/
theorem pin_CM {I J : Nat → Nat → Int32} {L : Nat → Nat → Int64} {w : Int32} {d nk nc : Nat} (bk : nk ≤ 16) (bc : nc ≤ 6)
    (hL : ∀ k, k < nk → isCuts (L (19 + k) 0) (dpM I k) nc) (hw : ∀ k, k < nk → tb w k = tb (I 88 k) d) (bd : ∀ k c, k < nk → c < nc → ∃ e, e < 8 ∧ I 86 (6 * k + c) = Int32.ofNat e)
    (hp : pinM I d nk nc nk 0 J) {c e : Nat} (hc : c < 6) (he : e < 8) : lb (G_14 L w 0 0 nk) (8 * c + e) = tb (J 106 c) e := by
  have h1 := lb_14 (L := L) (w := w) nk 0 0 (8 * c + e) (by omega)
  have h2 := hp c e hc (by omega)
  have key : lb (G_14 L w 0 0 nk) (8 * c + e) = true ↔ tb (J 106 c) e = true := by
    rw [h1, h2, lb_0]
    constructor
    · rintro (h | ⟨i, _, h4, h5, h6⟩)
      · cases h
      · have hi : i < nk := by omega
        rw [hL i hi c e he, decide_eq_true_eq] at h6
        obtain ⟨e0, q1, q2⟩ := bd i c hi h6.1
        refine ⟨i, .inl ⟨hi, h6.1⟩, hi, (hw i hi) ▸ h5, ?_⟩
        have := h6.2
        unfold dpM at this
        rw [q2, ofN_clamp (by omega)] at this
        rw [q2, this]
    · rintro ⟨i, q, hi, h3, h4⟩
      refine .inr ⟨i, Nat.zero_le _, by omega, (hw i hi).symm ▸ h3, ?_⟩
      rw [hL i hi c e he, decide_eq_true_eq]
      refine ⟨by omega, ?_⟩
      unfold dpM
      rw [h4, ofN_clamp (by omega)]
  cases g : tb (J 106 c) e with
  | true => exact key.mpr g
  | false =>
    cases g2 : lb (G_14 L w 0 0 nk) (8 * c + e) with
    | true => exact absurd (key.mp g2) (by rw [g]; decide)
    | false => rfl
/-- a key is let in by both sides' pins alike -/
theorem in_CM {I J : Nat → Nat → Int32} {L : Nat → Nat → Int64} {x : Int64} {nk nc k : Nat} (bc : nc ≤ 6) (hk : k < nk) (h86 : ∀ b, J 86 b = I 86 b)
    (hL : ∀ k, k < nk → isCuts (L (19 + k) 0) (dpM I k) nc) (bd : ∀ k c, k < nk → c < nc → ∃ e, e < 8 ∧ I 86 (6 * k + c) = Int32.ofNat e)
    (hp : ∀ c e, c < nc → e < 8 → lb x (8 * c + e) = tb (J 106 c) e) : letIn (L (19 + k) 0) x ↔ inM J nc k := by
  have hf : ∀ c, c < nc → dpM I k c < 8 ∧ I 86 (6 * k + c) = Int32.ofNat (dpM I k c) := fun c hc => by
    obtain ⟨e, q1, q2⟩ := bd k c hk hc
    unfold dpM
    rw [q2, ofN_clamp (by omega)]
    exact ⟨q1, rfl⟩
  show (_ &&& (_ ^^^ _)) = 0 ↔ _
  rw [letIn_iff (hL k hk) bc (fun c hc => (hf c hc).1)]
  unfold inM
  constructor
  · intro h c hc
    have := h c hc
    rw [hp c _ hc (hf c hc).1] at this
    rw [h86, (hf c hc).2]
    unfold hs
    rw [shD_nat (by have := (hf c hc).1; omega)]
    exact this
  · intro h c hc
    have := h c hc
    rw [h86, (hf c hc).2] at this
    unfold hs at this
    rw [shD_nat (by have := (hf c hc).1; omega)] at this
    rw [hp c _ hc (hf c hc).1]
    exact this
