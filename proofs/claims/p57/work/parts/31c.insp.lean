/-! 31c: each instruction of locals and stack -/
def ffOk (a b : Int32) : Bool := decide (FP.fdiv (FP.i2f a) (FP.i2f b) &&& 0x7fffffff ≤ 0x7f800000) && decide (FP.f2d (FP.fdiv (FP.i2f a) (FP.i2f b)) &&& 0x7fffffffffffffff ≤ 0x7ff0000000000000)
def ddOk (a b : Int32) : Bool := decide (FP.ddiv (FP.i2d a) (FP.i2d b) &&& 0x7fffffffffffffff ≤ 0x7ff0000000000000)
theorem ff_all : (List.range 17).all (fun n => (List.range 10).all (fun m => ffOk (Int32.ofNat n) (Int32.ofNat (m + 1)))) = true := by decide +kernel
theorem dd_all : (List.range 641).all (fun n => (List.range 10).all (fun m => ddOk (Int32.ofNat n) (Int32.ofNat (m + 1)))) = true := by decide +kernel
theorem i32_nat {a : Int32} {m : Nat} (h1 : 0 ≤ a.toInt) (h2 : a.toInt ≤ (m : Int)) : ∃ n, n ≤ m ∧ a = Int32.ofNat n := by
  have h3 := i32_rng a
  refine ⟨a.toInt.toNat, by omega, ?_⟩
  refine Int32.toInt_inj.mp ?_
  rw [Int32.toInt_ofNat_of_lt (by omega)]
  omega
theorem fp_2 {f : Int32 → Int32 → Bool} {N : Nat} (hf : (List.range (N + 1)).all (fun n => (List.range 10).all (fun m => f (Int32.ofNat n) (Int32.ofNat (m + 1)))) = true) {a b : Int32} (h1 : 0 ≤ a.toInt ∧ a.toInt ≤ (N : Int)) (h2 : 1 ≤ b.toInt ∧ b.toInt ≤ 10) : f a b = true := by
  obtain ⟨n, hn, rfl⟩ := i32_nat (m := N) h1.1 h1.2
  obtain ⟨m, hm, rfl⟩ := i32_nat (a := b) (m := 10) (by omega) h2.2
  have hm1 : 1 ≤ m := by
    have := h2.1
    rw [Int32.toInt_ofNat_of_lt (by omega)] at this
    omega
  have h3 := List.all_eq_true.mp (List.all_eq_true.mp hf n (List.mem_range.mpr (by omega))) (m - 1) (List.mem_range.mpr (by omega))
  rw [show m - 1 + 1 = m by omega] at h3
  exact h3
theorem ff_at {a b : Int32} (h1 : 0 ≤ a.toInt ∧ a.toInt ≤ 16) (h2 : 1 ≤ b.toInt ∧ b.toInt ≤ 10) : FP.fdiv (FP.i2f a) (FP.i2f b) &&& 0x7fffffff ≤ 0x7f800000 ∧ FP.f2d (FP.fdiv (FP.i2f a) (FP.i2f b)) &&& 0x7fffffffffffffff ≤ 0x7ff0000000000000 := by
  have h3 := fp_2 (f := ffOk) ff_all h1 h2
  unfold ffOk at h3
  simp only [Bool.and_eq_true, decide_eq_true_eq] at h3
  exact h3
theorem dd_at {a b : Int32} (h1 : 0 ≤ a.toInt ∧ a.toInt ≤ 640) (h2 : 1 ≤ b.toInt ∧ b.toInt ≤ 10) : FP.ddiv (FP.i2d a) (FP.i2d b) &&& 0x7fffffffffffffff ≤ 0x7ff0000000000000 := of_decide_eq_true (fp_2 (f := ddOk) dd_all h1 h2)
section EQ
variable {lw : Bool} {xs : Option (List Int32)} {ρ : Nat → Int} {W : eW} {L pc nL : Nat} {lv : eLv} {st : List eA} {lc : sL} {sc : List Value} {l : List eQ}
theorem eOmF {k : Nat} {x : UInt32} (h : eOm L (.inr k) (.float x)) : k = 4 ∨ (k = 5 ∧ ∃ a : Int32, 0 ≤ a.toInt ∧ a.toInt ≤ 16 ∧ x = FP.i2f a) ∨ (k = 6 ∧ ∃ a : Int32, 1 ≤ a.toInt ∧ a.toInt ≤ 10 ∧ x = FP.i2f a) ∨ (k = 7 ∧ ∃ a b : Int32, (0 ≤ a.toInt ∧ a.toInt ≤ 16) ∧ (1 ≤ b.toInt ∧ b.toInt ≤ 10) ∧ x = FP.fdiv (FP.i2f a) (FP.i2f b)) := by
  rcases h with h | ⟨h, g⟩ | ⟨h, g⟩ | ⟨h, g⟩
  · cases h; exact Or.inl rfl
  · cases h; exact Or.inr (Or.inl ⟨rfl, g⟩)
  · cases h; exact Or.inr (Or.inr (Or.inl ⟨rfl, g⟩))
  · cases h; exact Or.inr (Or.inr (Or.inr ⟨rfl, g⟩))
theorem eOmD {k : Nat} {x : UInt64} (h : eOm L (.inr k) (.double x)) : k = 1 ∨ (k = 2 ∧ ∃ a : Int32, 0 ≤ a.toInt ∧ a.toInt ≤ 640 ∧ x = FP.i2d a) ∨ (k = 3 ∧ ∃ a : Int32, 1 ≤ a.toInt ∧ a.toInt ≤ 10 ∧ x = FP.i2d a) := by
  rcases h with h | ⟨h, g⟩ | ⟨h, g⟩
  · cases h; exact Or.inl rfl
  · cases h; exact Or.inr (Or.inl ⟨rfl, g⟩)
  · cases h; exact Or.inr (Or.inr ⟨rfl, g⟩)
set_option maxRecDepth 10000 in
theorem eP_s {i : Instr} (h : eP nL i pc lv st W = some l) (hN : eNm lw xs ρ W) (hl : eLm W.1 ρ L lv lc) (hk : eKm W.1 ρ L st sc) : ePg lw xs ρ L W l (sP nL i pc lc sc) := by
  unfold eP at h
  split at h
  · exact eLd_I h hN hl hk
  · exact eLd_I h hN hl hk
  · exact eLd_A h hN hl hk
  · exact eLd_A h hN hl hk
  · exact eLd_L h hN hl hk
  · exact eLd_L h hN hl hk
  · exact eCs_s (fun h1 h2 => Int32.toInt_ofInt_of_le (Int.le_trans (by decide) h1) (Int.lt_of_le_of_lt h2 (by decide))) h hN hl hk
  · exact eCs_s (fun h1 h2 => (Int8.toInt_toInt32 _).trans (Int8.toInt_ofInt_of_le (Int.le_trans (by decide) h1) (Int.lt_of_le_of_lt h2 (by decide)))) h hN hl hk
  · exact eCs_s (fun h1 h2 => (Int16.toInt_toInt32 _).trans (Int16.toInt_ofInt_of_le (Int.le_trans (by decide) h1) (Int.lt_of_le_of_lt h2 (by decide)))) h hN hl hk
  · cases h; exact ePg1 hN hl ⟨rfl, hk⟩
  · next n =>
    split at h
    · next hn =>
      cases h
      show ePg lw xs ρ L W _ (if n = 0 then _ else none)
      rw [if_pos hn]
      exact ePg1 hN hl ⟨Or.inl rfl, hk⟩
    · cases h
  · next n =>
    split at h
    · next hn =>
      cases h
      show ePg lw xs ρ L W _ (if n = 0 then _ else none)
      rw [if_pos hn]
      exact ePg1 hN hl ⟨Or.inl rfl, hk⟩
    · cases h
  · next off =>
    split at h
    · next t ht =>
      cases h
      show ePg lw xs ρ L W _ (match sTg pc off with
        | some t => some (t, lc, sc)
        | none => none)
      rw [ht]
      exact ePg1 hN hl hk
    · cases h
  · next c off =>
    split at h
    · next t r =>
      split at h
      · next tg hg =>
        cases h
        obtain ⟨v1, s1, e9, k9⟩ := eKm_c hk; clear hk; subst e9; obtain ⟨⟨x, rfl, ht, ex⟩, hk⟩ := k9
        rw [sP_if hg]
        exact eIf_s hN hl hk ht ex hN.1 (by show ρ 0 + 0 = _; rw [hN.2.1]; rfl)
      · cases h
    · cases h
  · next c off =>
    split at h
    · next u t r =>
      split at h
      · next tg hg =>
        cases h
        obtain ⟨v1, s1, e9, k9⟩ := eKm_c hk; clear hk; subst e9; obtain ⟨⟨y, rfl, hu, ey⟩, hk⟩ := k9
        obtain ⟨v2, s2, e9, k9⟩ := eKm_c hk; clear hk; subst e9; obtain ⟨⟨x, rfl, ht, ex⟩, hk⟩ := k9
        rw [sP_ic hg]
        exact eIf_s hN hl hk ht ex hu ey
      · cases h
    · cases h
  · exact eSv_I h hN hl hk
  · exact eSv_I h hN hl hk
  · exact eSv_A h hN hl hk
  · exact eSv_A h hN hl hk
  · exact eSv_L h hN hl hk
  · exact eSv_L h hN hl hk
  · exact eSv_F h hN hl hk
  · exact eSv_F h hN hl hk
  · exact eSv_D h hN hl hk
  · exact eSv_D h hN hl hk
  · next k z =>
    rw [eNth_eq] at h
    split at h
    · next t ht =>
      obtain ⟨h1, h2⟩ := eBifN h
      obtain ⟨h3, h4⟩ := eBifN h2
      dsimp only at h4
      cases h4
      obtain ⟨v, g1, x, rfl, g2, g3⟩ := hl k _ ht
      obtain ⟨q1, q2⟩ := eIr_s h3
      have hz : (Int32.ofInt z).toInt = z := Int32.toInt_ofInt_of_le (Int.le_trans (by decide) q1) (Int.lt_of_le_of_lt q2 (by decide))
      obtain ⟨ρ', f1, f2, f3, f4, f5⟩ := eOpAdd_s (t := t) (u := (0, z)) (x := x) (y := Int32.ofInt z) hN g2 g3 hN.1 (by show ρ 0 + z = _; rw [hN.2.1, hz]; exact Int.zero_add z)
      show ePg lw xs ρ L W _ (match sLk k lc with
        | some (.int x) => if k < nL then some (pc + 3, sS1 k (.int (x + Int32.ofInt z)) lc, sc) else none
        | _ => none)
      rw [g1]; dsimp only
      rw [if_pos (show k < nL from eBle h1)]
      exact ⟨_, List.mem_cons_self, ρ', _, sc, f1, f2, f3, eS1_s (eLm_ex f1 (Nat.le_refl _) hl) ⟨_, rfl, f4, f5⟩, eKm_ex f1 (Nat.le_refl _) hk, rfl⟩
    · cases h
  · exact eI2_s (eWr_s (op := 0) eOpAdd_s) h hN hl hk
  · exact eI2_s (eWr_s (op := 1) eOpSub_s) h hN hl hk
  · exact eI2_s (eWr_s (op := 2) eOpMul_s) h hN hl hk
  · exact eI2_s (eWr_s (op := 3) eOpAnd_s) h hN hl hk
  · exact eI2_s (eWr_s (op := 4) eOpOr_s) h hN hl hk
  · exact eI2_s (eWr_s (op := 5) (eOpAny_s (eSem 5))) h hN hl hk
  · exact eI2_s (eWr_s (op := 6) eOpShl_s) h hN hl hk
  · exact eI2_s (eWr_s (op := 7) eOpShr_s) h hN hl hk
  · exact eI2_s eWrU_s h hN hl hk
  · exact eDv_s (g := fun x y => x / y) h hN hl hk (fun x y s e hy => by rw [e]; exact if_neg hy)
  · exact eDv_s (g := fun x y => x - x / y * y) h hN hl hk (fun x y s e hy => by rw [e]; exact if_neg hy)
  · split at h
    · next t r =>
      cases h
      obtain ⟨v1, s1, e9, k9⟩ := eKm_c hk; clear hk; subst e9; obtain ⟨⟨x, rfl, ht, ex⟩, hk⟩ := k9
      exact ePgF hN hl hk
    · cases h
  · exact eL2_s h hN hl hk
  · exact eL2_s h hN hl hk
  · exact eL2_s h hN hl hk
  · exact eL2_s h hN hl hk
  · exact eL2_s h hN hl hk
  · exact eL2_s h hN hl hk
  · exact eLs_s h hN hl hk
  · exact eLs_s h hN hl hk
  · exact eLs_s h hN hl hk
  · split at h
    · next a b r =>
      obtain ⟨h1, h2⟩ := eBifN h
      obtain ⟨h3, h4⟩ := eBifN h2
      cases h4
      obtain ⟨v1, s1, e9, k9⟩ := eKm_c hk; clear hk; subst e9; obtain ⟨k1, hk⟩ := k9
      obtain ⟨v2, s2, e9, k9⟩ := eKm_c hk; clear hk; subst e9; obtain ⟨k2, hk⟩ := k9
      obtain ⟨-, y, rfl⟩ := eIsL_s k1 h1
      obtain ⟨-, x, rfl⟩ := eIsL_s k2 h3
      exact ePgF hN hl hk
    · cases h
  · split at h
    · next t r =>
      cases h
      obtain ⟨v1, s1, e9, k9⟩ := eKm_c hk; clear hk; subst e9; obtain ⟨⟨x, rfl, ht, ex⟩, hk⟩ := k9
      exact ePg1 hN hl ⟨rfl, hk⟩
    · cases h
  · split at h
    · next a r =>
      obtain ⟨h1, h2⟩ := eBifN h
      cases h2
      obtain ⟨v1, s1, e9, k9⟩ := eKm_c hk; clear hk; subst e9; obtain ⟨k1, hk⟩ := k9
      obtain ⟨-, y, rfl⟩ := eIsL_s k1 h1
      exact ePgF hN hl hk
    · cases h
  · unfold eI2f at h
    split at h
    · next t r =>
      obtain ⟨v1, s1, e9, k9⟩ := eKm_c hk; clear hk; subst e9; obtain ⟨⟨x, rfl, ht, ex⟩, hk⟩ := k9
      cases hb : eBt W t 1 10 with
      | true =>
        rw [hb] at h; cases h
        have h2 := eBt_s hN hb
        exact ePg1 hN hl ⟨Or.inr (Or.inr (Or.inl ⟨rfl, x, by omega, by omega, rfl⟩)), hk⟩
      | false =>
        rw [hb] at h
        obtain ⟨h3, h4⟩ := eBifN h
        cases h4
        have h2 := eBt_s hN h3
        exact ePg1 hN hl ⟨Or.inr (Or.inl ⟨rfl, x, by omega, by omega, rfl⟩), hk⟩
    · cases h
  · unfold eI2f at h
    split at h
    · next t r =>
      obtain ⟨v1, s1, e9, k9⟩ := eKm_c hk; clear hk; subst e9; obtain ⟨⟨x, rfl, ht, ex⟩, hk⟩ := k9
      cases hb : eBt W t 1 10 with
      | true =>
        rw [hb] at h; cases h
        have h2 := eBt_s hN hb
        exact ePg1 hN hl ⟨Or.inr (Or.inr ⟨rfl, x, by omega, by omega, rfl⟩), hk⟩
      | false =>
        rw [hb] at h
        obtain ⟨h3, h4⟩ := eBifN h
        cases h4
        have h2 := eBt_s hN h3
        exact ePg1 hN hl ⟨Or.inr (Or.inl ⟨rfl, x, by omega, by omega, rfl⟩), hk⟩
    · cases h
  · split at h
    · next a r =>
      obtain ⟨h1, h2⟩ := eBifN h
      cases h2
      obtain ⟨v1, s1, e9, k9⟩ := eKm_c hk; clear hk; subst e9; obtain ⟨k1, hk⟩ := k9
      obtain ⟨y, rfl⟩ := eIsF_s k1 (by decide) h1
      obtain ⟨k, rfl, h3, h4⟩ := eIsK_s h1
      have h5 : ∃ a b : Int32, (0 ≤ a.toInt ∧ a.toInt ≤ 16) ∧ (1 ≤ b.toInt ∧ b.toInt ≤ 10) ∧ y = FP.fdiv (FP.i2f a) (FP.i2f b) := by
        rcases eOmF (L := L) k1 with h | ⟨h, -⟩ | ⟨h, -⟩ | ⟨-, g⟩
        · omega
        · omega
        · omega
        · exact g
      obtain ⟨p, q, g1, g2, rfl⟩ := h5
      have e5 : sP nL .f2d pc lc (.float (FP.fdiv (FP.i2f p) (FP.i2f q)) :: s1) = some (pc + 1, lc, .double (FP.f2d (FP.fdiv (FP.i2f p) (FP.i2f q))) :: s1) := by
        unfold sP sCv vF2d; dsimp only; rw [if_pos (ff_at g1 g2).2]
      rw [e5]
      exact ePg1 hN hl ⟨Or.inl rfl, hk⟩
    · cases h
  · unfold eDf at h
    split at h
    · next a b r =>
      obtain ⟨h1, h2⟩ := eBifN h
      obtain ⟨h3, h4⟩ := eBifN h2
      cases h4
      obtain ⟨v1, s1, e9, k9⟩ := eKm_c hk; clear hk; subst e9; obtain ⟨k1, hk⟩ := k9
      obtain ⟨v2, s2, e9, k9⟩ := eKm_c hk; clear hk; subst e9; obtain ⟨k2, hk⟩ := k9
      obtain ⟨i1, rfl, a1, a2⟩ := eIsK_s h1
      obtain ⟨i2, rfl, a3, a4⟩ := eIsK_s h3
      obtain ⟨y, rfl⟩ := eIsF_s k1 (lo := 6) (by decide) (by rw [show i1 = 6 by omega]; rfl)
      obtain ⟨x, rfl⟩ := eIsF_s k2 (lo := 5) (by decide) (by rcases (show i2 = 5 ∨ i2 = 6 by omega) with h | h <;> rw [h] <;> rfl)
      have g2 : ∃ b : Int32, 1 ≤ b.toInt ∧ b.toInt ≤ 10 ∧ y = FP.i2f b := by
        rcases eOmF (L := L) k1 with h | ⟨h, -⟩ | ⟨-, g⟩ | ⟨h, -⟩
        · omega
        · omega
        · exact g
        · omega
      have g1 : ∃ b : Int32, 0 ≤ b.toInt ∧ b.toInt ≤ 16 ∧ x = FP.i2f b := by
        rcases eOmF (L := L) k2 with h | ⟨-, g⟩ | ⟨-, b, q1, q2, q3⟩ | ⟨h, -⟩
        · omega
        · exact g
        · exact ⟨b, by omega, by omega, q3⟩
        · omega
      obtain ⟨p, p1, p2, rfl⟩ := g1
      obtain ⟨q, q1, q2, rfl⟩ := g2
      show ePg lw xs ρ L W _ (if FP.fdiv (FP.i2f p) (FP.i2f q) &&& 0x7fffffff ≤ 0x7f800000 then some (pc + 1, lc, .float (FP.fdiv (FP.i2f p) (FP.i2f q)) :: s2) else none)
      rw [if_pos (ff_at ⟨p1, p2⟩ ⟨q1, q2⟩).1]
      exact ePg1 hN hl ⟨Or.inr (Or.inr (Or.inr ⟨rfl, p, q, ⟨p1, p2⟩, ⟨q1, q2⟩, rfl⟩)), hk⟩
    · cases h
  · unfold eDf at h
    split at h
    · next a b r =>
      obtain ⟨h1, h2⟩ := eBifN h
      obtain ⟨h3, h4⟩ := eBifN h2
      cases h4
      obtain ⟨v1, s1, e9, k9⟩ := eKm_c hk; clear hk; subst e9; obtain ⟨k1, hk⟩ := k9
      obtain ⟨v2, s2, e9, k9⟩ := eKm_c hk; clear hk; subst e9; obtain ⟨k2, hk⟩ := k9
      obtain ⟨i1, rfl, a1, a2⟩ := eIsK_s h1
      obtain ⟨i2, rfl, a3, a4⟩ := eIsK_s h3
      obtain ⟨y, rfl⟩ := eIsD_s k1 (hi := 3) (by decide) (by rw [show i1 = 3 by omega]; rfl)
      obtain ⟨x, rfl⟩ := eIsD_s k2 (hi := 3) (by decide) (by rcases (show i2 = 2 ∨ i2 = 3 by omega) with h | h <;> rw [h] <;> rfl)
      have g2 : ∃ b : Int32, 1 ≤ b.toInt ∧ b.toInt ≤ 10 ∧ y = FP.i2d b := by
        rcases eOmD (L := L) k1 with h | ⟨h, -⟩ | ⟨-, g⟩
        · omega
        · omega
        · exact g
      have g1 : ∃ b : Int32, 0 ≤ b.toInt ∧ b.toInt ≤ 640 ∧ x = FP.i2d b := by
        rcases eOmD (L := L) k2 with h | ⟨-, g⟩ | ⟨-, b, q1, q2, q3⟩
        · omega
        · exact g
        · exact ⟨b, by omega, by omega, q3⟩
      obtain ⟨p, p1, p2, rfl⟩ := g1
      obtain ⟨q, q1, q2, rfl⟩ := g2
      show ePg lw xs ρ L W _ (if FP.ddiv (FP.i2d p) (FP.i2d q) &&& 0x7fffffffffffffff ≤ 0x7ff0000000000000 then some (pc + 1, lc, .double (FP.ddiv (FP.i2d p) (FP.i2d q)) :: s2) else none)
      rw [if_pos (dd_at ⟨p1, p2⟩ ⟨q1, q2⟩)]
      exact ePg1 hN hl ⟨Or.inl rfl, hk⟩
    · cases h
  · split at h
    · next a r =>
      obtain ⟨h1, h2⟩ := eBifN h
      cases h2
      obtain ⟨v1, s1, e9, k9⟩ := eKm_c hk; clear hk; subst e9; obtain ⟨k1, hk⟩ := k9
      show ePg lw xs ρ L W _ (if v1.category = 1 then some (pc + 1, lc, v1 :: v1 :: s1) else none)
      rw [if_pos ((eVm_ct k1).trans (eBeq h1))]
      exact ePg1 hN hl ⟨k1, k1, hk⟩
    · cases h
  · split at h
    · next a b r =>
      obtain ⟨h1, h2⟩ := eBifN h
      obtain ⟨h3, h4⟩ := eBifN h2
      cases h4
      obtain ⟨v1, s1, e9, k9⟩ := eKm_c hk; clear hk; subst e9; obtain ⟨k1, hk⟩ := k9
      obtain ⟨v2, s2, e9, k9⟩ := eKm_c hk; clear hk; subst e9; obtain ⟨k2, hk⟩ := k9
      show ePg lw xs ρ L W _ (if v1.category = 1 ∧ v2.category = 1 then some (pc + 1, lc, v1 :: v2 :: v1 :: v2 :: s2) else none)
      rw [if_pos ⟨(eVm_ct k1).trans (eBeq h1), (eVm_ct k2).trans (eBeq h3)⟩]
      exact ePg1 hN hl ⟨k1, k2, k1, k2, hk⟩
    · cases h
  · split at h
    · next a r =>
      obtain ⟨h1, h2⟩ := eBifN h
      cases h2
      obtain ⟨v1, s1, e9, k9⟩ := eKm_c hk; clear hk; subst e9; obtain ⟨k1, hk⟩ := k9
      show ePg lw xs ρ L W _ (if v1.category = 1 then some (pc + 1, lc, s1) else none)
      rw [if_pos ((eVm_ct k1).trans (eBeq h1))]
      exact ePg1 hN hl hk
    · cases h
  · split at h
    · next a r =>
      obtain ⟨h1, h2⟩ := eBifN h
      cases h2
      obtain ⟨v1, s1, e9, k9⟩ := eKm_c hk; clear hk; subst e9; obtain ⟨k1, hk⟩ := k9
      show ePg lw xs ρ L W _ (if v1.category = 2 then some (pc + 1, lc, s1) else none)
      rw [if_pos ((eVm_ct k1).trans (eBeq h1))]
      exact ePg1 hN hl hk
    · cases h
  · cases h
end EQ
