/-! what the checker's words mean (31a: numbers, conditions, instructions of locals and stack) -/
theorem i32_rng (x : Int32) : -2147483648 ≤ x.toInt ∧ x.toInt ≤ 2147483647 := ⟨Int.le_trans (by decide) x.le_toInt, Int.le_of_lt_add_one (Int.lt_of_lt_of_le x.toInt_lt (by decide))⟩
theorem i32_add {x y : Int32} (h1 : -2147483648 ≤ x.toInt + y.toInt) (h2 : x.toInt + y.toInt ≤ 2147483647) : (x + y).toInt = x.toInt + y.toInt := by
  show (x.toBitVec + y.toBitVec).toInt = _
  rw [BitVec.toInt_add]
  exact Int.bmod_eq_of_le (Int.le_trans (by decide) h1) (Int.lt_of_le_of_lt h2 (by decide))
theorem i32_sub {x y : Int32} (h1 : -2147483648 ≤ x.toInt - y.toInt) (h2 : x.toInt - y.toInt ≤ 2147483647) : (x - y).toInt = x.toInt - y.toInt := by
  show (x.toBitVec - y.toBitVec).toInt = _
  rw [BitVec.toInt_sub]
  exact Int.bmod_eq_of_le (Int.le_trans (by decide) h1) (Int.lt_of_le_of_lt h2 (by decide))
theorem i32_mul {x y : Int32} (h1 : -2147483648 ≤ x.toInt * y.toInt) (h2 : x.toInt * y.toInt ≤ 2147483647) : (x * y).toInt = x.toInt * y.toInt := by
  show (x.toBitVec * y.toBitVec).toInt = _
  rw [BitVec.toInt_mul]
  exact Int.bmod_eq_of_le (Int.le_trans (by decide) h1) (Int.lt_of_le_of_lt h2 (by decide))
theorem i32_nn {y : Int32} (h : 0 ≤ y.toInt) : 2 * y.toBitVec.toNat < 2 ^ 32 ∧ y.toInt = (y.toBitVec.toNat : Int) := by
  have h1 : 2 * y.toBitVec.toNat < 2 ^ 32 := by
    have h2 : y.toInt = if 2 * y.toBitVec.toNat < 2 ^ 32 then (y.toBitVec.toNat : Int) else (y.toBitVec.toNat : Int) - (2 ^ 32 : Nat) := BitVec.toInt_eq_toNat_cond y.toBitVec
    rw [h2] at h
    split at h
    · assumption
    · have := y.toBitVec.isLt; omega
  exact ⟨h1, BitVec.toInt_eq_toNat_of_lt h1⟩
theorem i32_and {x y : Int32} (h : 0 ≤ y.toInt) : 0 ≤ (x &&& y).toInt ∧ (x &&& y).toInt ≤ y.toInt := by
  obtain ⟨h1, h2⟩ := i32_nn h
  have h3 : (x.toBitVec &&& y.toBitVec).toNat ≤ y.toBitVec.toNat := by rw [BitVec.toNat_and]; exact Nat.and_le_right
  have h4 : (x &&& y).toInt = ((x.toBitVec &&& y.toBitVec).toNat : Int) := BitVec.toInt_eq_toNat_of_lt (x := x.toBitVec &&& y.toBitVec) (by omega)
  rw [h4, h2]
  omega
theorem i32_and2 {x y : Int32} (h : 0 ≤ x.toInt) : 0 ≤ (x &&& y).toInt ∧ (x &&& y).toInt ≤ x.toInt := by
  obtain ⟨h1, h2⟩ := i32_nn h
  have h3 : (x.toBitVec &&& y.toBitVec).toNat ≤ x.toBitVec.toNat := by rw [BitVec.toNat_and]; exact Nat.and_le_left
  have h4 : (x &&& y).toInt = ((x.toBitVec &&& y.toBitVec).toNat : Int) := BitVec.toInt_eq_toNat_of_lt (x := x.toBitVec &&& y.toBitVec) (by omega)
  rw [h4, h2]
  omega
/-! values -/
def eOm (L : Nat) (o : eO) (v : Value) : Prop := match v with
  | .ref k => (∃ a b, o = .inl (a, b) ∧ a ≤ k ∧ k ≤ b) ∨ (o = .inr 8 ∧ 119 ≤ k ∧ k < L)
  | .long _ => o = .inr 0
  | .double x => o = .inr 1 ∨ (o = .inr 2 ∧ ∃ a : Int32, 0 ≤ a.toInt ∧ a.toInt ≤ 640 ∧ x = FP.i2d a) ∨ (o = .inr 3 ∧ ∃ a : Int32, 1 ≤ a.toInt ∧ a.toInt ≤ 10 ∧ x = FP.i2d a)
  | .float x => o = .inr 4 ∨ (o = .inr 5 ∧ ∃ a : Int32, 0 ≤ a.toInt ∧ a.toInt ≤ 16 ∧ x = FP.i2f a) ∨ (o = .inr 6 ∧ ∃ a : Int32, 1 ≤ a.toInt ∧ a.toInt ≤ 10 ∧ x = FP.i2f a) ∨ (o = .inr 7 ∧ ∃ a b : Int32, (0 ≤ a.toInt ∧ a.toInt ≤ 16) ∧ (1 ≤ b.toInt ∧ b.toInt ≤ 10) ∧ x = FP.fdiv (FP.i2f a) (FP.i2f b))
  | .retAddr _ => o = .inr 9
  | _ => False
def eVm (n : Nat) (ρ : Nat → Int) (L : Nat) (a : eA) (v : Value) : Prop := match a with
  | .inl t => ∃ x : Int32, v = .int x ∧ t.1 < n ∧ ρ t.1 + t.2 = x.toInt
  | .inr o => eOm L o v
def eFm (L : Nat) (f : eF) (v : Value) : Prop := match f with
  | .inl b => ∃ x : Int32, v = .int x ∧ b.1 ≤ x.toInt ∧ x.toInt ≤ b.2
  | .inr o => eOm L o v
/-- more variables, the old ones as they were -/
def eEx (n : Nat) (ρ : Nat → Int) (n' : Nat) (ρ' : Nat → Int) : Prop := n ≤ n' ∧ ∀ k, k < n → ρ' k = ρ k
theorem eEx_rf {n : Nat} {ρ : Nat → Int} : eEx n ρ n ρ := ⟨Nat.le_refl _, fun _ _ => rfl⟩
theorem eEx_tr {n n1 n2 : Nat} {ρ ρ1 ρ2 : Nat → Int} (h : eEx n ρ n1 ρ1) (g : eEx n1 ρ1 n2 ρ2) : eEx n ρ n2 ρ2 := ⟨Nat.le_trans h.1 g.1, fun k hk => (g.2 k (Nat.lt_of_lt_of_le hk h.1)).trans (h.2 k hk)⟩
theorem eOm_L {L L' : Nat} {o : eO} {v : Value} (hL : L ≤ L') (h : eOm L o v) : eOm L' o v := by
  cases v with
  | ref k => exact h.elim Or.inl (fun h => Or.inr ⟨h.1, h.2.1, Nat.lt_of_lt_of_le h.2.2 hL⟩)
  | _ => exact h
theorem eVm_ex {n n' L L' : Nat} {ρ ρ' : Nat → Int} {a : eA} {v : Value} (hx : eEx n ρ n' ρ') (hL : L ≤ L') (h : eVm n ρ L a v) : eVm n' ρ' L' a v := by
  cases a with
  | inl t => obtain ⟨x, h1, h2, h3⟩ := h; exact ⟨x, h1, Nat.lt_of_lt_of_le h2 hx.1, by rw [hx.2 _ h2]; exact h3⟩
  | inr o => exact eOm_L hL h
/-! the world's numbers -/
def eNm (lw : Bool) (xs : Option (List Int32)) (ρ : Nat → Int) (W : eW) : Prop := 0 < W.1 ∧ ρ 0 = 0 ∧ (∀ q ∈ W.2.1, q.1 < W.1 ∧ q.2.1 ≤ ρ q.1 ∧ ρ q.1 ≤ q.2.2) ∧ (lw = true → ∃ ys, xs = some ys ∧ 1 < W.1 ∧ 0 ≤ ρ 1 ∧ ρ 1 + 4 < (ys.length : Int))
section EN
variable {lw : Bool} {xs : Option (List Int32)} {ρ : Nat → Int} {W : eW}
theorem eNm_fr {lo hi x : Int} (hN : eNm lw xs ρ W) (h1 : lo ≤ x) (h2 : x ≤ hi) : ∃ ρ', eEx W.1 ρ (W.1 + 1) ρ' ∧ eNm lw xs ρ' (eFr W lo hi) ∧ ρ' W.1 = x := by
  obtain ⟨a1, a2, a3, a4⟩ := hN
  have e : ∀ k, k < W.1 → (if k = W.1 then x else ρ k) = ρ k := fun k hk => if_neg (Nat.ne_of_lt hk)
  refine ⟨fun k => if k = W.1 then x else ρ k, ⟨Nat.le_succ _, e⟩, ⟨Nat.succ_pos _, (e 0 a1).trans a2, fun q hq => ?_, fun hl => ?_⟩, if_pos rfl⟩
  · have hq : q ∈ (W.1, lo, hi) :: W.2.1 := hq
    cases hq with
    | head => exact ⟨Nat.lt_succ_self _, by show lo ≤ (if W.1 = W.1 then x else ρ W.1); rw [if_pos rfl]; exact h1, by show (if W.1 = W.1 then x else ρ W.1) ≤ hi; rw [if_pos rfl]; exact h2⟩
    | tail _ hq =>
      obtain ⟨b1, b2, b3⟩ := a3 q hq
      refine ⟨Nat.lt_succ_of_lt b1, ?_, ?_⟩
      · show q.2.1 ≤ (if q.1 = W.1 then x else ρ q.1); rw [e _ b1]; exact b2
      · show (if q.1 = W.1 then x else ρ q.1) ≤ q.2.2; rw [e _ b1]; exact b3
  · obtain ⟨ys, c1, c2, c3, c4⟩ := a4 hl
    refine ⟨ys, c1, Nat.lt_succ_of_lt c2, ?_, ?_⟩
    · show 0 ≤ (if 1 = W.1 then x else ρ 1); rw [e _ c2]; exact c3
    · show (if 1 = W.1 then x else ρ 1) + 4 < _; rw [e _ c2]; exact c4
theorem eBd_s {v : Nat} {b : Int × Int} : ∀ {s : eSt}, (∀ q ∈ s, q.2.1 ≤ ρ q.1 ∧ ρ q.1 ≤ q.2.2) → eBd s v = some b → b.1 ≤ ρ v ∧ ρ v ≤ b.2
  | [], _, h => by cases h
  | q :: s, hs, h => by
    have h : (bif Nat.beq q.1 v then some q.2 else eBd s v) = some b := h
    cases hb : Nat.beq q.1 v with
    | true =>
      rw [hb] at h
      have h : some q.2 = some b := h
      cases h
      rw [← eBeq hb]
      exact hs q List.mem_cons_self
    | false =>
      rw [hb] at h
      exact eBd_s (fun z hz => hs z (List.mem_cons_of_mem _ hz)) h
theorem eNm_b (hN : eNm lw xs ρ W) : ∀ q ∈ W.2.1, q.2.1 ≤ ρ q.1 ∧ ρ q.1 ≤ q.2.2 := fun q hq => (hN.2.2.1 q hq).2
theorem eIv_s {t : eT} {b : Int × Int} (hN : eNm lw xs ρ W) (h : eIv W t = some b) : b.1 ≤ ρ t.1 + t.2 ∧ ρ t.1 + t.2 ≤ b.2 := by
  unfold eIv at h
  split at h
  · next c hc =>
    cases h
    have := eBd_s (eNm_b hN) hc
    exact ⟨by show c.1 + t.2 ≤ _; omega, by show _ ≤ c.2 + t.2; omega⟩
  · cases h
theorem eIr_s {lo hi a b : Int} (h : eIr lo hi a b = true) : lo ≤ a ∧ b ≤ hi := by
  obtain ⟨h1, h2⟩ := eBif h
  exact ⟨eLe_s.mp h1, eLe_s.mp h2⟩
theorem eBt_s {t : eT} {lo hi : Int} (hN : eNm lw xs ρ W) (h : eBt W t lo hi = true) : lo ≤ ρ t.1 + t.2 ∧ ρ t.1 + t.2 ≤ hi := by
  unfold eBt at h
  split at h
  · next b hb =>
    have h1 := eIv_s hN hb
    have h2 := eIr_s h
    exact ⟨by omega, by omega⟩
  · cases h
/-- an operation of ints that the checker's own bounds -/
def eOpS (f : eOp) (g : Int32 → Int32 → Int32) : Prop := ∀ {lw : Bool} {xs : Option (List Int32)} {ρ : Nat → Int} {W : eW} {t u : eT} {x y : Int32}, eNm lw xs ρ W → t.1 < W.1 → ρ t.1 + t.2 = x.toInt → u.1 < W.1 → ρ u.1 + u.2 = y.toInt →
  ∃ ρ', eEx W.1 ρ (f W t u).1.1 ρ' ∧ eNm lw xs ρ' (f W t u).1 ∧ (f W t u).1.2.2 = W.2.2 ∧ (f W t u).2.1 < (f W t u).1.1 ∧ ρ' (f W t u).2.1 + (f W t u).2.2 = (g x y).toInt
theorem eOpFr {z : Int32} {lo hi : Int} (hN : eNm lw xs ρ W) (h1 : lo ≤ z.toInt) (h2 : z.toInt ≤ hi) : ∃ ρ', eEx W.1 ρ (eFr W lo hi).1 ρ' ∧ eNm lw xs ρ' (eFr W lo hi) ∧ (eFr W lo hi).2.2 = W.2.2 ∧ (eNv W).1 < (eFr W lo hi).1 ∧ ρ' (eNv W).1 + (eNv W).2 = z.toInt := by
  obtain ⟨ρ', g1, g2, g3⟩ := eNm_fr hN h1 h2
  exact ⟨ρ', g1, g2, rfl, Nat.lt_succ_self _, by show ρ' W.1 + 0 = _; rw [g3]; exact Int.add_zero _⟩
theorem eOpAny_s (g : Int32 → Int32 → Int32) : eOpS eOpAny g := fun hN _ _ _ _ => eOpFr hN (i32_rng _).1 (i32_rng _).2
theorem eOpAdd_s : eOpS eOpAdd (fun x y => x + y) := by
  intro lw xs ρ W t u x y hN ht ex hu ey
  unfold eOpAdd
  split
  · next a b ha hb =>
    have h1 := eIv_s hN ha
    have h2 := eIv_s hN hb
    cases hr : eIr (-2147483648) 2147483647 (a.1 + b.1) (a.2 + b.2) with
    | false => exact eOpAny_s _ hN ht ex hu ey
    | true =>
      have h3 := eIr_s hr
      have h4 : (x + y).toInt = x.toInt + y.toInt := i32_add (by omega) (by omega)
      dsimp only [cond]
      cases h5 : Nat.beq u.1 0 with
      | true => exact ⟨ρ, eEx_rf, hN, rfl, ht, by have e := eBeq h5; rw [e] at ey; have := hN.2.1; show ρ t.1 + (t.2 + u.2) = _; rw [h4]; omega⟩
      | false =>
        dsimp only [cond]
        cases h6 : Nat.beq t.1 0 with
        | true => exact ⟨ρ, eEx_rf, hN, rfl, hu, by have e := eBeq h6; rw [e] at ex; have := hN.2.1; show ρ u.1 + (u.2 + t.2) = _; rw [h4]; omega⟩
        | false => exact eOpFr hN (by rw [h4]; omega) (by rw [h4]; omega)
  · exact eOpAny_s _ hN ht ex hu ey
theorem eOpSub_s : eOpS eOpSub (fun x y => x - y) := by
  intro lw xs ρ W t u x y hN ht ex hu ey
  unfold eOpSub
  split
  · next a b ha hb =>
    have h1 := eIv_s hN ha
    have h2 := eIv_s hN hb
    cases hr : eIr (-2147483648) 2147483647 (a.1 - b.2) (a.2 - b.1) with
    | false => exact eOpAny_s _ hN ht ex hu ey
    | true =>
      have h3 := eIr_s hr
      have h4 : (x - y).toInt = x.toInt - y.toInt := i32_sub (by omega) (by omega)
      dsimp only [cond]
      cases h5 : Nat.beq u.1 0 with
      | true => exact ⟨ρ, eEx_rf, hN, rfl, ht, by have e := eBeq h5; rw [e] at ey; have := hN.2.1; show ρ t.1 + (t.2 - u.2) = _; rw [h4]; omega⟩
      | false => exact eOpFr hN (by rw [h4]; omega) (by rw [h4]; omega)
  · exact eOpAny_s _ hN ht ex hu ey
theorem eOpMul_s : eOpS eOpMul (fun x y => x * y) := by
  intro lw xs ρ W t u x y hN ht ex hu ey
  unfold eOpMul
  split
  · next a b ha hb =>
    have h1 := eIv_s hN ha
    have h2 := eIv_s hN hb
    cases g1 : eLe 0 a.1 with
    | false => exact eOpAny_s _ hN ht ex hu ey
    | true =>
    dsimp only [cond]
    cases g2 : eLe 0 b.1 with
    | false => exact eOpAny_s _ hN ht ex hu ey
    | true =>
    dsimp only [cond]
    cases g3 : eLe (a.2 * b.2) 2147483647 with
    | false => exact eOpAny_s _ hN ht ex hu ey
    | true =>
      have g1 := eLe_s.mp g1
      have g2 := eLe_s.mp g2
      have g3 := eLe_s.mp g3
      rw [ex] at h1
      rw [ey] at h2
      have k1 : a.1 * b.1 ≤ x.toInt * y.toInt := Int.mul_le_mul h1.1 h2.1 g2 (Int.le_trans g1 h1.1)
      have k2 : x.toInt * y.toInt ≤ a.2 * b.2 := Int.mul_le_mul h1.2 h2.2 (Int.le_trans g2 h2.1) (Int.le_trans (Int.le_trans g1 h1.1) h1.2)
      have k3 : 0 ≤ a.1 * b.1 := Int.mul_nonneg g1 g2
      have h4 : (x * y).toInt = x.toInt * y.toInt := i32_mul (by omega) (by omega)
      exact eOpFr hN (by rw [h4]; exact k1) (by rw [h4]; exact k2)
  · exact eOpAny_s _ hN ht ex hu ey
theorem eOpAnd_s : eOpS eOpAnd (fun x y => x &&& y) := by
  intro lw xs ρ W t u x y hN ht ex hu ey
  unfold eOpAnd
  split
  · next b hb =>
    have h2 := eIv_s hN hb
    cases g1 : eLe 0 b.1 with
    | true =>
      have g1 := eLe_s.mp g1
      have h3 := i32_and (x := x) (y := y) (by omega)
      exact eOpFr hN h3.1 (Int.le_trans h3.2 (by omega))
    | false =>
      dsimp only [cond]
      split
      · next a ha =>
        have h1 := eIv_s hN ha
        cases g2 : eLe 0 a.1 with
        | true =>
          have g2 := eLe_s.mp g2
          have h3 := i32_and2 (x := x) (y := y) (by omega)
          exact eOpFr hN h3.1 (Int.le_trans h3.2 (by omega))
        | false => exact eOpAny_s _ hN ht ex hu ey
      · exact eOpAny_s _ hN ht ex hu ey
  · exact eOpAny_s _ hN ht ex hu ey
/-! conditions -/
theorem eNm_c {lo hi : Int} {v : Nat} (hN : eNm lw xs ρ W) (hv : v < W.1) (h1 : lo ≤ ρ v) (h2 : ρ v ≤ hi) : eNm lw xs ρ (W.1, (v, lo, hi) :: W.2.1, W.2.2) :=
  ⟨hN.1, hN.2.1, fun q hq => by
    have hq : q ∈ (v, lo, hi) :: W.2.1 := hq
    cases hq with
    | head => exact ⟨hv, h1, h2⟩
    | tail _ hq => exact hN.2.2.1 q hq, hN.2.2.2⟩
/-- a world with the same variables and fields, of which the numbers hold too -/
def eSub (lw : Bool) (xs : Option (List Int32)) (ρ : Nat → Int) (W : eW) (r : Option eW) : Prop := ∃ W1, r = some W1 ∧ eNm lw xs ρ W1 ∧ W1.1 = W.1 ∧ W1.2.2 = W.2.2
theorem eSub_rf (hN : eNm lw xs ρ W) : eSub lw xs ρ W (some W) := ⟨W, rfl, hN, rfl, rfl⟩
theorem eAs_s {t : eT} {lo hi : Int} (hN : eNm lw xs ρ W) (ht : t.1 < W.1) (h1 : lo ≤ ρ t.1 + t.2) (h2 : ρ t.1 + t.2 ≤ hi) : eSub lw xs ρ W (eAs W t lo hi) := by
  unfold eAs
  split
  · next b hb =>
    have h3 := eBd_s (eNm_b hN) hb
    cases g1 : eLe lo (b.1 + t.2) with
    | true =>
      dsimp only [cond]
      cases g2 : eLe (b.2 + t.2) hi with
      | true => exact eSub_rf hN
      | false =>
        dsimp only [cond]
        rw [show eLe b.1 (hi - t.2) = true from eLe_s.mpr (by omega)]
        exact ⟨_, rfl, eNm_c hN ht h3.1 (by omega), rfl, rfl⟩
    | false =>
      dsimp only [cond]
      cases g2 : eLe (b.2 + t.2) hi with
      | true =>
        dsimp only [cond]
        rw [show eLe (lo - t.2) b.2 = true from eLe_s.mpr (by omega)]
        exact ⟨_, rfl, eNm_c hN ht (by omega) h3.2, rfl, rfl⟩
      | false =>
        dsimp only [cond]
        rw [show eLe lo hi = true from eLe_s.mpr (by omega)]
        exact ⟨_, rfl, eNm_c hN ht (by omega) (by omega), rfl, rfl⟩
  · exact eSub_rf hN
theorem eA2_s {t u : eT} {a b : Int × Int} (hN : eNm lw xs ρ W) (ht : t.1 < W.1) (hu : u.1 < W.1) (h1 : a.1 ≤ ρ t.1 + t.2) (h2 : ρ t.1 + t.2 ≤ a.2) (h3 : b.1 ≤ ρ u.1 + u.2) (h4 : ρ u.1 + u.2 ≤ b.2) : eSub lw xs ρ W (eA2 W t u a b) := by
  obtain ⟨W1, e1, e2, e3, e4⟩ := eAs_s hN ht h1 h2
  unfold eA2
  rw [e1]
  obtain ⟨W2, f1, f2, f3, f4⟩ := eAs_s e2 (t := u) (by rw [e3]; exact hu) h3 h4
  exact ⟨W2, f1, f2, f3.trans e3, f4.trans e4⟩
theorem eLt_s {d : Int} {t u : eT} (hN : eNm lw xs ρ W) (ht : t.1 < W.1) (hu : u.1 < W.1) (h : ρ t.1 + t.2 + d ≤ ρ u.1 + u.2) : eSub lw xs ρ W (eLt d W t u) := by
  unfold eLt
  cases g : Nat.beq t.1 u.1 with
  | true =>
    dsimp only [cond]
    rw [eBeq g] at h
    rw [show eLe (t.2 + d) u.2 = true from eLe_s.mpr (by omega)]
    exact eSub_rf hN
  | false =>
    dsimp only [cond]
    split
    · next a b ha hb =>
      have h1 := eIv_s hN ha
      have h2 := eIv_s hN hb
      exact eA2_s hN ht hu h1.1 (by show _ ≤ b.2 - d; omega) (by show a.1 + d ≤ _; omega) h2.2
    · exact eSub_rf hN
theorem eEq_s {t u : eT} (hN : eNm lw xs ρ W) (ht : t.1 < W.1) (hu : u.1 < W.1) (h : ρ t.1 + t.2 = ρ u.1 + u.2) : eSub lw xs ρ W (eEq W t u) := by
  unfold eEq
  cases g : Nat.beq t.1 u.1 with
  | true =>
    dsimp only [cond]
    rw [eBeq g] at h
    rw [show eLe t.2 u.2 = true from eLe_s.mpr (by omega), show eLe u.2 t.2 = true from eLe_s.mpr (by omega)]
    exact eSub_rf hN
  | false =>
    dsimp only [cond]
    split
    · next a b ha hb =>
      have h1 := eIv_s hN ha
      have h2 := eIv_s hN hb
      exact eA2_s hN ht hu (by omega) (by omega) (by omega) (by omega)
    · exact eSub_rf hN
theorem eNe1_s {t : eT} {a b : Int × Int} {z : Int} (hN : eNm lw xs ρ W) (ht : t.1 < W.1) (h1 : a.1 ≤ ρ t.1 + t.2) (h2 : ρ t.1 + t.2 ≤ a.2) (h3 : b.1 ≤ z) (h4 : z ≤ b.2) (h : ρ t.1 + t.2 ≠ z) : eSub lw xs ρ W (eNe1 W t a b) := by
  unfold eNe1
  cases g1 : eLe b.2 b.1 with
  | false => exact eSub_rf hN
  | true =>
  dsimp only [cond]
  cases g2 : eLe a.1 b.1 with
  | false => exact eSub_rf hN
  | true =>
  dsimp only [cond]
  have g1 := eLe_s.mp g1
  cases g3 : eLe b.1 a.1 with
  | true =>
    have g3 := eLe_s.mp g3
    exact eAs_s hN ht (by omega) h2
  | false =>
  dsimp only [cond]
  cases g4 : eLe a.2 b.1 with
  | false => exact eSub_rf hN
  | true =>
  dsimp only [cond]
  cases g5 : eLe b.1 a.2 with
  | false => exact eSub_rf hN
  | true =>
    have g4 := eLe_s.mp g4
    exact eAs_s hN ht h1 (by omega)
theorem eNe_s {t u : eT} (hN : eNm lw xs ρ W) (ht : t.1 < W.1) (hu : u.1 < W.1) (h : ρ t.1 + t.2 ≠ ρ u.1 + u.2) : eSub lw xs ρ W (eNe W t u) := by
  unfold eNe
  cases g : Nat.beq t.1 u.1 with
  | true =>
    dsimp only [cond]
    rw [eBeq g] at h
    cases g1 : eLe t.2 u.2 with
    | false => exact eSub_rf hN
    | true =>
      dsimp only [cond]
      cases g2 : eLe u.2 t.2 with
      | false => exact eSub_rf hN
      | true =>
        have g1 := eLe_s.mp g1
        have g2 := eLe_s.mp g2
        omega
  | false =>
    dsimp only [cond]
    split
    · next a b ha hb =>
      have h1 := eIv_s hN ha
      have h2 := eIv_s hN hb
      obtain ⟨W1, e1, e2, e3, e4⟩ := eNe1_s (b := b) hN ht h1.1 h1.2 h2.1 h2.2 h
      rw [e1]
      obtain ⟨W2, f1, f2, f3, f4⟩ := eNe1_s (t := u) (a := b) (b := a) e2 (by rw [e3]; exact hu) h2.1 h2.2 h1.1 h1.2 (Ne.symm h)
      exact ⟨W2, f1, f2, f3.trans e3, f4.trans e4⟩
    · exact eSub_rf hN
theorem eCm_s {c : Jvm.ClassFile.Cond} {t u : eT} {x y : Int32} (hN : eNm lw xs ρ W) (ht : t.1 < W.1) (ex : ρ t.1 + t.2 = x.toInt) (hu : u.1 < W.1) (ey : ρ u.1 + u.2 = y.toInt) (h : sC2 c x y = true) : eSub lw xs ρ W (eCm c W t u) := by
  cases c with
  | eq => have h : x = y := of_decide_eq_true h; exact eEq_s hN ht hu (by rw [ex, ey, h])
  | ne => have h : ¬ x = y := of_decide_eq_true h; exact eNe_s hN ht hu (by rw [ex, ey]; exact fun e => h (Int32.toInt_inj.mp e))
  | lt => have h : x < y := of_decide_eq_true h; have h := Int32.lt_iff_toInt_lt.mp h; exact eLt_s hN ht hu (by omega)
  | ge => have h : y ≤ x := of_decide_eq_true h; have h := Int32.le_iff_toInt_le.mp h; exact eLt_s hN hu ht (by omega)
  | gt => have h : y < x := of_decide_eq_true h; have h := Int32.lt_iff_toInt_lt.mp h; exact eLt_s hN hu ht (by omega)
  | le => have h : x ≤ y := of_decide_eq_true h; have h := Int32.le_iff_toInt_le.mp h; exact eLt_s hN ht hu (by omega)
theorem eNg_s {c : Jvm.ClassFile.Cond} {x y : Int32} (h : sC2 c x y = false) : sC2 (eNg c) x y = true := by
  cases c with
  | eq => have h : ¬ x = y := of_decide_eq_false h; exact decide_eq_true h
  | ne => have h : ¬ ¬ x = y := of_decide_eq_false h; exact decide_eq_true (Classical.byContradiction h)
  | lt => have h : ¬ x < y := of_decide_eq_false h; exact decide_eq_true (Int32.le_iff_toInt_le.mpr (Int.not_lt.mp (fun e => h (Int32.lt_iff_toInt_lt.mpr e))))
  | ge => have h : ¬ y ≤ x := of_decide_eq_false h; exact decide_eq_true (Int32.lt_iff_toInt_lt.mpr (Int.not_le.mp (fun e => h (Int32.le_iff_toInt_le.mpr e))))
  | gt => have h : ¬ y < x := of_decide_eq_false h; exact decide_eq_true (Int32.le_iff_toInt_le.mpr (Int.not_lt.mp (fun e => h (Int32.lt_iff_toInt_lt.mpr e))))
  | le => have h : ¬ x ≤ y := of_decide_eq_false h; exact decide_eq_true (Int32.lt_iff_toInt_lt.mpr (Int.not_le.mp (fun e => h (Int32.le_iff_toInt_le.mpr e))))
theorem eBr_s {c : Jvm.ClassFile.Cond} {t u : eT} {x y : Int32} {tg nx : Nat} {lv : eLv} {st : List eA} (hN : eNm lw xs ρ W) (ht : t.1 < W.1) (ex : ρ t.1 + t.2 = x.toInt) (hu : u.1 < W.1) (ey : ρ u.1 + u.2 = y.toInt) :
    ∃ W1, ((cond (sC2 c x y) tg nx, lv, st, W1) : eQ) ∈ eBr c W t u tg nx lv st ∧ eNm lw xs ρ W1 ∧ W1.1 = W.1 ∧ W1.2.2 = W.2.2 := by
  unfold eBr
  cases hc : sC2 c x y with
  | true =>
    obtain ⟨W1, e1, e2, e3, e4⟩ := eCm_s hN ht ex hu ey hc
    rw [e1]
    exact ⟨W1, List.mem_cons_self, e2, e3, e4⟩
  | false =>
    obtain ⟨W1, e1, e2, e3, e4⟩ := eCm_s hN ht ex hu ey (eNg_s hc)
    rw [e1]
    refine ⟨W1, ?_, e2, e3, e4⟩
    split
    · exact List.mem_cons_of_mem _ List.mem_cons_self
    · exact List.mem_cons_self
end EN
