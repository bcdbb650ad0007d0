/-! what the checker's words mean (31a: numbers, conditions, instructions of locals and stack) -/
theorem i32_rng (x : Int32) : -2147483648 ≤ x.toInt ∧ x.toInt ≤ 2147483647 := ⟨Int.le_trans (by decide) x.le_toInt, Int.le_of_lt_add_one (Int.lt_of_lt_of_le x.toInt_lt (by decide))⟩
theorem i32_add {x y : Int32} (h1 : -2147483648 ≤ x.toInt + y.toInt) (h2 : x.toInt + y.toInt ≤ 2147483647) : (x + y).toInt = x.toInt + y.toInt := by
  show (x.toBitVec + y.toBitVec).toInt = _
  rw [BitVec.toInt_add]
  exact Int.bmod_eq_of_le (Int.le_trans (by decide) h1) (Int.lt_of_le_of_lt h2 (by decide))
theorem i32_sub {x y : Int32} (h1 : -2147483648 ≤ x.toInt - y.toInt) (h2 : x.toInt - y.toInt ≤ 2147483647) : (x - y).toInt = x.toInt - y.toInt := by
  show (x.toBitVec - y.toBitVec).toInt = _
  rw [BitVec.toInt_sub]
  exact Int.bmod_eq_of_le (Int.le_trans (by decide) h1) (Int.lt_of_le_of_lt h2 (by decide))
theorem i32_mul {x y : Int32} (h1 : -2147483648 ≤ x.toInt * y.toInt) (h2 : x.toInt * y.toInt ≤ 2147483647) : (x * y).toInt = x.toInt * y.toInt := by
  show (x.toBitVec * y.toBitVec).toInt = _
  rw [BitVec.toInt_mul]
  exact Int.bmod_eq_of_le (Int.le_trans (by decide) h1) (Int.lt_of_le_of_lt h2 (by decide))
theorem i32_nn {y : Int32} (h : 0 ≤ y.toInt) : 2 * y.toBitVec.toNat < 2 ^ 32 ∧ y.toInt = (y.toBitVec.toNat : Int) := by
  have h1 : 2 * y.toBitVec.toNat < 2 ^ 32 := by
    have h2 : y.toInt = if 2 * y.toBitVec.toNat < 2 ^ 32 then (y.toBitVec.toNat : Int) else (y.toBitVec.toNat : Int) - (2 ^ 32 : Nat) := BitVec.toInt_eq_toNat_cond y.toBitVec
    rw [h2] at h
    split at h
    · assumption
    · have := y.toBitVec.isLt; omega
  exact ⟨h1, BitVec.toInt_eq_toNat_of_lt h1⟩
theorem i32_and {x y : Int32} (h : 0 ≤ y.toInt) : 0 ≤ (x &&& y).toInt ∧ (x &&& y).toInt ≤ y.toInt := by
  obtain ⟨h1, h2⟩ := i32_nn h
  have h3 : (x.toBitVec &&& y.toBitVec).toNat ≤ y.toBitVec.toNat := by rw [BitVec.toNat_and]; exact Nat.and_le_right
  have h4 : (x &&& y).toInt = ((x.toBitVec &&& y.toBitVec).toNat : Int) := BitVec.toInt_eq_toNat_of_lt (x := x.toBitVec &&& y.toBitVec) (by omega)
  rw [h4, h2]
  omega
theorem i32_and2 {x y : Int32} (h : 0 ≤ x.toInt) : 0 ≤ (x &&& y).toInt ∧ (x &&& y).toInt ≤ x.toInt := by
  obtain ⟨h1, h2⟩ := i32_nn h
  have h3 : (x.toBitVec &&& y.toBitVec).toNat ≤ x.toBitVec.toNat := by rw [BitVec.toNat_and]; exact Nat.and_le_left
  have h4 : (x &&& y).toInt = ((x.toBitVec &&& y.toBitVec).toNat : Int) := BitVec.toInt_eq_toNat_of_lt (x := x.toBitVec &&& y.toBitVec) (by omega)
  rw [h4, h2]
  omega
/-! values -/
def eOm (L : Nat) (o : eO) (v : Value) : Prop := match v with
  | .ref k => (∃ a b, o = .inl (a, b) ∧ a ≤ k ∧ k ≤ b) ∨ (o = .inr 8 ∧ 119 ≤ k ∧ k < L)
  | .long _ => o = .inr 0
  | .double x => o = .inr 1 ∨ (o = .inr 2 ∧ ∃ a : Int32, 0 ≤ a.toInt ∧ a.toInt ≤ 640 ∧ x = FP.i2d a) ∨ (o = .inr 3 ∧ ∃ a : Int32, 1 ≤ a.toInt ∧ a.toInt ≤ 10 ∧ x = FP.i2d a)
  | .float x => o = .inr 4 ∨ (o = .inr 5 ∧ ∃ a : Int32, 0 ≤ a.toInt ∧ a.toInt ≤ 16 ∧ x = FP.i2f a) ∨ (o = .inr 6 ∧ ∃ a : Int32, 1 ≤ a.toInt ∧ a.toInt ≤ 10 ∧ x = FP.i2f a) ∨ (o = .inr 7 ∧ ∃ a b : Int32, (0 ≤ a.toInt ∧ a.toInt ≤ 16) ∧ (1 ≤ b.toInt ∧ b.toInt ≤ 10) ∧ x = FP.fdiv (FP.i2f a) (FP.i2f b))
  | .retAddr _ => o = .inr 9
  | _ => False
def eVm (n : Nat) (ρ : Nat → Int) (L : Nat) (a : eA) (v : Value) : Prop := match a with
  | .inl t => ∃ x : Int32, v = .int x ∧ t.1 < n ∧ ρ t.1 + t.2 = x.toInt
  | .inr o => eOm L o v
def eFm (L : Nat) (f : eF) (v : Value) : Prop := match f with
  | .inl b => ∃ x : Int32, v = .int x ∧ b.1 ≤ x.toInt ∧ x.toInt ≤ b.2
  | .inr o => eOm L o v
/-- more variables, the old ones as they were -/
def eEx (n : Nat) (ρ : Nat → Int) (n' : Nat) (ρ' : Nat → Int) : Prop := n ≤ n' ∧ ∀ k, k < n → ρ' k = ρ k
theorem eEx_rf {n : Nat} {ρ : Nat → Int} : eEx n ρ n ρ := ⟨Nat.le_refl _, fun _ _ => rfl⟩
theorem eEx_tr {n n1 n2 : Nat} {ρ ρ1 ρ2 : Nat → Int} (h : eEx n ρ n1 ρ1) (g : eEx n1 ρ1 n2 ρ2) : eEx n ρ n2 ρ2 := ⟨Nat.le_trans h.1 g.1, fun k hk => (g.2 k (Nat.lt_of_lt_of_le hk h.1)).trans (h.2 k hk)⟩
theorem eOm_L {L L' : Nat} {o : eO} {v : Value} (hL : L ≤ L') (h : eOm L o v) : eOm L' o v := by
  cases v with
  | ref k => exact h.elim Or.inl (fun h => Or.inr ⟨h.1, h.2.1, Nat.lt_of_lt_of_le h.2.2 hL⟩)
  | _ => exact h
theorem eVm_ex {n n' L L' : Nat} {ρ ρ' : Nat → Int} {a : eA} {v : Value} (hx : eEx n ρ n' ρ') (hL : L ≤ L') (h : eVm n ρ L a v) : eVm n' ρ' L' a v := by
  cases a with
  | inl t => obtain ⟨x, h1, h2, h3⟩ := h; exact ⟨x, h1, Nat.lt_of_lt_of_le h2 hx.1, by rw [hx.2 _ h2]; exact h3⟩
  | inr o => exact eOm_L hL h
/-! the world's numbers -/
def eMmO (n : Nat) (ρ : Nat → Int) (m : eMm) : Prop := ∀ e ∈ m, (e.1.2.1.1 < n ∧ e.1.2.2.1 < n ∧ e.2.1 < n) ∧ ∀ x y : Int32, ρ e.1.2.1.1 + e.1.2.1.2 = x.toInt → ρ e.1.2.2.1 + e.1.2.2.2 = y.toInt → ρ e.2.1 + e.2.2 = (eSem e.1.1 x y).toInt
theorem eMmO_ex {n n' : Nat} {ρ ρ' : Nat → Int} {m : eMm} (hx : eEx n ρ n' ρ') (h : eMmO n ρ m) : eMmO n' ρ' m := fun e he => by
  obtain ⟨⟨h1, h2, h3⟩, h4⟩ := h e he
  refine ⟨⟨Nat.lt_of_lt_of_le h1 hx.1, Nat.lt_of_lt_of_le h2 hx.1, Nat.lt_of_lt_of_le h3 hx.1⟩, fun x y => ?_⟩
  rw [hx.2 _ h1, hx.2 _ h2, hx.2 _ h3]
  exact h4 x y
def eNm (lw : Bool) (xs : Option (List Int32)) (ρ : Nat → Int) (W : eW) : Prop := 0 < W.1 ∧ ρ 0 = 0 ∧ ((∀ q ∈ W.2.1.1, q.1 < W.1 ∧ q.2.1 ≤ ρ q.1 ∧ ρ q.1 ≤ q.2.2) ∧ eMmO W.1 ρ W.2.1.2) ∧ (lw = true → ∃ ys, xs = some ys ∧ 1 < W.1 ∧ 0 ≤ ρ 1 ∧ ρ 1 + 4 < (ys.length : Int))
section EN
variable {lw : Bool} {xs : Option (List Int32)} {ρ : Nat → Int} {W : eW}
theorem eNm_fr {lo hi x : Int} (hN : eNm lw xs ρ W) (h1 : lo ≤ x) (h2 : x ≤ hi) : ∃ ρ', eEx W.1 ρ (W.1 + 1) ρ' ∧ eNm lw xs ρ' (eFr W lo hi) ∧ ρ' W.1 = x := by
  obtain ⟨a1, a2, ⟨a3, a5⟩, a4⟩ := hN
  have e : ∀ k, k < W.1 → (if k = W.1 then x else ρ k) = ρ k := fun k hk => if_neg (Nat.ne_of_lt hk)
  refine ⟨fun k => if k = W.1 then x else ρ k, ⟨Nat.le_succ _, e⟩, ⟨Nat.succ_pos _, (e 0 a1).trans a2, ⟨fun q hq => ?_, eMmO_ex ⟨Nat.le_succ _, e⟩ a5⟩, fun hl => ?_⟩, if_pos rfl⟩
  · have hq : q ∈ (W.1, lo, hi) :: W.2.1.1 := hq
    cases hq with
    | head => exact ⟨Nat.lt_succ_self _, by show lo ≤ (if W.1 = W.1 then x else ρ W.1); rw [if_pos rfl]; exact h1, by show (if W.1 = W.1 then x else ρ W.1) ≤ hi; rw [if_pos rfl]; exact h2⟩
    | tail _ hq =>
      obtain ⟨b1, b2, b3⟩ := a3 q hq
      refine ⟨Nat.lt_succ_of_lt b1, ?_, ?_⟩
      · show q.2.1 ≤ (if q.1 = W.1 then x else ρ q.1); rw [e _ b1]; exact b2
      · show (if q.1 = W.1 then x else ρ q.1) ≤ q.2.2; rw [e _ b1]; exact b3
  · obtain ⟨ys, c1, c2, c3, c4⟩ := a4 hl
    refine ⟨ys, c1, Nat.lt_succ_of_lt c2, ?_, ?_⟩
    · show 0 ≤ (if 1 = W.1 then x else ρ 1); rw [e _ c2]; exact c3
    · show (if 1 = W.1 then x else ρ 1) + 4 < _; rw [e _ c2]; exact c4
theorem eBd_s {v : Nat} {b : Int × Int} : ∀ {s : List (Nat × Int × Int)}, (∀ q ∈ s, q.2.1 ≤ ρ q.1 ∧ ρ q.1 ≤ q.2.2) → eBd s v = some b → b.1 ≤ ρ v ∧ ρ v ≤ b.2
  | [], _, h => by cases h
  | q :: s, hs, h => by
    have h : (bif Nat.beq q.1 v then some q.2 else eBd s v) = some b := h
    cases hb : Nat.beq q.1 v with
    | true =>
      rw [hb] at h
      have h : some q.2 = some b := h
      cases h
      rw [← eBeq hb]
      exact hs q List.mem_cons_self
    | false =>
      rw [hb] at h
      exact eBd_s (fun z hz => hs z (List.mem_cons_of_mem _ hz)) h
theorem eNm_b (hN : eNm lw xs ρ W) : ∀ q ∈ W.2.1.1, q.2.1 ≤ ρ q.1 ∧ ρ q.1 ≤ q.2.2 := fun q hq => (hN.2.2.1.1 q hq).2
theorem eIv_s {t : eT} {b : Int × Int} (hN : eNm lw xs ρ W) (h : eIv W t = some b) : b.1 ≤ ρ t.1 + t.2 ∧ ρ t.1 + t.2 ≤ b.2 := by
  unfold eIv at h
  split at h
  · next c hc =>
    cases h
    have := eBd_s (eNm_b hN) hc
    exact ⟨by show c.1 + t.2 ≤ _; omega, by show _ ≤ c.2 + t.2; omega⟩
  · cases h
theorem eIr_s {lo hi a b : Int} (h : eIr lo hi a b = true) : lo ≤ a ∧ b ≤ hi := by
  obtain ⟨h1, h2⟩ := eBif h
  exact ⟨eLe_s.mp h1, eLe_s.mp h2⟩
theorem eBt_s {t : eT} {lo hi : Int} (hN : eNm lw xs ρ W) (h : eBt W t lo hi = true) : lo ≤ ρ t.1 + t.2 ∧ ρ t.1 + t.2 ≤ hi := by
  unfold eBt at h
  split at h
  · next b hb =>
    have h1 := eIv_s hN hb
    have h2 := eIr_s h
    exact ⟨by omega, by omega⟩
  · cases h
/-- an operation of ints that the checker's own bounds -/
def eOpS (f : eOp) (g : Int32 → Int32 → Int32) : Prop := ∀ {lw : Bool} {xs : Option (List Int32)} {ρ : Nat → Int} {W : eW} {t u : eT} {x y : Int32}, eNm lw xs ρ W → t.1 < W.1 → ρ t.1 + t.2 = x.toInt → u.1 < W.1 → ρ u.1 + u.2 = y.toInt →
  ∃ ρ', eEx W.1 ρ (f W t u).1.1 ρ' ∧ eNm lw xs ρ' (f W t u).1 ∧ (f W t u).1.2.2 = W.2.2 ∧ (f W t u).2.1 < (f W t u).1.1 ∧ ρ' (f W t u).2.1 + (f W t u).2.2 = (g x y).toInt
theorem eOpFr {z : Int32} {lo hi : Int} (hN : eNm lw xs ρ W) (h1 : lo ≤ z.toInt) (h2 : z.toInt ≤ hi) : ∃ ρ', eEx W.1 ρ (eFr W lo hi).1 ρ' ∧ eNm lw xs ρ' (eFr W lo hi) ∧ (eFr W lo hi).2.2 = W.2.2 ∧ (eNv W).1 < (eFr W lo hi).1 ∧ ρ' (eNv W).1 + (eNv W).2 = z.toInt := by
  obtain ⟨ρ', g1, g2, g3⟩ := eNm_fr hN h1 h2
  exact ⟨ρ', g1, g2, rfl, Nat.lt_succ_self _, by show ρ' W.1 + 0 = _; rw [g3]; exact Int.add_zero _⟩
theorem eOpAny_s (g : Int32 → Int32 → Int32) : eOpS eOpAny g := fun hN _ _ _ _ => eOpFr hN (i32_rng _).1 (i32_rng _).2
theorem eOpAdd_s : eOpS eOpAdd (fun x y => x + y) := by
  intro lw xs ρ W t u x y hN ht ex hu ey
  unfold eOpAdd
  split
  · next a b ha hb =>
    have h1 := eIv_s hN ha
    have h2 := eIv_s hN hb
    cases hr : eIr (-2147483648) 2147483647 (a.1 + b.1) (a.2 + b.2) with
    | false => exact eOpAny_s _ hN ht ex hu ey
    | true =>
      have h3 := eIr_s hr
      have h4 : (x + y).toInt = x.toInt + y.toInt := i32_add (by omega) (by omega)
      dsimp only [cond]
      cases h5 : Nat.beq u.1 0 with
      | true => exact ⟨ρ, eEx_rf, hN, rfl, ht, by have e := eBeq h5; rw [e] at ey; have := hN.2.1; show ρ t.1 + (t.2 + u.2) = _; rw [h4]; omega⟩
      | false =>
        dsimp only [cond]
        cases h6 : Nat.beq t.1 0 with
        | true => exact ⟨ρ, eEx_rf, hN, rfl, hu, by have e := eBeq h6; rw [e] at ex; have := hN.2.1; show ρ u.1 + (u.2 + t.2) = _; rw [h4]; omega⟩
        | false => exact eOpFr hN (by rw [h4]; omega) (by rw [h4]; omega)
  · exact eOpAny_s _ hN ht ex hu ey
theorem eOpSub_s : eOpS eOpSub (fun x y => x - y) := by
  intro lw xs ρ W t u x y hN ht ex hu ey
  unfold eOpSub
  split
  · next a b ha hb =>
    have h1 := eIv_s hN ha
    have h2 := eIv_s hN hb
    cases hr : eIr (-2147483648) 2147483647 (a.1 - b.2) (a.2 - b.1) with
    | false => exact eOpAny_s _ hN ht ex hu ey
    | true =>
      have h3 := eIr_s hr
      have h4 : (x - y).toInt = x.toInt - y.toInt := i32_sub (by omega) (by omega)
      dsimp only [cond]
      cases h5 : Nat.beq u.1 0 with
      | true => exact ⟨ρ, eEx_rf, hN, rfl, ht, by have e := eBeq h5; rw [e] at ey; have := hN.2.1; show ρ t.1 + (t.2 - u.2) = _; rw [h4]; omega⟩
      | false => exact eOpFr hN (by rw [h4]; omega) (by rw [h4]; omega)
  · exact eOpAny_s _ hN ht ex hu ey
theorem eOpMul_s : eOpS eOpMul (fun x y => x * y) := by
  intro lw xs ρ W t u x y hN ht ex hu ey
  unfold eOpMul
  split
  · next a b ha hb =>
    have h1 := eIv_s hN ha
    have h2 := eIv_s hN hb
    cases g1 : eLe 0 a.1 with
    | false => exact eOpAny_s _ hN ht ex hu ey
    | true =>
    dsimp only [cond]
    cases g2 : eLe 0 b.1 with
    | false => exact eOpAny_s _ hN ht ex hu ey
    | true =>
    dsimp only [cond]
    cases g3 : eLe (a.2 * b.2) 2147483647 with
    | false => exact eOpAny_s _ hN ht ex hu ey
    | true =>
      have g1 := eLe_s.mp g1
      have g2 := eLe_s.mp g2
      have g3 := eLe_s.mp g3
      rw [ex] at h1
      rw [ey] at h2
      have k1 : a.1 * b.1 ≤ x.toInt * y.toInt := Int.mul_le_mul h1.1 h2.1 g2 (Int.le_trans g1 h1.1)
      have k2 : x.toInt * y.toInt ≤ a.2 * b.2 := Int.mul_le_mul h1.2 h2.2 (Int.le_trans g2 h2.1) (Int.le_trans (Int.le_trans g1 h1.1) h1.2)
      have k3 : 0 ≤ a.1 * b.1 := Int.mul_nonneg g1 g2
      have h4 : (x * y).toInt = x.toInt * y.toInt := i32_mul (by omega) (by omega)
      exact eOpFr hN (by rw [h4]; exact k1) (by rw [h4]; exact k2)
  · exact eOpAny_s _ hN ht ex hu ey
theorem eOpAnd_s : eOpS eOpAnd (fun x y => x &&& y) := by
  intro lw xs ρ W t u x y hN ht ex hu ey
  unfold eOpAnd
  split
  · next b hb =>
    have h2 := eIv_s hN hb
    cases g1 : eLe 0 b.1 with
    | true =>
      have g1 := eLe_s.mp g1
      have h3 := i32_and (x := x) (y := y) (by omega)
      exact eOpFr hN h3.1 (Int.le_trans h3.2 (by omega))
    | false =>
      dsimp only [cond]
      split
      · next a ha =>
        have h1 := eIv_s hN ha
        cases g2 : eLe 0 a.1 with
        | true =>
          have g2 := eLe_s.mp g2
          have h3 := i32_and2 (x := x) (y := y) (by omega)
          exact eOpFr hN h3.1 (Int.le_trans h3.2 (by omega))
        | false => exact eOpAny_s _ hN ht ex hu ey
      · exact eOpAny_s _ hN ht ex hu ey
  · exact eOpAny_s _ hN ht ex hu ey
theorem i32_or {x y : Int32} {k : Nat} (hk : k < 32) (h1 : 0 ≤ x.toInt) (h2 : 0 ≤ y.toInt) (h3 : x.toInt ≤ Int.ofNat (Nat.pow 2 k - 1)) (h4 : y.toInt ≤ Int.ofNat (Nat.pow 2 k - 1)) : 0 ≤ (x ||| y).toInt ∧ (x ||| y).toInt ≤ Int.ofNat (Nat.pow 2 k - 1) := by
  obtain ⟨a1, a2⟩ := i32_nn h1
  obtain ⟨b1, b2⟩ := i32_nn h2
  have hp : 0 < 2 ^ k := Nat.two_pow_pos k
  have hp2 : 2 ^ k ≤ 2 ^ 31 := Nat.pow_le_pow_right (by decide) (by omega)
  have e9 : Nat.pow 2 k = 2 ^ k := rfl
  rw [e9] at h3 h4 ⊢
  have c1 : x.toBitVec.toNat < 2 ^ k := by have : Int.ofNat (2 ^ k - 1) = ((2 ^ k - 1 : Nat) : Int) := rfl; omega
  have c2 : y.toBitVec.toNat < 2 ^ k := by have : Int.ofNat (2 ^ k - 1) = ((2 ^ k - 1 : Nat) : Int) := rfl; omega
  have c3 : (x.toBitVec ||| y.toBitVec).toNat < 2 ^ k := by rw [BitVec.toNat_or]; exact Nat.or_lt_two_pow c1 c2
  have c4 : (x ||| y).toInt = ((x.toBitVec ||| y.toBitVec).toNat : Int) := BitVec.toInt_eq_toNat_of_lt (x := x.toBitVec ||| y.toBitVec) (by omega)
  rw [c4]
  have : Int.ofNat (2 ^ k - 1) = ((2 ^ k - 1 : Nat) : Int) := rfl
  omega
theorem eP2_l {b : Int} {k : Nat} : ∀ {l : List Nat}, (List.rec (motive := fun _ => Option Nat) none (fun k _ ih => bif eLe b (Int.ofNat (Nat.pow 2 k - 1)) then some k else ih) l : Option Nat) = some k → k ∈ l ∧ b ≤ Int.ofNat (Nat.pow 2 k - 1)
  | [], h => by cases h
  | j :: l, h => by
    have h : (bif eLe b (Int.ofNat (Nat.pow 2 j - 1)) then some j else (List.rec (motive := fun _ => Option Nat) none (fun k _ ih => bif eLe b (Int.ofNat (Nat.pow 2 k - 1)) then some k else ih) l : Option Nat)) = some k := h
    cases hb : eLe b (Int.ofNat (Nat.pow 2 j - 1)) with
    | true =>
      rw [hb] at h
      have h : some j = some k := h
      cases h
      exact ⟨List.mem_cons_self, eLe_s.mp hb⟩
    | false =>
      rw [hb] at h
      obtain ⟨h1, h2⟩ := eP2_l (l := l) h
      exact ⟨List.mem_cons_of_mem _ h1, h2⟩
theorem eP2_s {b : Int} {k : Nat} (h : eP2 b = some k) : k < 32 ∧ b ≤ Int.ofNat (Nat.pow 2 k - 1) := by
  obtain ⟨h1, h2⟩ := eP2_l (b := b) (k := k) (l := [0, 1, 2, 3, 4, 5, 6, 7, 8, 9, 10, 11, 12, 13, 14, 15, 16, 17, 18, 19, 20, 21, 22, 23, 24, 25, 26, 27, 28, 29, 30, 31]) h
  have h3 : ∀ j ∈ [0, 1, 2, 3, 4, 5, 6, 7, 8, 9, 10, 11, 12, 13, 14, 15, 16, 17, 18, 19, 20, 21, 22, 23, 24, 25, 26, 27, 28, 29, 30, 31], j < 32 := by decide
  exact ⟨h3 _ h1, h2⟩
theorem eOpOr_s : eOpS eOpOr (fun x y => x ||| y) := by
  intro lw xs ρ W t u x y hN ht ex hu ey
  unfold eOpOr
  split
  · next a b ha hb =>
    have h1 := eIv_s hN ha
    have h2 := eIv_s hN hb
    cases g1 : eLe 0 a.1 with
    | false => exact eOpAny_s _ hN ht ex hu ey
    | true =>
    dsimp only [cond]
    cases g2 : eLe 0 b.1 with
    | false => exact eOpAny_s _ hN ht ex hu ey
    | true =>
    dsimp only [cond]
    have g1 := eLe_s.mp g1
    have g2 := eLe_s.mp g2
    split
    · next k hk =>
      obtain ⟨k1, k2⟩ := eP2_s hk
      have m1 : a.2 ≤ eMax a.2 b.2 := by unfold eMax; cases h : eLe a.2 b.2 with
        | true => exact eLe_s.mp h
        | false => exact Int.le_refl _
      have m2 : b.2 ≤ eMax a.2 b.2 := by unfold eMax; cases h : eLe a.2 b.2 with
        | true => exact Int.le_refl _
        | false =>
          refine Int.le_of_lt (Int.not_le.mp fun e => ?_)
          have e : a.2 ≤ b.2 := e
          rw [eLe_s.mpr e] at h
          cases h
      have h3 := i32_or (x := x) (y := y) k1 (by omega) (by omega) (by omega) (by omega)
      exact eOpFr hN h3.1 h3.2
    · exact eOpAny_s _ hN ht ex hu ey
  · exact eOpAny_s _ hN ht ex hu ey
theorem i32_shr {x y : Int32} (h : 0 ≤ x.toInt) : 0 ≤ (x >>> y).toInt ∧ (x >>> y).toInt ≤ x.toInt := by
  have e : (x >>> y).toInt = x.toInt >>> (y.toBitVec.smod 32).toNat := BitVec.toInt_sshiftRight
  rw [e, Int.shiftRight_eq_div_pow]
  exact ⟨Int.ediv_nonneg h (Int.natCast_nonneg _), Int.ediv_le_self _ h⟩
theorem eOpShr_s : eOpS eOpShr (fun x y => x >>> (y &&& 31)) := by
  intro lw xs ρ W t u x y hN ht ex hu ey
  unfold eOpShr
  split
  · next a ha =>
    have h1 := eIv_s hN ha
    cases g1 : eLe 0 a.1 with
    | false => exact eOpAny_s (fun x y => x >>> (y &&& 31)) hN ht ex hu ey
    | true =>
      have g1 := eLe_s.mp g1
      have h3 := i32_shr (x := x) (y := y &&& 31) (by omega)
      exact eOpFr hN h3.1 (Int.le_trans h3.2 (by omega))
  · exact eOpAny_s (fun x y => x >>> (y &&& 31)) hN ht ex hu ey
theorem i32_shl {x y : Int32} {c m : Nat} (h1 : 0 ≤ x.toInt) (h2 : x.toInt ≤ (c : Int)) (h3 : 0 ≤ y.toInt) (h4 : y.toInt ≤ (m : Int)) (hm : m ≤ 30) (hc : c * 2 ^ m ≤ 2147483647) : 0 ≤ (x <<< (y &&& 31)).toInt ∧ (x <<< (y &&& 31)).toInt ≤ ((c * 2 ^ m : Nat) : Int) := by
  obtain ⟨a1, a2⟩ := i32_nn h1
  obtain ⟨b1, b2⟩ := i32_nn h3
  have hy : y.toBitVec.toNat ≤ m := by omega
  have hz : (y.toBitVec &&& 31#32).toNat = y.toBitVec.toNat := by
    rw [BitVec.toNat_and, show (31#32).toNat = 2 ^ 5 - 1 from rfl, Nat.and_two_pow_sub_one_eq_mod]
    exact Nat.mod_eq_of_lt (by omega)
  have hs : ((y.toBitVec &&& 31#32).smod 32).toNat = y.toBitVec.toNat := by
    have hm9 : (y.toBitVec &&& 31#32).msb = false := by
      rw [BitVec.msb_eq_decide]
      exact decide_eq_false (by omega)
    rw [BitVec.smod_eq, hm9]
    show ((y.toBitVec &&& 31#32) % 32#32).toNat = _
    rw [BitVec.toNat_umod, hz]
    exact Nat.mod_eq_of_lt (Nat.lt_of_le_of_lt (Nat.le_trans hy hm) (by decide))
  have hp : 2 ^ y.toBitVec.toNat ≤ 2 ^ m := Nat.pow_le_pow_right (by decide) hy
  have hx : x.toBitVec.toNat * 2 ^ y.toBitVec.toNat ≤ c * 2 ^ m := Nat.mul_le_mul (by omega) hp
  have e : ((x <<< (y &&& 31)).toBitVec).toNat = x.toBitVec.toNat * 2 ^ y.toBitVec.toNat := by
    show (x.toBitVec <<< ((y.toBitVec &&& 31#32).smod 32).toNat).toNat = _
    rw [BitVec.toNat_shiftLeft, hs, Nat.shiftLeft_eq]
    exact Nat.mod_eq_of_lt (by omega)
  have e2 : (x <<< (y &&& 31)).toInt = (((x <<< (y &&& 31)).toBitVec).toNat : Int) := BitVec.toInt_eq_toNat_of_lt (x := (x <<< (y &&& 31)).toBitVec) (by omega)
  rw [e2, e]
  omega
theorem eOpShl_s : eOpS eOpShl (fun x y => x <<< (y &&& 31)) := by
  intro lw xs ρ W t u x y hN ht ex hu ey
  unfold eOpShl
  split
  · next a b ha hb =>
    have h1 := eIv_s hN ha
    have h2 := eIv_s hN hb
    cases g1 : eLe 0 a.1 with
    | false => exact eOpAny_s (fun x y => x <<< (y &&& 31)) hN ht ex hu ey
    | true =>
    cases g2 : eLe 0 b.1 with
    | false => exact eOpAny_s (fun x y => x <<< (y &&& 31)) hN ht ex hu ey
    | true =>
    cases g3 : eLe b.2 30 with
    | false => exact eOpAny_s (fun x y => x <<< (y &&& 31)) hN ht ex hu ey
    | true =>
    cases g4 : eLe (a.2 * Int.ofNat (Nat.pow 2 b.2.toNat)) 2147483647 with
    | false => exact eOpAny_s (fun x y => x <<< (y &&& 31)) hN ht ex hu ey
    | true =>
      have g1 := eLe_s.mp g1
      have g2 := eLe_s.mp g2
      have g3 := eLe_s.mp g3
      have g4 := eLe_s.mp g4
      have k1 : ((a.2.toNat * 2 ^ b.2.toNat : Nat) : Int) = a.2 * Int.ofNat (Nat.pow 2 b.2.toNat) := by
        rw [Int.natCast_mul, Int.toNat_of_nonneg (by omega)]; rfl
      have h3 := i32_shl (x := x) (y := y) (c := a.2.toNat) (m := b.2.toNat) (by omega) (by omega) (by omega) (by omega) (by omega) (by omega)
      rw [k1] at h3
      exact eOpFr hN h3.1 h3.2
  · exact eOpAny_s (fun x y => x <<< (y &&& 31)) hN ht ex hu ey
theorem eTe_s {t u : eT} (h : eTe t u = true) : t = u := by
  obtain ⟨h1, h2⟩ := eBif h
  obtain ⟨h2, h3⟩ := eBif h2
  have h1 := eBeq h1
  have h2 := eLe_s.mp h2
  have h3 := eLe_s.mp h3
  cases t; cases u
  dsimp only at h1 h2 h3
  rw [h1, show _ = _ from Int.le_antisymm h2 h3]
theorem eMz_s {op : Nat} {t u r : eT} : ∀ {m : eMm}, eMz m op t u = some r → ((op, t, u), r) ∈ m
  | [], h => by cases h
  | e :: m, h => by
    have h : (bif Nat.beq e.1.1 op then (bif eTe e.1.2.1 t then (bif eTe e.1.2.2 u then some e.2 else eMz m op t u) else eMz m op t u) else eMz m op t u) = some r := h
    cases h1 : Nat.beq e.1.1 op with
    | false => rw [h1] at h; exact List.mem_cons_of_mem _ (eMz_s (m := m) h)
    | true =>
    rw [h1] at h
    dsimp only [cond] at h
    cases h2 : eTe e.1.2.1 t with
    | false => rw [h2] at h; exact List.mem_cons_of_mem _ (eMz_s (m := m) h)
    | true =>
    rw [h2] at h
    dsimp only [cond] at h
    cases h3 : eTe e.1.2.2 u with
    | false => rw [h3] at h; exact List.mem_cons_of_mem _ (eMz_s (m := m) h)
    | true =>
      rw [h3] at h
      have h : some e.2 = some r := h
      cases h
      rw [← eBeq h1, ← eTe_s h2, ← eTe_s h3]
      exact List.mem_cons_self
theorem eWr1_s {op : Nat} {f : eOp} (hf : eOpS f (eSem op)) : eOpS (eWr1 op f) (eSem op) := by
  intro lw xs ρ W t u x y hN ht ex hu ey
  unfold eWr1
  split
  · next r hr =>
    have h := hN.2.2.1.2 _ (eMz_s hr)
    exact ⟨ρ, eEx_rf, hN, rfl, h.1.2.2, h.2 x y ex ey⟩
  · obtain ⟨ρ', g1, g2, g3, g4, g5⟩ := hf hN ht ex hu ey
    generalize f W t u = z at g1 g2 g3 g4 g5
    obtain ⟨W1, z⟩ := z
    dsimp only at g1 g2 g3 g4 g5 ⊢
    refine ⟨ρ', g1, ⟨g2.1, g2.2.1, ⟨g2.2.2.1.1, fun e he => ?_⟩, g2.2.2.2⟩, g3, g4, g5⟩
    have he : e ∈ ((op, t, u), z) :: W1.2.1.2 := he
    cases he with
    | head =>
      refine ⟨⟨Nat.lt_of_lt_of_le ht g1.1, Nat.lt_of_lt_of_le hu g1.1, g4⟩, fun x' y' ex' ey' => ?_⟩
      dsimp only at ex' ey'
      have hx : x' = x := Int32.toInt_inj.mp (by rw [← ex', ← ex, g1.2 _ ht])
      have hy : y' = y := Int32.toInt_inj.mp (by rw [← ey', ← ey, g1.2 _ hu])
      rw [hx, hy]
      exact g5
    | tail _ he => exact g2.2.2.1.2 e he
theorem eOfI {x : Int32} {z : Int} (h : z = x.toInt) : Int32.ofInt z = x := by
  rw [h]; exact Int32.ofInt_toInt x
theorem eWr_s {op : Nat} {f : eOp} (hf : eOpS f (eSem op)) : eOpS (eWr op f) (eSem op) := by
  intro lw xs ρ W t u x y hN ht ex hu ey
  unfold eWr
  cases h1 : Nat.beq t.1 0 with
  | false => exact eWr1_s hf hN ht ex hu ey
  | true =>
    dsimp only [cond]
    cases h2 : Nat.beq u.1 0 with
    | false => exact eWr1_s hf hN ht ex hu ey
    | true =>
      dsimp only [cond]
      rw [eBeq h1, hN.2.1] at ex
      rw [eBeq h2, hN.2.1] at ey
      refine ⟨ρ, eEx_rf, hN, rfl, hN.1, ?_⟩
      show ρ 0 + (eSem op (Int32.ofInt t.2) (Int32.ofInt u.2)).toInt = _
      rw [hN.2.1, eOfI (z := t.2) (x := x) (by omega), eOfI (z := u.2) (x := y) (by omega)]
      omega
theorem i32_shu {x y : Int32} (h : 0 ≤ x.toInt) : (x.toUInt32 >>> (y.toUInt32 &&& Int32.toUInt32 31)).toInt32 = x >>> (y &&& 31) := by
  apply Int32.toBitVec_inj.mp
  have e1 : (x >>> (y &&& 31)).toBitVec = x.toBitVec.sshiftRight' ((y.toBitVec &&& 31#32).smod 32) := rfl
  have e2 : ((x.toUInt32 >>> (y.toUInt32 &&& Int32.toUInt32 31)).toInt32).toBitVec = x.toBitVec >>> ((y.toBitVec &&& 31#32) % 32) := rfl
  have hm : x.toBitVec.msb = false := by
    rw [BitVec.msb_eq_toInt]
    exact decide_eq_false (Int.not_lt.mpr h)
  have hz : (y.toBitVec &&& 31#32).toNat < 32 := by
    rw [BitVec.toNat_and]
    exact Nat.lt_of_le_of_lt Nat.and_le_right (by decide)
  have hs : (y.toBitVec &&& 31#32).smod 32 = (y.toBitVec &&& 31#32) % 32 := by
    have : ∀ z : BitVec 32, z.msb = false → z.smod 32 = z % 32 := fun z hz => by
      rw [BitVec.smod_eq, hz]; rfl
    refine this _ ?_
    rw [BitVec.msb_eq_decide]
    exact decide_eq_false (by omega)
  rw [e1, e2, hs]
  show x.toBitVec >>> _ = x.toBitVec.sshiftRight _
  rw [BitVec.sshiftRight_eq_of_msb_false hm]
  rfl
theorem eWrU_s : eOpS eWrU (eSem 8) := by
  intro lw xs ρ W t u x y hN ht ex hu ey
  unfold eWrU
  split
  · next a ha =>
    have h1 := eIv_s hN ha
    cases g1 : eLe 0 a.1 with
    | false => exact eWr_s (eOpAny_s (eSem 8)) hN ht ex hu ey
    | true =>
      have g1 := eLe_s.mp g1
      have h := eWr_s (op := 7) eOpShr_s hN ht ex hu ey
      rw [show eSem 8 x y = eSem 7 x y from i32_shu (by omega)]
      exact h
  · exact eWr_s (eOpAny_s (eSem 8)) hN ht ex hu ey
/-! conditions -/
theorem eNm_c {lo hi : Int} {v : Nat} (hN : eNm lw xs ρ W) (hv : v < W.1) (h1 : lo ≤ ρ v) (h2 : ρ v ≤ hi) : eNm lw xs ρ (W.1, ((v, lo, hi) :: W.2.1.1, W.2.1.2), W.2.2) :=
  ⟨hN.1, hN.2.1, ⟨fun q hq => by
    have hq : q ∈ (v, lo, hi) :: W.2.1.1 := hq
    cases hq with
    | head => exact ⟨hv, h1, h2⟩
    | tail _ hq => exact hN.2.2.1.1 q hq, hN.2.2.1.2⟩, hN.2.2.2⟩
/-- a world with the same variables and fields, of which the numbers hold too -/
def eSub (lw : Bool) (xs : Option (List Int32)) (ρ : Nat → Int) (W : eW) (r : Option eW) : Prop := ∃ W1, r = some W1 ∧ eNm lw xs ρ W1 ∧ W1.1 = W.1 ∧ W1.2.2 = W.2.2
theorem eSub_rf (hN : eNm lw xs ρ W) : eSub lw xs ρ W (some W) := ⟨W, rfl, hN, rfl, rfl⟩
theorem eAs_s {t : eT} {lo hi : Int} (hN : eNm lw xs ρ W) (ht : t.1 < W.1) (h1 : lo ≤ ρ t.1 + t.2) (h2 : ρ t.1 + t.2 ≤ hi) : eSub lw xs ρ W (eAs W t lo hi) := by
  unfold eAs
  split
  · next b hb =>
    have h3 := eBd_s (eNm_b hN) hb
    cases g1 : eLe lo (b.1 + t.2) with
    | true =>
      dsimp only [cond]
      cases g2 : eLe (b.2 + t.2) hi with
      | true => exact eSub_rf hN
      | false =>
        dsimp only [cond]
        rw [show eLe b.1 (hi - t.2) = true from eLe_s.mpr (by omega)]
        exact ⟨_, rfl, eNm_c hN ht h3.1 (by omega), rfl, rfl⟩
    | false =>
      dsimp only [cond]
      cases g2 : eLe (b.2 + t.2) hi with
      | true =>
        dsimp only [cond]
        rw [show eLe (lo - t.2) b.2 = true from eLe_s.mpr (by omega)]
        exact ⟨_, rfl, eNm_c hN ht (by omega) h3.2, rfl, rfl⟩
      | false =>
        dsimp only [cond]
        rw [show eLe lo hi = true from eLe_s.mpr (by omega)]
        exact ⟨_, rfl, eNm_c hN ht (by omega) (by omega), rfl, rfl⟩
  · exact eSub_rf hN
theorem eA2_s {t u : eT} {a b : Int × Int} (hN : eNm lw xs ρ W) (ht : t.1 < W.1) (hu : u.1 < W.1) (h1 : a.1 ≤ ρ t.1 + t.2) (h2 : ρ t.1 + t.2 ≤ a.2) (h3 : b.1 ≤ ρ u.1 + u.2) (h4 : ρ u.1 + u.2 ≤ b.2) : eSub lw xs ρ W (eA2 W t u a b) := by
  obtain ⟨W1, e1, e2, e3, e4⟩ := eAs_s hN ht h1 h2
  unfold eA2
  rw [e1]
  obtain ⟨W2, f1, f2, f3, f4⟩ := eAs_s e2 (t := u) (by rw [e3]; exact hu) h3 h4
  exact ⟨W2, f1, f2, f3.trans e3, f4.trans e4⟩
theorem eLt_s {d : Int} {t u : eT} (hN : eNm lw xs ρ W) (ht : t.1 < W.1) (hu : u.1 < W.1) (h : ρ t.1 + t.2 + d ≤ ρ u.1 + u.2) : eSub lw xs ρ W (eLt d W t u) := by
  unfold eLt
  cases g : Nat.beq t.1 u.1 with
  | true =>
    dsimp only [cond]
    rw [eBeq g] at h
    rw [show eLe (t.2 + d) u.2 = true from eLe_s.mpr (by omega)]
    exact eSub_rf hN
  | false =>
    dsimp only [cond]
    split
    · next a b ha hb =>
      have h1 := eIv_s hN ha
      have h2 := eIv_s hN hb
      exact eA2_s hN ht hu h1.1 (by show _ ≤ b.2 - d; omega) (by show a.1 + d ≤ _; omega) h2.2
    · exact eSub_rf hN
theorem eEq_s {t u : eT} (hN : eNm lw xs ρ W) (ht : t.1 < W.1) (hu : u.1 < W.1) (h : ρ t.1 + t.2 = ρ u.1 + u.2) : eSub lw xs ρ W (eEq W t u) := by
  unfold eEq
  cases g : Nat.beq t.1 u.1 with
  | true =>
    dsimp only [cond]
    rw [eBeq g] at h
    rw [show eLe t.2 u.2 = true from eLe_s.mpr (by omega), show eLe u.2 t.2 = true from eLe_s.mpr (by omega)]
    exact eSub_rf hN
  | false =>
    dsimp only [cond]
    split
    · next a b ha hb =>
      have h1 := eIv_s hN ha
      have h2 := eIv_s hN hb
      exact eA2_s hN ht hu (by omega) (by omega) (by omega) (by omega)
    · exact eSub_rf hN
theorem eNe1_s {t : eT} {a b : Int × Int} {z : Int} (hN : eNm lw xs ρ W) (ht : t.1 < W.1) (h1 : a.1 ≤ ρ t.1 + t.2) (h2 : ρ t.1 + t.2 ≤ a.2) (h3 : b.1 ≤ z) (h4 : z ≤ b.2) (h : ρ t.1 + t.2 ≠ z) : eSub lw xs ρ W (eNe1 W t a b) := by
  unfold eNe1
  cases g1 : eLe b.2 b.1 with
  | false => exact eSub_rf hN
  | true =>
  dsimp only [cond]
  cases g2 : eLe a.1 b.1 with
  | false => exact eSub_rf hN
  | true =>
  dsimp only [cond]
  have g1 := eLe_s.mp g1
  cases g3 : eLe b.1 a.1 with
  | true =>
    have g3 := eLe_s.mp g3
    exact eAs_s hN ht (by omega) h2
  | false =>
  dsimp only [cond]
  cases g4 : eLe a.2 b.1 with
  | false => exact eSub_rf hN
  | true =>
  dsimp only [cond]
  cases g5 : eLe b.1 a.2 with
  | false => exact eSub_rf hN
  | true =>
    have g4 := eLe_s.mp g4
    exact eAs_s hN ht h1 (by omega)
theorem eNe_s {t u : eT} (hN : eNm lw xs ρ W) (ht : t.1 < W.1) (hu : u.1 < W.1) (h : ρ t.1 + t.2 ≠ ρ u.1 + u.2) : eSub lw xs ρ W (eNe W t u) := by
  unfold eNe
  cases g : Nat.beq t.1 u.1 with
  | true =>
    dsimp only [cond]
    rw [eBeq g] at h
    cases g1 : eLe t.2 u.2 with
    | false => exact eSub_rf hN
    | true =>
      dsimp only [cond]
      cases g2 : eLe u.2 t.2 with
      | false => exact eSub_rf hN
      | true =>
        have g1 := eLe_s.mp g1
        have g2 := eLe_s.mp g2
        omega
  | false =>
    dsimp only [cond]
    split
    · next a b ha hb =>
      have h1 := eIv_s hN ha
      have h2 := eIv_s hN hb
      obtain ⟨W1, e1, e2, e3, e4⟩ := eNe1_s (b := b) hN ht h1.1 h1.2 h2.1 h2.2 h
      rw [e1]
      obtain ⟨W2, f1, f2, f3, f4⟩ := eNe1_s (t := u) (a := b) (b := a) e2 (by rw [e3]; exact hu) h2.1 h2.2 h1.1 h1.2 (Ne.symm h)
      exact ⟨W2, f1, f2, f3.trans e3, f4.trans e4⟩
    · exact eSub_rf hN
theorem eCm_s {c : Jvm.ClassFile.Cond} {t u : eT} {x y : Int32} (hN : eNm lw xs ρ W) (ht : t.1 < W.1) (ex : ρ t.1 + t.2 = x.toInt) (hu : u.1 < W.1) (ey : ρ u.1 + u.2 = y.toInt) (h : sC2 c x y = true) : eSub lw xs ρ W (eCm c W t u) := by
  cases c with
  | eq => have h : x = y := of_decide_eq_true h; exact eEq_s hN ht hu (by rw [ex, ey, h])
  | ne => have h : ¬ x = y := of_decide_eq_true h; exact eNe_s hN ht hu (by rw [ex, ey]; exact fun e => h (Int32.toInt_inj.mp e))
  | lt => have h : x < y := of_decide_eq_true h; have h := Int32.lt_iff_toInt_lt.mp h; exact eLt_s hN ht hu (by omega)
  | ge => have h : y ≤ x := of_decide_eq_true h; have h := Int32.le_iff_toInt_le.mp h; exact eLt_s hN hu ht (by omega)
  | gt => have h : y < x := of_decide_eq_true h; have h := Int32.lt_iff_toInt_lt.mp h; exact eLt_s hN hu ht (by omega)
  | le => have h : x ≤ y := of_decide_eq_true h; have h := Int32.le_iff_toInt_le.mp h; exact eLt_s hN ht hu (by omega)
theorem eNg_s {c : Jvm.ClassFile.Cond} {x y : Int32} (h : sC2 c x y = false) : sC2 (eNg c) x y = true := by
  cases c with
  | eq => have h : ¬ x = y := of_decide_eq_false h; exact decide_eq_true h
  | ne => have h : ¬ ¬ x = y := of_decide_eq_false h; exact decide_eq_true (Classical.byContradiction h)
  | lt => have h : ¬ x < y := of_decide_eq_false h; exact decide_eq_true (Int32.le_iff_toInt_le.mpr (Int.not_lt.mp (fun e => h (Int32.lt_iff_toInt_lt.mpr e))))
  | ge => have h : ¬ y ≤ x := of_decide_eq_false h; exact decide_eq_true (Int32.lt_iff_toInt_lt.mpr (Int.not_le.mp (fun e => h (Int32.le_iff_toInt_le.mpr e))))
  | gt => have h : ¬ y < x := of_decide_eq_false h; exact decide_eq_true (Int32.le_iff_toInt_le.mpr (Int.not_lt.mp (fun e => h (Int32.lt_iff_toInt_lt.mpr e))))
  | le => have h : ¬ x ≤ y := of_decide_eq_false h; exact decide_eq_true (Int32.lt_iff_toInt_lt.mpr (Int.not_le.mp (fun e => h (Int32.le_iff_toInt_le.mpr e))))
theorem eBr_s {c : Jvm.ClassFile.Cond} {t u : eT} {x y : Int32} {tg nx : Nat} {lv : eLv} {st : List eA} (hN : eNm lw xs ρ W) (ht : t.1 < W.1) (ex : ρ t.1 + t.2 = x.toInt) (hu : u.1 < W.1) (ey : ρ u.1 + u.2 = y.toInt) :
    ∃ W1, ((cond (sC2 c x y) tg nx, lv, st, W1) : eQ) ∈ eBr c W t u tg nx lv st ∧ eNm lw xs ρ W1 ∧ W1.1 = W.1 ∧ W1.2.2 = W.2.2 := by
  unfold eBr
  cases hc : sC2 c x y with
  | true =>
    obtain ⟨W1, e1, e2, e3, e4⟩ := eCm_s hN ht ex hu ey hc
    rw [e1]
    exact ⟨W1, List.mem_cons_self, e2, e3, e4⟩
  | false =>
    obtain ⟨W1, e1, e2, e3, e4⟩ := eCm_s hN ht ex hu ey (eNg_s hc)
    rw [e1]
    refine ⟨W1, ?_, e2, e3, e4⟩
    split
    · exact List.mem_cons_of_mem _ List.mem_cons_self
    · exact List.mem_cons_self
end EN
