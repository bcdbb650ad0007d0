/-! 31d: the heap's shape, instructions of the heap -/
/-- an array whose k-th element is the k-th object of its class -/
def eIdP (z : Nat × Nat × eF) (w : List Value) : Prop := eIdB z.1 = true → ∃ lo hi, z.2.2 = .inr (.inl (lo, hi)) ∧ ∀ (i : Nat) (v : Value), w[i]? = some v → v = .ref (lo + i)
def eCell (ct : eCT) (c : sC) : Prop := match ct, c with
  | .inl z, .inr q => z.1 = q.1 ∧ q.2.length = z.2.length ∧ ∀ (j : Nat) (f : eF), z.2[j]? = some f → ∃ v, q.2[j]? = some v ∧ eFm 0 f v
  | .inr z, .inl q => z.1 = q.1 ∧ q.2.length = z.2.1 ∧ (∀ v ∈ q.2, eFm 0 z.2.2 v) ∧ eIdP z q.2
  | _, _ => False
/-- a cell that a call has made -/
def eGb (c : sC) : Prop := ∃ w, c = .inl (0, w) ∧ w.length = 6 ∧ ∀ v ∈ w, ∃ x, v = .int x
def eInv (h : sH) : Prop := 119 ≤ h.length ∧ (∀ a, a < 119 → ∃ ct c, eRg a a = some ct ∧ h[a]? = some c ∧ eCell ct c) ∧ ∀ (a : Nat) (c : sC), 119 ≤ a → h[a]? = some c → eGb c
/-- a field of an object, or an array's element -/
def eGet (h : sH) (a j : Nat) : Option Value := match h[a]? with
  | some (.inr q) => q.2[j]?
  | some (.inl q) => q.2[j]?
  | none => none
def eRm (n : Nat) (ρ : Nat → Int) (rf : eRf) (h : sH) : Prop := ∀ q ∈ rf, ∃ x : Int32, q.1.1 < 119 ∧ eGet h q.1.1 q.1.2 = some (.int x) ∧ q.2.1 < n ∧ ρ q.2.1 + q.2.2 = x.toInt
def eMod (md : eMd) (h0 h : sH) : Prop := ∀ a j, a < 119 → eMa md a a j = false → eGet h a j = eGet h0 a j
def eWm (lw : Bool) (xs : Option (List Int32)) (md : eMd) (h0 : sH) (ρ : Nat → Int) (W : eW) (h : sH) : Prop := eNm lw xs ρ W ∧ eRm W.1 ρ W.2.2 h ∧ eInv h ∧ eMod md h0 h ∧ h0.length ≤ h.length
theorem eRm_ex {n n' : Nat} {ρ ρ' : Nat → Int} {rf : eRf} {h : sH} (hx : eEx n ρ n' ρ') (hr : eRm n ρ rf h) : eRm n' ρ' rf h := fun q hq => by
  obtain ⟨x, h1, h2, h3, h4⟩ := hr q hq
  exact ⟨x, h1, h2, Nat.lt_of_lt_of_le h3 hx.1, by rw [hx.2 _ h3]; exact h4⟩
theorem eMod_rf {md : eMd} {h : sH} : eMod md h h := fun _ _ _ _ => rfl
theorem eMod_tr {md : eMd} {h h1 h2 : sH} (a : eMod md h h1) (b : eMod md h1 h2) : eMod md h h2 := fun p j hp hj => (b p j hp hj).trans (a p j hp hj)
/-! the regions -/
theorem eRgL_m {lo hi : Nat} {ct : eCT} : ∀ {l : List (Nat × Nat × eCT)}, eRgL lo hi l = some ct → ∃ q ∈ l, q.1 ≤ lo ∧ hi ≤ q.2.1 ∧ q.2.2 = ct
  | [], h => by cases h
  | q :: l, h => by
    have h : (bif Nat.ble q.1 lo then (bif Nat.ble hi q.2.1 then some q.2.2 else eRgL lo hi l) else eRgL lo hi l) = some ct := h
    cases h1 : Nat.ble q.1 lo with
    | false =>
      rw [h1] at h
      obtain ⟨z, a, b⟩ := eRgL_m (l := l) h
      exact ⟨z, List.mem_cons_of_mem _ a, b⟩
    | true =>
      rw [h1] at h
      dsimp only [cond] at h
      cases h2 : Nat.ble hi q.2.1 with
      | false =>
        rw [h2] at h
        obtain ⟨z, a, b⟩ := eRgL_m (l := l) h
        exact ⟨z, List.mem_cons_of_mem _ a, b⟩
      | true =>
        rw [h2] at h
        exact ⟨q, List.mem_cons_self, eBle h1, eBle h2, Option.some.inj h⟩
def eSrt : Nat → List (Nat × Nat × eCT) → Bool
  | _, [] => true
  | n, q :: l => Nat.ble n q.1 && (Nat.ble q.1 q.2.1 && (Nat.ble q.2.1 118 && eSrt (q.2.1 + 1) l))
theorem eSrt_s {a : Nat} {q : Nat × Nat × eCT} : ∀ {n : Nat} {l : List (Nat × Nat × eCT)}, eSrt n l = true → q ∈ l → q.1 ≤ a → a ≤ q.2.1 → n ≤ a ∧ a < 119 ∧ eRgL a a l = some q.2.2
  | n, [], _, h, _, _ => nomatch h
  | n, b :: l, hs, hq, h1, h2 => by
    have hs : (Nat.ble n b.1 && (Nat.ble b.1 b.2.1 && (Nat.ble b.2.1 118 && eSrt (b.2.1 + 1) l))) = true := hs
    rw [Bool.and_eq_true, Bool.and_eq_true, Bool.and_eq_true] at hs
    obtain ⟨s1, s0, s2, s3⟩ := hs
    have s1 := eBle s1
    have s0 := eBle s0
    have s2 := eBle s2
    cases hq with
    | head =>
      refine ⟨by omega, by omega, ?_⟩
      show (bif Nat.ble q.1 a then (bif Nat.ble a q.2.1 then some q.2.2 else eRgL a a l) else eRgL a a l) = _
      rw [Nat.ble_eq_true_of_le h1, Nat.ble_eq_true_of_le h2]
      rfl
    | tail _ hq =>
      obtain ⟨g1, g2, g3⟩ := eSrt_s s3 hq h1 h2
      have hb : Nat.ble a b.2.1 = false := by
        cases hb : Nat.ble a b.2.1 with
        | false => rfl
        | true => have := eBle hb; omega
      refine ⟨by omega, g2, ?_⟩
      show (bif Nat.ble b.1 a then (bif Nat.ble a b.2.1 then some b.2.2 else eRgL a a l) else eRgL a a l) = _
      rw [hb]
      cases Nat.ble b.1 a <;> exact g3
theorem eReg_srt : eSrt 0 eReg = true := by decide +kernel
theorem eRg_at {lo hi a : Nat} {ct : eCT} (h : eRg lo hi = some ct) (h1 : lo ≤ a) (h2 : a ≤ hi) : a < 119 ∧ eRg a a = some ct := by
  obtain ⟨q, hq, h3, h4, h5⟩ := eRgL_m h
  obtain ⟨-, g2, g3⟩ := eSrt_s (a := a) eReg_srt hq (by omega) (by omega)
  exact ⟨g2, by rw [← h5]; exact g3⟩
theorem eInv_o {h : sH} {q : Nat × Nat} {c a : Nat} {fs : List eF} (hI : eInv h) (ho : eObj q c = some fs) (h1 : q.1 ≤ a) (h2 : a ≤ q.2) : a < 119 ∧ eRg a a = some (.inl (c, fs)) ∧ ∃ vs, h[a]? = some (.inr (c, vs)) ∧ vs.length = fs.length ∧ ∀ (j : Nat) (f : eF), fs[j]? = some f → ∃ v, vs[j]? = some v ∧ eFm 0 f v := by
  unfold eObj at ho
  split at ho
  · next z hz =>
    obtain ⟨g1, g2⟩ := eBifN ho
    cases g2
    obtain ⟨h3, h4⟩ := eRg_at hz h1 h2
    have e : z = (c, z.2) := by rw [← eBeq g1]
    obtain ⟨ct, cc, k1, k2, k3⟩ := hI.2.1 a h3
    rw [h4] at k1
    cases k1
    refine ⟨h3, by rw [h4, ← e], ?_⟩
    cases cc with
    | inl y => exact False.elim k3
    | inr y =>
      obtain ⟨m1, m2, m3⟩ := k3
      refine ⟨y.2, ?_, m2, m3⟩
      rw [k2, ← eBeq g1, m1]
  · cases ho
theorem eInv_a {h : sH} {q : Nat × Nat} {a : Nat} {z : Nat × Nat × eF} (hI : eInv h) (ho : eArr q = some z) (h1 : q.1 ≤ a) (h2 : a ≤ q.2) : a < 119 ∧ eRg a a = some (.inr z) ∧ ∃ w, h[a]? = some (.inl (z.1, w)) ∧ w.length = z.2.1 ∧ ∀ v ∈ w, eFm 0 z.2.2 v := by
  unfold eArr at ho
  split at ho
  · next y hy =>
    cases ho
    obtain ⟨h3, h4⟩ := eRg_at hy h1 h2
    obtain ⟨ct, cc, k1, k2, k3⟩ := hI.2.1 a h3
    rw [h4] at k1
    cases k1
    refine ⟨h3, h4, ?_⟩
    cases cc with
    | inr y => exact False.elim k3
    | inl y =>
      obtain ⟨m1, m2, m3, -⟩ := k3
      exact ⟨y.2, by rw [k2, m1], m2, m3⟩
  · cases ho
theorem eInv_ai {h : sH} {a lo hi : Nat} {z : Nat × Nat × eF} {w : List Value} {i : Nat} {v : Value} (hI : eInv h) (ha : a < 119) (hr : eRg a a = some (.inr z)) (hc : h[a]? = some (.inl (z.1, w))) (hz : z.2.2 = .inr (.inl (lo, hi))) (hb : eIdB z.1 = true) (hv : w[i]? = some v) : v = .ref (lo + i) := by
  obtain ⟨ct, cc, k1, k2, k3⟩ := hI.2.1 a ha
  rw [hr] at k1
  cases k1
  rw [hc] at k2
  cases k2
  obtain ⟨lo', hi', e, m⟩ := k3.2.2.2 hb
  rw [hz] at e
  cases e
  exact m i v hv
theorem eInv_so {h : sH} {c a j : Nat} {fs : List eF} {vs : List Value} {f : eF} {v : Value} (hI : eInv h) (ha : a < 119) (hr : eRg a a = some (.inl (c, fs))) (hc : h[a]? = some (.inr (c, vs))) (hl : vs.length = fs.length) (hv : ∀ (j : Nat) (f : eF), fs[j]? = some f → ∃ v, vs[j]? = some v ∧ eFm 0 f v) (hf : fs[j]? = some f) (hm : eFm 0 f v) : eInv (h.set a (.inr (c, vs.set j v))) := by
  refine ⟨by rw [List.length_set]; exact hI.1, fun b hb => ?_, fun b d hb hd => ?_⟩
  · by_cases e : a = b
    · subst e
      refine ⟨_, .inr (c, vs.set j v), hr, by rw [List.getElem?_set_self (Nat.lt_of_lt_of_le ha hI.1)], rfl, by show (vs.set j v).length = _; rw [List.length_set]; exact hl, fun i g hg => ?_⟩
      by_cases e : j = i
      · subst e
        rw [hf] at hg
        cases hg
        refine ⟨v, List.getElem?_set_self ?_, hm⟩
        rw [hl]
        exact (List.getElem?_eq_some_iff.mp hf).1
      · obtain ⟨w, h1, h2⟩ := hv i g hg
        exact ⟨w, by rw [List.getElem?_set_ne e]; exact h1, h2⟩
    · rw [List.getElem?_set_ne e]; exact hI.2.1 b hb
  · have e : a ≠ b := by omega
    rw [List.getElem?_set_ne e] at hd
    exact hI.2.2 b d hb hd
theorem eInv_sa {h : sH} {a j : Nat} {z : Nat × Nat × eF} {w : List Value} {v : Value} (hI : eInv h) (ha : a < 119) (hr : eRg a a = some (.inr z)) (hl : w.length = z.2.1) (hw : ∀ v ∈ w, eFm 0 z.2.2 v) (hm : eFm 0 z.2.2 v) (hid : eIdB z.1 = false) : eInv (h.set a (.inl (z.1, w.set j v))) := by
  refine ⟨by rw [List.length_set]; exact hI.1, fun b hb => ?_, fun b d hb hd => ?_⟩
  · by_cases e : a = b
    · subst e
      refine ⟨_, .inl (z.1, w.set j v), hr, by rw [List.getElem?_set_self (Nat.lt_of_lt_of_le ha hI.1)], rfl, by show (w.set j v).length = _; rw [List.length_set]; exact hl, fun u hu => ?_, fun e => by rw [hid] at e; cases e⟩
      exact (List.mem_or_eq_of_mem_set hu).elim (hw u) (fun e => by rw [e]; exact hm)
    · rw [List.getElem?_set_ne e]; exact hI.2.1 b hb
  · have e : a ≠ b := by omega
    rw [List.getElem?_set_ne e] at hd
    exact hI.2.2 b d hb hd
theorem eInv_sg {h : sH} {a : Nat} {c : sC} (hI : eInv h) (ha : 119 ≤ a) (hc : eGb c) : eInv (h.set a c) := by
  refine ⟨by rw [List.length_set]; exact hI.1, fun b hb => ?_, fun b d hb hd => ?_⟩
  · have e : a ≠ b := by omega
    rw [List.getElem?_set_ne e]; exact hI.2.1 b hb
  · by_cases e : a = b
    · subst e
      rw [List.getElem?_set] at hd
      split at hd
      · split at hd
        · cases hd; exact hc
        · cases hd
      · exact hI.2.2 a d hb hd
    · rw [List.getElem?_set_ne e] at hd
      exact hI.2.2 b d hb hd
theorem eInv_ap {h : sH} {c : sC} (hI : eInv h) (hc : eGb c) : eInv (h ++ [c]) := by
  refine ⟨by rw [List.length_append]; exact Nat.le_trans hI.1 (Nat.le_add_right _ _), fun b hb => ?_, fun b d hb hd => ?_⟩
  · rw [List.getElem?_append_left (Nat.lt_of_lt_of_le hb hI.1)]; exact hI.2.1 b hb
  · by_cases e : b < h.length
    · rw [List.getElem?_append_left e] at hd; exact hI.2.2 b d hb hd
    · rw [List.getElem?_append_right (Nat.not_lt.mp e)] at hd
      have := List.mem_of_getElem? hd
      rw [List.mem_singleton.mp this]; exact hc
theorem eGet_ap {h : sH} {c : sC} {a j : Nat} (ha : a < h.length) : eGet (h ++ [c]) a j = eGet h a j := by
  unfold eGet; rw [List.getElem?_append_left ha]
/-! what may be written -/
theorem eAny_of {α : Type} {f : α → Bool} {a : α} : ∀ {l : List α}, a ∈ l → f a = true → eAny f l = true
  | b :: l, hl, h => by
    show (bif f b then true else eAny f l) = true
    cases hl with
    | head => rw [h]; rfl
    | tail _ hl =>
      rw [eAny_of hl h]
      cases f b <;> rfl
theorem eMa_in {md : eMd} {lo hi a f : Nat} (h : eMa md lo hi f = true) (h1 : lo ≤ a) (h2 : a ≤ hi) : eMa md a a f = true := by
  obtain ⟨q, hq, h3⟩ := eAny_s h
  obtain ⟨h4, h3⟩ := eBif h3
  obtain ⟨h5, h3⟩ := eBif h3
  refine eAny_of hq ?_
  rw [Nat.ble_eq_true_of_le (Nat.le_trans (eBle h4) h1), Nat.ble_eq_true_of_le (Nat.le_trans h2 (eBle h5))]
  exact h3
theorem eMa_99 {md : eMd} {lo hi j : Nat} (h : eMa md lo hi 99 = true) : eMa md lo hi j = true := by
  obtain ⟨q, hq, h3⟩ := eAny_s h
  obtain ⟨h4, h3⟩ := eBif h3
  obtain ⟨h5, h3⟩ := eBif h3
  have h7 : Nat.beq q.2.2 99 = true := by
    cases hb : Nat.beq q.2.2 99 with
    | true => rfl
    | false => rw [hb] at h3; cases h3
  refine eAny_of hq ?_
  rw [h4, h5, h7]
  show (bif Nat.beq q.2.2 j then true else true) = true
  cases Nat.beq q.2.2 j <;> rfl
theorem eMod_so {md : eMd} {h0 h : sH} {c a j : Nat} {vs : List Value} {v : Value} (hM : eMod md h0 h) (hc : h[a]? = some (.inr (c, vs))) (hm : eMa md a a j = true) : eMod md h0 (h.set a (.inr (c, vs.set j v))) := fun b i hb hi => by
  rw [← hM b i hb hi]
  unfold eGet
  by_cases e : a = b
  · subst e
    rw [List.getElem?_set_self (List.getElem?_eq_some_iff.mp hc).1, hc]
    dsimp only
    rw [List.getElem?_set_ne]
    intro e
    subst e
    rw [hm] at hi
    cases hi
  · rw [List.getElem?_set_ne e]
theorem eMod_sa {md : eMd} {h0 h : sH} {a : Nat} {d : sC} (hM : eMod md h0 h) (hm : eMa md a a 99 = true) : eMod md h0 (h.set a d) := fun b i hb hi => by
  rw [← hM b i hb hi]
  unfold eGet
  by_cases e : a = b
  · subst e
    rw [eMa_99 hm] at hi
    cases hi
  · rw [List.getElem?_set_ne e]
theorem eMod_si {md : eMd} {h0 h : sH} {a j k : Nat} {w : List Value} {v : Value} (hM : eMod md h0 h) (hc : h[a]? = some (.inl (k, w))) (hm : eMa md a a j = true) : eMod md h0 (h.set a (.inl (k, w.set j v))) := fun b i hb hi => by
  rw [← hM b i hb hi]
  unfold eGet
  by_cases e : a = b
  · subst e
    rw [List.getElem?_set_self (List.getElem?_eq_some_iff.mp hc).1, hc]
    dsimp only
    rw [List.getElem?_set_ne]
    intro e
    subst e
    rw [hm] at hi
    cases hi
  · rw [List.getElem?_set_ne e]
theorem eMod_sg {md : eMd} {h0 h : sH} {a : Nat} {d : sC} (hM : eMod md h0 h) (ha : 119 ≤ a) : eMod md h0 (h.set a d) := fun b i hb hi => by
  rw [← hM b i hb hi]
  unfold eGet
  rw [List.getElem?_set_ne (by omega)]
/-- a cell is set of which nothing is remembered -/
theorem eRa_s {n : Nat} {ρ : Nat → Int} {rf : eRf} {h : sH} {lo hi a : Nat} {d : sC} (hR : eRm n ρ rf h) (h1 : lo ≤ a) (h2 : a ≤ hi) : eRm n ρ (eRa rf lo hi) (h.set a d) := fun q hq => by
  obtain ⟨g1, g2⟩ := eFil_s hq
  obtain ⟨x, e1, e2, e3⟩ := hR q g1
  refine ⟨x, e1, ?_, e3⟩
  rw [← e2]
  unfold eGet
  rw [List.getElem?_set_ne]
  intro e
  rw [← e, Nat.ble_eq_true_of_le h1, Nat.ble_eq_true_of_le h2] at g2
  cases g2
/-- a cell that a call has made is set -/
theorem eRm_sg {n : Nat} {ρ : Nat → Int} {rf : eRf} {h : sH} {a : Nat} {d : sC} (hR : eRm n ρ rf h) (ha : 119 ≤ a) : eRm n ρ rf (h.set a d) := fun q hq => by
  obtain ⟨x, e1, e2, e3⟩ := hR q hq
  refine ⟨x, e1, ?_, e3⟩
  rw [← e2]
  unfold eGet
  rw [List.getElem?_set_ne (by omega)]
/-! fits -/
theorem eOm_0 {L : Nat} {o : eO} {v : Value} (h : eOm L o v) (ho : ∀ k, o = .inr k → k < 8) : eOm 0 o v := by
  cases v with
  | ref j => exact h.elim Or.inl (fun h => absurd (ho 8 h.1) (by decide))
  | _ => exact h
theorem eFit_s {lw : Bool} {xs : Option (List Int32)} {ρ : Nat → Int} {W : eW} {L : Nat} {f : eF} {a : eA} {v : Value} (hN : eNm lw xs ρ W) (h : eFit W f a = true) (hv : eVm W.1 ρ L a v) : eFm 0 f v := by
  unfold eFit at h
  split at h
  · next b t =>
    obtain ⟨x, h1, h2, h3⟩ := hv
    have := eBt_s hN h
    exact ⟨x, h1, by omega, by omega⟩
  · next q r =>
    obtain ⟨h1, h2⟩ := eBif h
    obtain ⟨j, rfl, h3, h4⟩ := eRe_s (a := r.1) (b := r.2) hv
    exact Or.inl ⟨q.1, q.2, rfl, Nat.le_trans (eBle h1) h3, Nat.le_trans h4 (eBle h2)⟩
  · next j k =>
    cases hjk : Nat.beq j k with
    | true =>
      rw [hjk] at h
      have e := eBeq hjk
      subst e
      exact eOm_0 (o := .inr j) hv (fun k hk => by cases hk; exact eBle h)
    | false =>
      rw [hjk] at h
      dsimp only [cond] at h
      have hv : eOm L (.inr k) v := hv
      cases h4 : Nat.beq j 4 with
      | true =>
        rw [h4] at h
        obtain ⟨h1, h2⟩ := eBif h
        have h1 := eBle h1
        have h2 := eBle h2
        rw [eBeq h4]
        cases v with
        | float x => exact Or.inl rfl
        | ref i => rcases hv with ⟨a, b, h3, -⟩ | ⟨h3, -⟩ <;> cases h3; omega
        | long x => have hv : (.inr k : eO) = .inr 0 := hv; cases hv; omega
        | double x => rcases hv with h | ⟨h, -⟩ | ⟨h, -⟩ <;> cases h <;> omega
        | retAddr x => have hv : (.inr k : eO) = .inr 9 := hv; cases hv; omega
        | _ => exact False.elim hv
      | false =>
        rw [h4] at h
        obtain ⟨h5, h⟩ := eBif h
        obtain ⟨h1, h2⟩ := eBif h
        have h1 := eBle h1
        have h2 := eBle h2
        rw [eBeq h5]
        cases v with
        | double x => exact Or.inl rfl
        | ref i => rcases hv with ⟨a, b, h3, -⟩ | ⟨h3, -⟩ <;> cases h3; omega
        | long x => have hv : (.inr k : eO) = .inr 0 := hv; cases hv; omega
        | float x => rcases hv with h | ⟨h, -⟩ | ⟨h, -⟩ | ⟨h, -⟩ <;> cases h <;> omega
        | retAddr x => have hv : (.inr k : eO) = .inr 9 := hv; cases hv; omega
        | _ => exact False.elim hv
  · cases h
theorem eSf_s {ty : FieldType} {f : eF} {v : Value} (h : eSf ty f = true) (hv : eFm 0 f v) : sFit ty v = true := by
  unfold eSf at h
  split at h
  · obtain ⟨x, rfl, -⟩ := hv; rfl
  · next b =>
    obtain ⟨x, rfl, h1, h2⟩ := hv
    obtain ⟨h3, h4⟩ := eIr_s h
    have h5 : x = 0 ∨ x = 1 := by
      have : x.toInt = 0 ∨ x.toInt = 1 := by omega
      exact this.elim (fun e => Or.inl (Int32.toInt_inj.mp (e.trans rfl))) (fun e => Or.inr (Int32.toInt_inj.mp (e.trans rfl)))
    show (decide (x = 0) || decide (x = 1)) = true
    rcases h5 with rfl | rfl <;> rfl
  · next k =>
    have e := eBeq h
    subst e
    obtain ⟨-, x, rfl⟩ := eIsL_s (n := 0) (ρ := fun _ => 0) (L := 0) (a := .inr (.inr 0)) hv rfl
    rfl
  · cases h
theorem eIx_s {lw : Bool} {xs : Option (List Int32)} {ρ : Nat → Int} {W : eW} {t : eT} {len : Nat} {x : Int32} (hN : eNm lw xs ρ W) (h : eIx W t len = true) (hx : ρ t.1 + t.2 = x.toInt) : sIn x len = true ∧ x.toNatClampNeg < len := by
  unfold eIx at h
  split at h
  · next b hb =>
    obtain ⟨h1, h2⟩ := eBif h
    have h1 := eLe_s.mp h1
    have h2 := eLe_s.mp h2
    have h3 := eIv_s hN hb
    have h4 : (Int.ofNat len) = (len : Int) := rfl
    have h5 : x.toNatClampNeg < len := by show x.toInt.toNat < len; omega
    refine ⟨?_, h5⟩
    unfold sIn
    rw [Bool.not_eq_true', Bool.or_eq_false_iff, decide_eq_false_iff_not, decide_eq_false_iff_not]
    exact ⟨fun e => by have := Int32.lt_iff_toInt_lt.mp e; have h0 : (0 : Int32).toInt = 0 := rfl; omega, Nat.not_le.mpr h5⟩
  · cases h
