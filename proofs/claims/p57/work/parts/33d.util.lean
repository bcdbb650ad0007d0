/-! 33d: the start; small words for compared calls -/
def eFB (f : eF) (v : Value) : Bool := match f, v with
  | .inl b, .int x => eIr b.1 b.2 x.toInt x.toInt
  | .inr (.inl q), .ref k => Nat.ble q.1 k && Nat.ble k q.2
  | .inr (.inr k), .long _ => Nat.beq k 0
  | .inr (.inr k), .double _ => Nat.beq k 1
  | _, _ => false
theorem eFB_s {f : eF} {v : Value} (h : eFB f v = true) : eFm 0 f v := by
  unfold eFB at h
  split at h
  · next b x => obtain ⟨h1, h2⟩ := eIr_s h; exact ⟨x, rfl, h1, h2⟩
  · next q k =>
    rw [Bool.and_eq_true] at h
    exact Or.inl ⟨q.1, q.2, rfl, eBle h.1, eBle h.2⟩
  · next k x => exact (by rw [eBeq h] : (.inr k : eO) = .inr 0)
  · next k x => exact Or.inl (by rw [eBeq h])
  · cases h
def eFsB : List eF → List Value → Bool
  | [], [] => true
  | f :: fs, v :: vs => eFB f v && eFsB fs vs
  | _, _ => false
theorem eFsB_s : ∀ {fs : List eF} {vs : List Value}, eFsB fs vs = true → vs.length = fs.length ∧ ∀ (j : Nat) (f : eF), fs[j]? = some f → ∃ v, vs[j]? = some v ∧ eFm 0 f v
  | [], [], _ => ⟨rfl, fun j f h => by cases j <;> cases h⟩
  | f :: fs, v :: vs, h => by
    have h : (eFB f v && eFsB fs vs) = true := h
    rw [Bool.and_eq_true] at h
    obtain ⟨h1, h2⟩ := eFsB_s h.2
    refine ⟨congrArg (· + 1) h1, fun j g hj => ?_⟩
    cases j with
    | zero => cases hj; exact ⟨v, rfl, eFB_s h.1⟩
    | succ j => exact h2 j g hj
  | [], _ :: _, h => nomatch h
  | _ :: _, [], h => nomatch h
def eIdC (z : Nat × Nat × eF) (w : List Value) : Bool := !(eIdB z.1) || (match z.2.2 with
  | .inr (.inl q) => (List.range w.length).all (fun i => match w[i]? with
    | some (.ref k) => Nat.beq k (q.1 + i)
    | _ => false)
  | _ => false)
theorem eIdC_s {z : Nat × Nat × eF} {w : List Value} (h : eIdC z w = true) : eIdP z w := fun hb => by
  unfold eIdC at h
  rw [hb] at h
  have h : (match z.2.2 with
    | .inr (.inl q) => (List.range w.length).all (fun i => match w[i]? with
      | some (.ref k) => Nat.beq k (q.1 + i)
      | _ => false)
    | _ => false) = true := h
  split at h
  · next q hq =>
    refine ⟨q.1, q.2, hq, fun i v hv => ?_⟩
    have h1 := List.all_eq_true.mp h i (List.mem_range.mpr (List.getElem?_eq_some_iff.mp hv).1)
    rw [hv] at h1
    cases v with
    | ref k => rw [eBeq (show Nat.beq k (q.1 + i) = true from h1)]
    | _ => cases h1
  · cases h
def eCB (ct : eCT) (c : sC) : Bool := match ct, c with
  | .inl z, .inr q => Nat.beq z.1 q.1 && eFsB z.2 q.2
  | .inr z, .inl q => Nat.beq z.1 q.1 && (Nat.beq q.2.length z.2.1 && (q.2.all (fun v => eFB z.2.2 v) && eIdC z q.2))
  | _, _ => false
theorem eCB_s {ct : eCT} {c : sC} (h : eCB ct c = true) : eCell ct c := by
  unfold eCB at h
  split at h
  · next z q =>
    rw [Bool.and_eq_true] at h
    obtain ⟨h1, h2⟩ := eFsB_s h.2
    exact ⟨eBeq h.1, h1, h2⟩
  · next z q =>
    rw [Bool.and_eq_true, Bool.and_eq_true, Bool.and_eq_true] at h
    exact ⟨eBeq h.1, eBeq h.2.1, fun v hv => eFB_s (List.all_eq_true.mp h.2.2.1 v hv), eIdC_s h.2.2.2⟩
  · cases h
noncomputable def eInvB (h : sH) : Bool := Nat.beq h.length 119 && (List.range 119).all (fun a => match eRg a a, eNth h a with
  | some ct, some c => eCB ct c
  | _, _ => false)
theorem eInvB_s {h : sH} (hb : eInvB h = true) : eInv h := by
  unfold eInvB at hb
  rw [Bool.and_eq_true] at hb
  have hl := eBeq hb.1
  refine ⟨by omega, fun a ha => ?_, fun a c ha hc => ?_⟩
  · have h1 := List.all_eq_true.mp hb.2 a (List.mem_range.mpr ha)
    split at h1
    · next ct c hct hcc =>
      rw [eNth_eq] at hcc
      exact ⟨ct, c, hct, hcc, eCB_s h1⟩
    · cases h1
  · have := (List.getElem?_eq_some_iff.mp hc).1
    omega
set_option maxRecDepth 100000 in
theorem hp0_inv : eInv hp0 := eInvB_s (by decide +kernel)
theorem hp0_sz : eSz hp0 := ⟨0, 5, rfl, rfl, by decide⟩
theorem sInv0_V {mt : Nat → sM} {ix a1 a2 o : Nat} {st rest fs : List Value} {h : sH} (hn : mN (mt a1) ≤ st.length) (hd : st.drop (mN (mt a1)) = .ref o :: rest) (ho : h[o]? = some (.inr (a2, fs))) : sInv0 mt (.invokevirtual ix) a1 a2 st h = some (.ref o :: sArgs (mN (mt a1)) st, rest) := by
  unfold sInv0; dsimp only
  rw [if_pos hn, hd]; dsimp only
  rw [ho]; dsimp only
  rw [if_pos rfl]
theorem go_of {k d B : Nat} {as : List Value} {h : sH} {Q : sR → Prop} (hc : sCat as ≤ mL (mtv k)) (hB : B ≤ eFu) (w : sWp mtv (sGo1 mtv eFu d) (mtv k) none B (0, lv_args 0 as, [], h, 0, 0) Q) : ∃ r, Q r ∧ sGo1 mtv eFu (d + 1) k as h = some r := by
  obtain ⟨r, h1, h2⟩ := w
  refine ⟨r, h1, ?_⟩
  rw [sGo1_s, if_pos hc]
  have h3 := h2 (eFu - B)
  rwa [Nat.sub_add_cancel hB] at h3
theorem go_eq {k d B : Nat} {as : List Value} {h : sH} {r0 : sR} (hc : sCat as ≤ mL (mtv k)) (hB : B ≤ eFu) (w : sWp mtv (sGo1 mtv eFu d) (mtv k) none B (0, lv_args 0 as, [], h, 0, 0) (fun r => r = r0)) : sGo1 mtv eFu (d + 1) k as h = some r0 := by
  obtain ⟨r, h1, h2⟩ := go_of hc hB w
  rw [h2, h1]
def xBt (a b c : Int32) : Int32 := if b ≤ a ∧ a ≤ c then 1 else 0
theorem xBt_01 (a b c : Int32) : xBt a b c = 0 ∨ xBt a b c = 1 := by
  unfold xBt; split
  · exact Or.inr rfl
  · exact Or.inl rfl
theorem sLgs {x : Int64} : sC1 .eq (lg_cmp x x) = true := by
  have h : lg_cmp x x = 0 := by
    unfold lg_cmp
    rw [if_neg (by rw [gt_iff_lt, Int64.lt_iff_toInt_lt]; exact Int.lt_irrefl _), if_pos rfl]
  rw [h]; rfl
theorem i32_i1 {i : Int32} {ys : List Int32} {c : Int} (hc : 0 ≤ c ∧ c ≤ 5) (hi : 0 ≤ i.toInt) (hi4 : i.toInt + 4 < ys.length) (hL : ys.length ≤ 2560) : (i + Int32.ofInt c).toInt = i.toInt + c := by
  have h5 : (Int32.ofInt c).toInt = c := Int32.toInt_ofInt_of_le (by omega) (by omega)
  rw [i32_add (by rw [h5]; omega) (by rw [h5]; omega), h5]
theorem sIn_i {i : Int32} {ys : List Int32} {c : Int} (hc : 0 ≤ c ∧ c ≤ 4) (hi : 0 ≤ i.toInt) (hi4 : i.toInt + 4 < ys.length) (hL : ys.length ≤ 2560) : sIn (i + Int32.ofInt c) ys.length = true := by
  have h := i32_i1 (c := c) (by omega) hi hi4 hL
  unfold sIn
  rw [Bool.not_eq_true', Bool.or_eq_false_iff, decide_eq_false_iff_not, decide_eq_false_iff_not]
  refine ⟨fun e => ?_, ?_⟩
  · have := Int32.lt_iff_toInt_lt.mp e
    have h0 : (0 : Int32).toInt = 0 := rfl
    omega
  · show ¬ ys.length ≤ (i + Int32.ofInt c).toInt.toNat
    omega
theorem eLaw_s {i : Int32} {lc : sL} {k : Nat} {v : Value} (hk : 6 ≤ k) (h : eLaw i lc) : eLaw i (sS1 k v lc) := by
  obtain ⟨⟨b, k0⟩, k1, k2, k3, k4, k5⟩ := h
  exact ⟨⟨b, sLk_s1n (by omega) k0 rfl⟩, sLk_s1n (by omega) k1 rfl, sLk_s1n (by omega) k2 rfl, sLk_s1n (by omega) k3 rfl, sLk_s1n (by omega) k4 rfl, sLk_s1n (by omega) k5 rfl⟩
theorem eLaw_5 {i j : Int32} {lc : sL} (h : eLaw i lc) : eLaw j (sS1 5 (.int j) lc) := by
  obtain ⟨⟨b, k0⟩, k1, k2, k3, k4, k5⟩ := h
  exact ⟨⟨b, sLk_s1n (by decide) k0 rfl⟩, sLk_s1n (by decide) k1 rfl, sLk_s1n (by decide) k2 rfl, sLk_s1n (by decide) k3 rfl, sLk_s1n (by decide) k4 rfl, sLk_s1⟩
theorem eSz_mod {md : eMd} {h h' : sH} (hI' : eInv h') (hM : eMod md h h') (m1 : eMa md 85 85 31 = false) (m2 : eMa md 85 85 34 = false) (hz : eSz h) : eSz h' := by
  obtain ⟨x, y, h2, h3, h4⟩ := hz
  exact ⟨x, y, (hM 85 34 (by decide) m2).trans h2, (hM 85 31 (by decide) m1).trans h3, h4⟩
/-- a call whose run is known keeps what its contract says -/
theorem eCo_k {C : eC} {D : Nat} {as : List Value} {h h' : sH} {r : Option Value ⊕ Nat} (hc : eCo mtv eFu C) (hD : C.2.1 ≤ D) (hI : eInv h) (hA : eAm 0 C.2.2.1 as) (hq : eRqm C.2.2.2.1 h) (g : sGo1 mtv eFu D C.1 as h = some (r, h')) : eInv h' ∧ h.length ≤ h'.length ∧ eMod C.2.2.2.2.1 h h' := by
  obtain ⟨r', h'', g1, g2, g3, g4, -, -⟩ := hc D as h hD hI hA hq
  rw [g] at g1
  cases g1
  exact ⟨g2, g3, g4⟩
