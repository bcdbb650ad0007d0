/-! 31e: each instruction of the heap -/
def eHg (lw : Bool) (xs : Option (List Int32)) (md : eMd) (h0 : sH) (ρ : Nat → Int) (n L : Nat) (z : eQ) (r : Option (Nat × sL × List Value × sH)) : Prop :=
  ∃ (ρ' : Nat → Int) (lc : sL) (sc : List Value) (h' : sH), eEx n ρ z.2.2.2.1 ρ' ∧ eWm lw xs md h0 ρ' z.2.2.2 h' ∧ h'.length = L ∧ eLm z.2.2.2.1 ρ' L z.2.1 lc ∧ eKm z.2.2.2.1 ρ' L z.2.2.1 sc ∧ r = some (z.1, lc, sc, h')
section EH
variable {lw : Bool} {xs : Option (List Int32)} {md : eMd} {h0 hp : sH} {ρ : Nat → Int} {W : eW} {pc a1 a2 : Nat} {lv : eLv} {st : List eA} {lc : sL} {sc : List Value} {z : eQ}
theorem eWm_fr {lo hi : Int} {x : Int32} (hw : eWm lw xs md h0 ρ W hp) (h1 : lo ≤ x.toInt) (h2 : x.toInt ≤ hi) : ∃ ρ', eEx W.1 ρ (W.1 + 1) ρ' ∧ eWm lw xs md h0 ρ' (eFr W lo hi) hp ∧ ρ' W.1 + 0 = x.toInt := by
  obtain ⟨a, b, c⟩ := hw
  obtain ⟨ρ', g1, g2, g3⟩ := eNm_fr a h1 h2
  exact ⟨ρ', g1, ⟨g2, eRm_ex g1 b, c⟩, by rw [g3]; exact Int.add_zero _⟩
theorem eHg_n {sc' : List Value} {st' : List eA} {x : Int32} {r : Option (Nat × sL × List Value × sH)} {lo hi : Int} (hw : eWm lw xs md h0 ρ W hp) (hl : eLm W.1 ρ hp.length lv lc) (hk : eKm W.1 ρ hp.length st' sc') (h1 : lo ≤ x.toInt) (h2 : x.toInt ≤ hi) (e : r = some (pc, lc, .int x :: sc', hp)) : eHg lw xs md h0 ρ W.1 hp.length (pc, lv, .inl (eNv W) :: st', eFr W lo hi) r := by
  obtain ⟨ρ', g1, g2, g3⟩ := eWm_fr hw h1 h2
  exact ⟨ρ', lc, .int x :: sc', hp, g1, g2, rfl, eLm_ex g1 (Nat.le_refl _) hl, ⟨⟨x, rfl, Nat.lt_succ_self _, g3⟩, eKm_ex g1 (Nat.le_refl _) hk⟩, e⟩
theorem eHg_0 {sc' : List Value} {st' : List eA} {r : Option (Nat × sL × List Value × sH)} (hw : eWm lw xs md h0 ρ W hp) (hl : eLm W.1 ρ hp.length lv lc) (hk : eKm W.1 ρ hp.length st' sc') (e : r = some (pc, lc, sc', hp)) : eHg lw xs md h0 ρ W.1 hp.length (pc, lv, st', W) r :=
  ⟨ρ, lc, sc', hp, eEx_rf, hw, rfl, hl, hk, e⟩
theorem eRl_s {a f : Nat} {t : eT} : ∀ {rf : eRf}, eRl rf a f = some t → ((a, f), t) ∈ rf
  | [], h => by cases h
  | q :: rf, h => by
    have h : (bif Nat.beq q.1.1 a then (bif Nat.beq q.1.2 f then some q.2 else eRl rf a f) else eRl rf a f) = some t := h
    cases h1 : Nat.beq q.1.1 a with
    | false => rw [h1] at h; exact List.mem_cons_of_mem _ (eRl_s (rf := rf) h)
    | true =>
      rw [h1] at h
      dsimp only [cond] at h
      cases h2 : Nat.beq q.1.2 f with
      | false => rw [h2] at h; exact List.mem_cons_of_mem _ (eRl_s (rf := rf) h)
      | true =>
        rw [h2] at h
        have h : some q.2 = some t := h
        cases h
        rw [← eBeq h1, ← eBeq h2]
        exact List.mem_cons_self
theorem eGf_s {ix : Nat} (h : eGf pc a1 a2 lv st W = some z) (hw : eWm lw xs md h0 ρ W hp) (hl : eLm W.1 ρ hp.length lv lc) (hk : eKm W.1 ρ hp.length st sc) : eHg lw xs md h0 ρ W.1 hp.length z (sHp xs (.getfield ix) a1 a2 pc lc sc hp) := by
  unfold eGf at h
  split at h
  · next q r =>
    obtain ⟨v1, s1, e9, k9⟩ := eKm_c hk; clear hk; subst e9; obtain ⟨k1, hk⟩ := k9
    obtain ⟨j, rfl, j1, j2⟩ := eRe_s (a := q.1) (b := q.2) k1
    split at h
    · next fs hfs =>
      obtain ⟨ha, hr, vs, hc, hlen, hv⟩ := eInv_o hw.2.2.1 hfs j1 j2
      rw [eNth_eq] at h
      have key : ∀ v, vs[a2]? = some v → sHp xs (.getfield ix) a1 a2 pc lc (.ref j :: s1) hp = some (pc + 3, lc, v :: s1, hp) := fun v hv => by
        unfold sHp; dsimp only; rw [hc]; dsimp only; rw [if_pos rfl, hv]
      split at h
      · next b hb =>
        obtain ⟨v, e1, x, rfl, e2, e3⟩ := hv a2 _ hb
        cases hq : Nat.beq q.1 q.2 with
        | false =>
          rw [hq] at h
          cases h
          exact eHg_n hw hl hk e2 e3 (key _ e1)
        | true =>
          rw [hq] at h
          dsimp only [cond] at h
          have hj : q.1 = j := Nat.le_antisymm j1 (Nat.le_trans j2 (Nat.le_of_eq (eBeq hq).symm))
          split at h
          · next t ht =>
            cases h
            obtain ⟨y, g1, g2, g3, g4⟩ := hw.2.1 _ (eRl_s ht)
            dsimp only at g1 g2 g3 g4
            unfold eGet at g2
            rw [hj, hc] at g2
            dsimp only at g2
            rw [e1] at g2
            cases g2
            exact eHg_0 (sc' := .int x :: s1) hw hl ⟨⟨x, rfl, g3, g4⟩, hk⟩ (key _ e1)
          · cases h
            obtain ⟨ρ', g1, g2, g3⟩ := eWm_fr hw e2 e3
            refine ⟨ρ', lc, .int x :: s1, hp, g1, ⟨g2.1, ?_, g2.2.2⟩, rfl, eLm_ex g1 (Nat.le_refl _) hl, ⟨⟨x, rfl, Nat.lt_succ_self _, g3⟩, eKm_ex g1 (Nat.le_refl _) hk⟩, key _ e1⟩
            intro y hy
            have hy : y ∈ ((q.1, a2), eNv W) :: W.2.2 := hy
            cases hy with
            | head => exact ⟨x, by rw [hj]; exact ha, by unfold eGet; rw [hj, hc]; exact e1, Nat.lt_succ_self _, g3⟩
            | tail _ hy => exact g2.2.1 y hy
      · next o hb =>
        cases h
        obtain ⟨v, e1, e2⟩ := hv a2 _ hb
        exact eHg_0 (sc' := v :: s1) hw hl ⟨eOm_L (Nat.zero_le _) e2, hk⟩ (key _ e1)
      · cases h
    · cases h
  · cases h
/-- what stands in a cell -/
def eVs (d : sC) : List Value := match d with
  | .inl q => q.2
  | .inr q => q.2
theorem eGet_c {h : sH} {a j : Nat} {d : sC} (hc : h[a]? = some d) : eGet h a j = (eVs d)[j]? := by
  unfold eGet
  rw [hc]
  cases d <;> rfl
/-- one value of a cell is set -/
theorem eRd_s {n : Nat} {rf : eRf} {lo hi f a : Nat} {d e : sC} {v : Value} (hR : eRm n ρ rf hp) (h1 : lo ≤ a) (h2 : a ≤ hi) (hc : hp[a]? = some d) (he : eVs e = (eVs d).set f v) : eRm n ρ (eRd rf lo hi f) (hp.set a e) := fun q hq => by
  obtain ⟨g1, g2⟩ := eFil_s hq
  obtain ⟨x, e0, e2, e3⟩ := hR q g1
  refine ⟨x, e0, ?_, e3⟩
  by_cases e9 : a = q.1.1
  · rw [← e9] at e2 ⊢
    rw [eGet_c hc] at e2
    rw [eGet_c (List.getElem?_set_self (List.getElem?_eq_some_iff.mp hc).1), he, List.getElem?_set_ne]
    · exact e2
    · intro e4
      rw [show Nat.beq q.1.2 f = true by rw [← e4]; exact Nat.beq_refl f, show Nat.ble lo q.1.1 = true from Nat.ble_eq_true_of_le (by omega), show Nat.ble q.1.1 hi = true from Nat.ble_eq_true_of_le (by omega)] at g2
      cases g2
  · rw [← e2]
    unfold eGet
    rw [List.getElem?_set_ne e9]
theorem ePf_s {ix : Nat} (h : ePf md pc a1 a2 lv st W = some z) (hw : eWm lw xs md h0 ρ W hp) (hl : eLm W.1 ρ hp.length lv lc) (hk : eKm W.1 ρ hp.length st sc) : eHg lw xs md h0 ρ W.1 hp.length z (sHp xs (.putfield ix) a1 a2 pc lc sc hp) := by
  unfold ePf at h
  split at h
  · next v q r =>
    obtain ⟨v1, s1, e9, k9⟩ := eKm_c hk; clear hk; subst e9; obtain ⟨k0, hk⟩ := k9
    obtain ⟨v2, s2, e9, k9⟩ := eKm_c hk; clear hk; subst e9; obtain ⟨k1, hk⟩ := k9
    obtain ⟨j, rfl, j1, j2⟩ := eRe_s (a := q.1) (b := q.2) k1
    split at h
    · next fs hfs =>
      obtain ⟨ha, hr, vs, hc, hlen, hv⟩ := eInv_o hw.2.2.1 hfs j1 j2
      rw [eNth_eq] at h
      split at h
      · next f hf =>
        obtain ⟨c1, h⟩ := eBifN h
        obtain ⟨c2, h⟩ := eBifN h
        obtain ⟨c3, h⟩ := eBifN h
        cases h
        have m1 := eFit_s hw.1 c1 k0
        have m2 := eSf_s c2 m1
        have m3 := eMa_in c3 j1 j2
        have e : sHp xs (.putfield ix) a1 a2 pc lc (v1 :: .ref j :: s2) hp = some (pc + 3, lc, s2, hp.set j (.inr (a1, vs.set a2 v1))) := by
          unfold sHp; dsimp only; rw [hc]; exact if_pos ⟨rfl, by rw [hlen]; exact (List.getElem?_eq_some_iff.mp hf).1, m2⟩
        refine ⟨ρ, lc, s2, _, eEx_rf, ⟨hw.1, ?_, eInv_so hw.2.2.1 ha hr hc hlen hv hf m1, eMod_so hw.2.2.2.1 hc m3, by rw [List.length_set]; exact hw.2.2.2.2⟩, List.length_set, hl, hk, e⟩
        have base : eRm W.1 ρ (eRd W.2.2 q.1 q.2 a2) (hp.set j (.inr (a1, vs.set a2 v1))) := eRd_s hw.2.1 j1 j2 hc rfl
        cases v with
        | inr o => exact base
        | inl t =>
          obtain ⟨x, rfl, g1, g2⟩ := k0
          show eRm W.1 ρ (bif Nat.beq q.1 q.2 then ((q.1, a2), t) :: eRd W.2.2 q.1 q.2 a2 else eRd W.2.2 q.1 q.2 a2) _
          cases hq : Nat.beq q.1 q.2 with
          | false => exact base
          | true =>
            intro y hy
            have hy : y ∈ ((q.1, a2), t) :: eRd W.2.2 q.1 q.2 a2 := hy
            cases hy with
            | tail _ hy => exact base y hy
            | head =>
              have hj : q.1 = j := Nat.le_antisymm j1 (Nat.le_trans j2 (Nat.le_of_eq (eBeq hq).symm))
              refine ⟨x, by rw [hj]; exact ha, ?_, g1, g2⟩
              show eGet _ q.1 a2 = _
              rw [hj, eGet_c (List.getElem?_set_self (List.getElem?_eq_some_iff.mp hc).1)]
              refine List.getElem?_set_self ?_
              rw [hlen]; exact (List.getElem?_eq_some_iff.mp hf).1
      · cases h
    · cases h
  · cases h
theorem eOf_s {f : eF} {v : Value} {sc' : List Value} {st' : List eA} {r : Option (Nat × sL × List Value × sH)} (hw : eWm lw xs md h0 ρ W hp) (hl : eLm W.1 ρ hp.length lv lc) (hk : eKm W.1 ρ hp.length st' sc') (hv : eFm 0 f v) (e : r = some (pc, lc, v :: sc', hp)) : eHg lw xs md h0 ρ W.1 hp.length (pc, lv, (eOf W f).2 :: st', (eOf W f).1) r := by
  cases f with
  | inl b =>
    obtain ⟨x, rfl, h1, h2⟩ := hv
    exact eHg_n hw hl hk h1 h2 e
  | inr o => exact eHg_0 (sc' := v :: sc') hw hl ⟨eOm_L (Nat.zero_le _) hv, hk⟩ e
theorem sGetD {w : List Value} {j : Nat} (h : j < w.length) : w.getD j .null ∈ w := by
  rw [List.getD_eq_getElem?_getD, List.getElem?_eq_getElem h]
  exact List.getElem_mem h
/-- loads of numbers: of a kind k of arrays, g the value that is loaded -/
theorem eXl_s {k : Nat} {g : List Value → Int32 → Value} {R : sL → List Value → sH → Option (Nat × sL × List Value × sH)}
    (hg : ∀ (w : List Value) (x : Int32) (f : eF), x.toNatClampNeg < w.length → (∀ v ∈ w, eFm 0 f v) → (∃ q, eArr q = some (k, w.length, f)) → eFm 0 f (g w x))
    (hR : ∀ (a : Nat) (w : List Value) (x : Int32) (r : List Value), hp[a]? = some (.inl (k, w)) → sIn x w.length = true → R lc (.int x :: .ref a :: r) hp = some (pc + 1, lc, g w x :: r, hp))
    (hx : ∀ (w : List Value) (x : Int32) (f : eF) (b : Int × Int), x.toNatClampNeg < w.length → (∀ v ∈ w, eFm 0 f v) → f = .inl b → (∃ q, eArr q = some (k, w.length, f)) → w[x.toNatClampNeg]? = some (g w x))
    (h8 : k = 0 → ∀ (w : List Value) (x : Int32), (∀ v ∈ w, ∃ y, v = .int y) → x.toNatClampNeg < w.length → ∃ y, g w x = .int y)
    (h9 : k = 0 → lw = true → ∀ (ys : List Int32) (a : Nat) (x : Int32) (r : List Value), xs = some ys → sIn x ys.length = true → ∃ y, R lc (.int x :: .retAddr a :: r) hp = some (pc + 1, lc, .int y :: r, hp))
    (h : eXl lw k pc lv st W = some z) (hw : eWm lw xs md h0 ρ W hp) (hl : eLm W.1 ρ hp.length lv lc) (hk : eKm W.1 ρ hp.length st sc) : eHg lw xs md h0 ρ W.1 hp.length z (R lc sc hp) := by
  unfold eXl at h
  split at h
  · next t q r =>
    obtain ⟨v1, s1, e9, k9⟩ := eKm_c hk; clear hk; subst e9; obtain ⟨⟨x, rfl, t1, t2⟩, hk⟩ := k9
    obtain ⟨v2, s2, e9, k9⟩ := eKm_c hk; clear hk; subst e9; obtain ⟨k1, hk⟩ := k9
    obtain ⟨j, rfl, j1, j2⟩ := eRe_s (a := q.1) (b := q.2) k1
    split at h
    · next y hy =>
      obtain ⟨ha, hr, w, hc, hlen, hv⟩ := eInv_a hw.2.2.1 hy j1 j2
      obtain ⟨c1, h⟩ := eBifN h
      obtain ⟨c2, h⟩ := eBifN h
      have c1 := eBeq c1
      obtain ⟨d1, d2⟩ := eIx_s hw.1 c2 t2
      rw [← hlen] at d1 d2
      have hq9 : ∃ q, eArr q = some (k, w.length, y.2.2) := ⟨q, by rw [hy, hlen, ← c1]⟩
      have base := eOf_s hw hl hk (hg w x y.2.2 d2 hv hq9) (hR j w x s2 (by rw [← c1]; exact hc) d1)
      have hR9 := hR j w x s2 (by rw [← c1]; exact hc) d1
      cases hf : y.2.2 with
      | inr o =>
        rw [hf] at h base
        cases h
        exact base
      | inl b =>
        rw [hf] at base
        have hw9 := hx w x y.2.2 b d2 hv hf hq9
        have h : (bif Nat.beq t.1 0 then (bif Nat.beq q.1 q.2 then (match eRl W.2.2 q.1 t.2.toNat with
            | some w => some (pc + 1, lv, .inl w :: r, W)
            | none => some (pc + 1, lv, .inl (eNv W) :: r, ((eFr W b.1 b.2).1, (eFr W b.1 b.2).2.1, ((q.1, t.2.toNat), eNv W) :: (eFr W b.1 b.2).2.2))) else some (pc + 1, lv, .inl (eNv W) :: r, eFr W b.1 b.2)) else some (pc + 1, lv, .inl (eNv W) :: r, eFr W b.1 b.2)) = some z := by
          rw [hf] at h; exact h
        cases g1 : Nat.beq t.1 0 with
        | false => rw [g1] at h; cases h; exact base
        | true =>
        rw [g1] at h
        dsimp only [cond] at h
        cases g2 : Nat.beq q.1 q.2 with
        | false => rw [g2] at h; cases h; exact base
        | true =>
        rw [g2] at h
        dsimp only [cond] at h
        have hj : q.1 = j := Nat.le_antisymm j1 (Nat.le_trans j2 (Nat.le_of_eq (eBeq g2).symm))
        have hxn : x.toNatClampNeg = t.2.toNat := by
          show x.toInt.toNat = _
          rw [← t2, eBeq g1, hw.1.2.1, Int.zero_add]
        rw [hxn] at hw9
        obtain ⟨y0, hy0, b1, b2⟩ := (show eFm 0 (.inl b) (g w x) by rw [← hf]; exact hg w x y.2.2 d2 hv hq9)
        rw [hy0] at hw9 hR9
        split at h
        · next u hu =>
          cases h
          obtain ⟨x9, m1, m2, m3, m4⟩ := hw.2.1 _ (eRl_s hu)
          dsimp only at m1 m2 m3 m4
          rw [hj, eGet_c hc, show (eVs (.inl (y.1, w)))[t.2.toNat]? = w[t.2.toNat]? from rfl, hw9] at m2
          cases m2
          exact eHg_0 (sc' := .int y0 :: s2) hw hl ⟨⟨y0, rfl, m3, m4⟩, hk⟩ hR9
        · cases h
          obtain ⟨ρ', m1, m2, m3⟩ := eWm_fr hw b1 b2
          refine ⟨ρ', lc, .int y0 :: s2, hp, m1, ⟨m2.1, ?_, m2.2.2⟩, rfl, eLm_ex m1 (Nat.le_refl _) hl, ⟨⟨y0, rfl, Nat.lt_succ_self _, m3⟩, eKm_ex m1 (Nat.le_refl _) hk⟩, hR9⟩
          intro e he
          have he : e ∈ ((q.1, t.2.toNat), eNv W) :: W.2.2 := he
          cases he with
          | head => exact ⟨y0, by rw [hj]; exact ha, by rw [show ((q.1, t.2.toNat), eNv W).1.1 = j from hj, eGet_c hc]; exact hw9, Nat.lt_succ_self _, m3⟩
          | tail _ he => exact m2.2.1 e he
    · cases h
  · next t i r =>
    obtain ⟨v1, s1, e9, k9⟩ := eKm_c hk; clear hk; subst e9; obtain ⟨⟨x, rfl, t1, t2⟩, hk⟩ := k9
    obtain ⟨v2, s2, e9, k9⟩ := eKm_c hk; clear hk; subst e9; obtain ⟨k1, hk⟩ := k9
    obtain ⟨c1, h⟩ := eBifN h
    have c1 := eBeq c1
    cases hi8 : Nat.beq i 8 with
    | true =>
      rw [hi8] at h
      dsimp only [cond] at h
      obtain ⟨c2, h⟩ := eBifN h
      cases h
      have hi8 := eBeq hi8
      subst hi8
      rcases eRf_s k1 (Nat.le_refl 8) (by decide) with ⟨-, j, rfl, j1, j2⟩ | ⟨e, -⟩
      · have hwj := List.getElem?_eq_getElem j2
        obtain ⟨w, e0, w1, w2⟩ := hw.2.2.1.2.2 j _ j1 hwj
        rw [e0] at hwj
        obtain ⟨d1, d2⟩ := eIx_s hw.1 c2 t2
        rw [← w1] at d1 d2
        obtain ⟨y, hy⟩ := h8 c1 w x w2 d2
        have e := hR j w x s2 (by rw [c1]; exact hwj) d1
        rw [hy] at e
        exact eHg_n hw hl hk (i32_rng y).1 (i32_rng y).2 e
      · cases e
    | false =>
      rw [hi8] at h
      dsimp only [cond] at h
      obtain ⟨c2, h⟩ := eBifN h
      obtain ⟨c3, h⟩ := eBifN h
      obtain ⟨c4, h⟩ := eBifN h
      obtain ⟨c5, h⟩ := eBifN h
      cases h
      have c3 := eBeq c3
      subst c3
      obtain ⟨ys, e1, e2, e3, e4⟩ := hw.1.2.2.2 c2
      have c4 := eBeq c4
      obtain ⟨c6, c7⟩ := eIr_s c5
      rw [c4] at t2
      rcases eRf_s k1 (by decide) (Nat.le_refl 9) with ⟨e, -⟩ | ⟨-, j, rfl⟩
      · cases e
      · have h5 : x.toNatClampNeg < ys.length := by show x.toInt.toNat < ys.length; omega
        have d1 : sIn x ys.length = true := by
          unfold sIn
          rw [Bool.not_eq_true', Bool.or_eq_false_iff, decide_eq_false_iff_not, decide_eq_false_iff_not]
          exact ⟨fun e => by have := Int32.lt_iff_toInt_lt.mp e; have h0 : (0 : Int32).toInt = 0 := rfl; omega, Nat.not_le.mpr h5⟩
        obtain ⟨y, hy⟩ := h9 c1 c2 ys j x s2 e1 d1
        exact eHg_n hw hl hk (i32_rng y).1 (i32_rng y).2 hy
  · cases h
/-- stores -/
theorem eXs_s {k : Nat} {R : sL → List Value → sH → Option (Nat × sL × List Value × sH)}
    (hR : ∀ (a : Nat) (w : List Value) (x : Int32) (v : Value) (f : eF) (r : List Value), hp[a]? = some (.inl (k, w)) → sIn x w.length = true → eFm 0 f v → ((∃ q, eArr q = some (k, w.length, f)) ∨ (k = 0 ∧ ∃ y, v = .int y)) → R lc (v :: .int x :: .ref a :: r) hp = some (pc + 1, lc, r, hp.set a (.inl (k, w.set x.toNatClampNeg v))))
    (hk4 : eIdB k = false) (h : eXs md k pc lv st W = some z) (hw : eWm lw xs md h0 ρ W hp) (hl : eLm W.1 ρ hp.length lv lc) (hk : eKm W.1 ρ hp.length st sc) : eHg lw xs md h0 ρ W.1 hp.length z (R lc sc hp) := by
  unfold eXs at h
  split at h
  · next v t q r =>
    obtain ⟨v0, s0, e9, k9⟩ := eKm_c hk; clear hk; subst e9; obtain ⟨k0, hk⟩ := k9
    obtain ⟨v1, s1, e9, k9⟩ := eKm_c hk; clear hk; subst e9; obtain ⟨⟨x, rfl, t1, t2⟩, hk⟩ := k9
    obtain ⟨v2, s2, e9, k9⟩ := eKm_c hk; clear hk; subst e9; obtain ⟨k1, hk⟩ := k9
    obtain ⟨j, rfl, j1, j2⟩ := eRe_s (a := q.1) (b := q.2) k1
    split at h
    · next y hy =>
      obtain ⟨ha, hr, w, hc, hlen, hv⟩ := eInv_a hw.2.2.1 hy j1 j2
      obtain ⟨c1, h⟩ := eBifN h
      obtain ⟨c2, h⟩ := eBifN h
      obtain ⟨c3, h⟩ := eBifN h
      obtain ⟨c4, h⟩ := eBifN h
      cases h
      have c1 := eBeq c1
      obtain ⟨d1, d2⟩ := eIx_s hw.1 c2 t2
      rw [← hlen] at d1
      have m1 := eFit_s hw.1 c3 k0
      refine ⟨ρ, lc, s2, _, eEx_rf, ⟨hw.1, ?_, ?_, ?_, by rw [List.length_set]; exact hw.2.2.2.2⟩, List.length_set, hl, hk, hR j w x v0 y.2.2 s2 (by rw [← c1]; exact hc) d1 m1 (Or.inl ⟨q, by rw [hy, hlen, ← c1]⟩)⟩
      · have far : eRm W.1 ρ (eRa W.2.2 q.1 q.2) (hp.set j (.inl (k, w.set x.toNatClampNeg v0))) := eRa_s hw.2.1 j1 j2
        cases v with
        | inr o => exact far
        | inl u =>
          obtain ⟨x0, rfl, g1, g2⟩ := k0
          show eRm W.1 ρ (bif Nat.beq t.1 0 then (bif Nat.beq q.1 q.2 then ((q.1, t.2.toNat), u) :: eRd W.2.2 q.1 q.2 t.2.toNat else eRa W.2.2 q.1 q.2) else eRa W.2.2 q.1 q.2) _
          cases p1 : Nat.beq t.1 0 with
          | false => exact far
          | true =>
          cases p2 : Nat.beq q.1 q.2 with
          | false => exact far
          | true =>
            have hj : q.1 = j := Nat.le_antisymm j1 (Nat.le_trans j2 (Nat.le_of_eq (eBeq p2).symm))
            have hxn : x.toNatClampNeg = t.2.toNat := by
              show x.toInt.toNat = _
              rw [← t2, eBeq p1, hw.1.2.1, Int.zero_add]
            rw [hxn]
            have hlt : t.2.toNat < w.length := by rw [← hxn]; exact hlen ▸ d2
            intro y9 hy9
            have hy9 : y9 ∈ ((q.1, t.2.toNat), u) :: eRd W.2.2 q.1 q.2 t.2.toNat := hy9
            cases hy9 with
            | head => exact ⟨x0, by rw [hj]; exact ha, by rw [show ((q.1, t.2.toNat), u).1.1 = j from hj, eGet_c (List.getElem?_set_self (List.getElem?_eq_some_iff.mp hc).1)]; exact List.getElem?_set_self hlt, g1, g2⟩
            | tail _ hy9 => exact eRd_s hw.2.1 j1 j2 hc rfl y9 hy9
      · rw [← c1]
        exact eInv_sa hw.2.2.1 ha hr hlen hv m1 (by rw [c1]; exact hk4)
      · cases p1 : (bif Nat.beq t.1 0 then eMa md q.1 q.2 t.2.toNat else false) with
        | false => rw [p1] at c4; exact eMod_sa hw.2.2.2.1 (eMa_in c4 j1 j2)
        | true =>
          obtain ⟨p2, p3⟩ := eBif p1
          have hxn : x.toNatClampNeg = t.2.toNat := by
            show x.toInt.toNat = _
            rw [← t2, eBeq p2, hw.1.2.1, Int.zero_add]
          rw [hxn]
          exact eMod_si hw.2.2.2.1 (by rw [← c1]; exact hc) (eMa_in p3 j1 j2)
    · cases h
  · next v t i r =>
    obtain ⟨v0, s0, e9, k9⟩ := eKm_c hk; clear hk; subst e9; obtain ⟨k0, hk⟩ := k9
    obtain ⟨v1, s1, e9, k9⟩ := eKm_c hk; clear hk; subst e9; obtain ⟨⟨x, rfl, t1, t2⟩, hk⟩ := k9
    obtain ⟨v2, s2, e9, k9⟩ := eKm_c hk; clear hk; subst e9; obtain ⟨k1, hk⟩ := k9
    obtain ⟨c1, h⟩ := eBifN h
    obtain ⟨c2, h⟩ := eBifN h
    obtain ⟨c3, h⟩ := eBifN h
    obtain ⟨c4, h⟩ := eBifN h
    cases h
    have c1 := eBeq c1
    have c2 := eBeq c2
    subst c2
    obtain ⟨u, rfl⟩ := eIsI_s k0 c4
    rcases eRf_s k1 (Nat.le_refl 8) (by decide) with ⟨-, j, rfl, j1, j2⟩ | ⟨e, -⟩
    · have hwj := List.getElem?_eq_getElem j2
      obtain ⟨w, e0, w1, w2⟩ := hw.2.2.1.2.2 j _ j1 hwj
      rw [e0] at hwj
      obtain ⟨d1, d2⟩ := eIx_s hw.1 c3 t2
      rw [← w1] at d1
      refine ⟨ρ, lc, s2, _, eEx_rf, ⟨hw.1, eRm_sg hw.2.1 j1, eInv_sg hw.2.2.1 j1 ⟨w.set x.toNatClampNeg (.int u), by rw [c1], by rw [List.length_set]; exact w1, fun y hy => (List.mem_or_eq_of_mem_set hy).elim (w2 y) (fun e => ⟨u, e⟩)⟩, eMod_sg hw.2.2.2.1 j1, by rw [List.length_set]; exact hw.2.2.2.2⟩, List.length_set, hl, hk, hR j w x (.int u) eI0 s2 (by rw [c1]; exact hwj) d1 ⟨u, rfl, i32_rng u⟩ (Or.inr ⟨c1, u, rfl⟩)⟩
    · cases e
  · cases h
end EH
