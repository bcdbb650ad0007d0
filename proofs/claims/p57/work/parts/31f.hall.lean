/-! 31f: all instructions of the heap -/
def eArF (z : Nat × Nat × eF) : Bool := match z.1 with
  | 0 => (match z.2.2 with
    | .inl _ => true
    | _ => false)
  | 1 => (match z.2.2 with
    | .inl b => eIr 0 1 b.1 b.2
    | _ => false)
  | 2 => (match z.2.2 with
    | .inr (.inr k) => Nat.beq k 0
    | _ => false)
  | 3 => (match z.2.2 with
    | .inr (.inr k) => Nat.beq k 1
    | _ => false)
  | _ => (match z.2.2 with
    | .inr (.inl _) => true
    | _ => false)
noncomputable def eArC : Bool := eReg.all (fun q => match q.2.2 with
  | .inr z => eArF z
  | _ => true)
set_option maxRecDepth 20000 in
theorem eArC_ok : eArC = true := by decide +kernel
theorem eArK {q : Nat × Nat} {z : Nat × Nat × eF} (h : eArr q = some z) : eArF z = true := by
  unfold eArr at h
  split at h
  · next y hy =>
    cases h
    obtain ⟨r, h1, h2, h3, h4⟩ := eRgL_m hy
    have h5 := List.all_eq_true.mp eArC_ok r h1
    rw [h4] at h5
    exact h5
  · cases h
theorem eAr0 {q : Nat × Nat} {n : Nat} {f : eF} (h : eArr q = some (0, n, f)) : ∃ b, f = .inl b := by
  cases f with
  | inl b => exact ⟨b, rfl⟩
  | inr o => exact Bool.noConfusion (show false = true from eArK h)
theorem eAr1 {q : Nat × Nat} {n : Nat} {f : eF} (h : eArr q = some (1, n, f)) : ∃ b, f = .inl b ∧ 0 ≤ b.1 ∧ b.2 ≤ 1 := by
  cases f with
  | inl b => exact ⟨b, rfl, eIr_s (show eIr 0 1 b.1 b.2 = true from eArK h)⟩
  | inr o => exact Bool.noConfusion (show false = true from eArK h)
theorem eKj {f : eF} {j : Nat} (h : (match f with
    | .inr (.inr k) => Nat.beq k j
    | _ => false) = true) : f = .inr (.inr j) := by
  cases f with
  | inl b => cases h
  | inr o =>
    cases o with
    | inl q => cases h
    | inr k => rw [eBeq (show Nat.beq k j = true from h)]
theorem eAr2 {q : Nat × Nat} {n : Nat} {f : eF} (h : eArr q = some (2, n, f)) : f = eLg := eKj (j := 0) (eArK h)
theorem eAr3 {q : Nat × Nat} {n : Nat} {f : eF} (h : eArr q = some (3, n, f)) : f = .inr (.inr 1) := eKj (j := 1) (eArK h)
theorem eLong {L : Nat} {v : Value} (h : eFm L eLg v) : ∃ x, v = .long x := (eIsL_s (n := 0) (ρ := fun _ => 0) (L := L) (a := .inr (.inr 0)) h rfl).2
theorem eDbl {L : Nat} {v : Value} (h : eFm L (.inr (.inr 1)) v) : ∃ x, v = .double x := eIsD_s (n := 0) (ρ := fun _ => 0) (L := L) (a := .inr (.inr 1)) (hi := 1) h (by decide) rfl
theorem sGx {w : List Value} {n : Nat} {b : Int × Int} (h1 : n < w.length) (h2 : ∀ v ∈ w, eFm 0 (.inl b) v) : w[n]? = some (.int (iOf (w.getD n .null))) := by
  obtain ⟨y, e, -⟩ := h2 _ (sGetD h1)
  have h9 := List.getElem?_eq_getElem h1
  rw [e, h9]
  rw [List.getD_eq_getElem?_getD, h9] at e
  have e : w[n] = .int y := e
  rw [e]
  rfl
theorem eBifM {α : Type} {a : Bool} {x : Option α} {y : α} (h : (bif a then none else x) = some y) : a = false ∧ x = some y := by
  cases a
  · exact ⟨rfl, h⟩
  · cases h
section EH
variable {lw : Bool} {xs : Option (List Int32)} {md : eMd} {h0 hp : sH} {ρ : Nat → Int} {W : eW} {pc a1 a2 : Nat} {lv : eLv} {st : List eA} {lc : sL} {sc : List Value} {z : eQ}
theorem eH_s {i : Instr} (h : eH lw md i a1 a2 pc lv st W = some z) (hw : eWm lw xs md h0 ρ W hp) (hl : eLm W.1 ρ hp.length lv lc) (hk : eKm W.1 ρ hp.length st sc) : sP (0 : Nat) i pc lc sc = none ∧ (∀ nL, sP nL i pc lc sc = none) ∧ eHg lw xs md h0 ρ W.1 hp.length z (sHp xs i a1 a2 pc lc sc hp) := by
  unfold eH at h
  split at h
  · exact ⟨rfl, fun _ => rfl, eGf_s h hw hl hk⟩
  · exact ⟨rfl, fun _ => rfl, ePf_s h hw hl hk⟩
  · refine ⟨rfl, fun _ => rfl, eXl_s (k := 0) (g := fun w x => .int (iOf (w.getD x.toNatClampNeg .null))) (R := fun lc sc hp => sHp xs .iaload a1 a2 pc lc sc hp) ?_ ?_ ?_ ?_ ?_ h hw hl hk⟩
    · intro w x f h1 h2 ⟨q, h3⟩
      obtain ⟨b, rfl⟩ := eAr0 h3
      obtain ⟨y, e, e2⟩ := h2 _ (sGetD h1)
      refine ⟨y, ?_, e2⟩
      (try dsimp only)
      rw [e]; rfl
    · intro a w x r h1 h2
      (try dsimp only)
      unfold sHp; dsimp only; rw [h1]; exact if_pos h2
    · intro w x f b h1 h2 hf _
      subst hf
      exact sGx h1 h2
    · intro _ w x _ _
      exact ⟨_, rfl⟩
    · intro _ _ ys a x r h1 h2
      refine ⟨ys.getD x.toNatClampNeg 0, ?_⟩
      (try dsimp only)
      rw [h1]
      unfold sHp; exact if_pos h2
  · refine ⟨rfl, fun _ => rfl, ?_⟩
    have h : eXl lw 1 pc lv st W = some z := by
      unfold eXl at h ⊢
      split at h
      · exact h
      · cases h
      · cases h
    refine eXl_s (k := 1) (g := fun w x => .int (iOf (w.getD x.toNatClampNeg .null))) (R := fun lc sc hp => sHp xs .baload a1 a2 pc lc sc hp) ?_ ?_ (fun w x f b h1 h2 hf _ => by subst hf; exact sGx h1 h2) (fun e => by cases e) (fun e => by cases e) h hw hl hk
    · intro w x f h1 h2 ⟨q, h3⟩
      obtain ⟨b, rfl, -⟩ := eAr1 h3
      obtain ⟨y, e, e2⟩ := h2 _ (sGetD h1)
      refine ⟨y, ?_, e2⟩
      (try dsimp only)
      rw [e]; rfl
    · intro a w x r h1 h2
      (try dsimp only)
      unfold sHp; dsimp only; rw [h1]; exact if_pos h2
  · refine ⟨rfl, fun _ => rfl, ?_⟩
    have h : eXl lw 2 pc lv st W = some z := by
      unfold eXl at h ⊢
      split at h
      · exact h
      · cases h
      · cases h
    refine eXl_s (k := 2) (g := fun w x => .long (lOf (w.getD x.toNatClampNeg .null))) (R := fun lc sc hp => sHp xs .laload a1 a2 pc lc sc hp) ?_ ?_ (fun w x f b h1 h2 hf ⟨q, h3⟩ => by rw [hf] at h3; cases eAr2 h3) (fun e => by cases e) (fun e => by cases e) h hw hl hk
    · intro w x f h1 h2 ⟨q, h3⟩
      rw [eAr2 h3]
      exact (rfl : (.inr 0 : eO) = .inr 0)
    · intro a w x r h1 h2
      (try dsimp only)
      unfold sHp; dsimp only; rw [h1]; exact if_pos h2
  · refine ⟨rfl, fun _ => rfl, ?_⟩
    split at h
    · next t q r =>
      obtain ⟨v1, s1, e9, k9⟩ := eKm_c hk; clear hk; subst e9; obtain ⟨⟨x, rfl, t1, t2⟩, hk⟩ := k9
      obtain ⟨v2, s2, e9, k9⟩ := eKm_c hk; clear hk; subst e9; obtain ⟨k1, hk⟩ := k9
      obtain ⟨j, rfl, j1, j2⟩ := eRe_s (a := q.1) (b := q.2) k1
      split at h
      · next y hy =>
        obtain ⟨ha, hr, w, hc, hlen, hv⟩ := eInv_a hw.2.2.1 hy j1 j2
        obtain ⟨c1, h⟩ := eBifN h
        obtain ⟨c2, h⟩ := eBifN h
        obtain ⟨c3, h⟩ := eBifN h
        split at h
        · next p hp9 =>
          have hc0 := hc
          obtain ⟨d1, d2⟩ := eIx_s hw.1 c3 t2
          rw [← hlen] at d1 d2
          have m := hv _ (sGetD d2)
          have m9 := m
          rw [hp9] at m
          obtain ⟨u, hu, u1, u2⟩ := eRe_s (a := p.1) (b := p.2) m
          have c1 := eBle c1
          have c2 := of_decide_eq_true c2
          obtain ⟨t4, ht4⟩ : ∃ t4, y.1 = t4 + 4 := ⟨y.1 - 4, by omega⟩
          rw [ht4] at hc c2
          have e5 : sHp xs .aaload a1 a2 pc lc (.int x :: .ref j :: s2) hp = some (pc + 1, lc, w.getD x.toNatClampNeg .null :: s2, hp) := by
            have e : rOf (w.getD x.toNatClampNeg .null) = w.getD x.toNatClampNeg .null := by rw [hu]; rfl
            conv => rhs; rw [← e]
            unfold sHp; dsimp only; rw [hc]; exact if_pos ⟨d1, c2⟩
          have base := eHg_0 (lv := lv) (pc := pc + 1) (st' := .inr (.inl p) :: r) (sc' := w.getD x.toNatClampNeg .null :: s2) hw hl ⟨eOm_L (Nat.zero_le _) (by rw [hp9] at m9; exact m9), hk⟩ e5
          cases g1 : eIdB y.1 with
          | false => rw [g1] at h; cases h; exact base
          | true =>
          rw [g1] at h
          dsimp only [cond] at h
          cases g2 : Nat.beq t.1 0 with
          | false => rw [g2] at h; cases h; exact base
          | true =>
            rw [g2] at h
            cases h
            have hxn : x.toNatClampNeg = t.2.toNat := by
              show x.toInt.toNat = _
              rw [← t2, eBeq g2, hw.1.2.1, Int.zero_add]
            have h9 := List.getElem?_eq_getElem d2
            have h8 := eInv_ai hw.2.2.1 ha hr hc0 hp9 g1 h9
            have h7 : w.getD x.toNatClampNeg .null = .ref (p.1 + t.2.toNat) := by
              rw [List.getD_eq_getElem?_getD, h9, h8, hxn]; rfl
            refine eHg_0 (st' := .inr (.inl (p.1 + t.2.toNat, p.1 + t.2.toNat)) :: r) (sc' := w.getD x.toNatClampNeg .null :: s2) hw hl ⟨?_, hk⟩ e5
            rw [h7]
            exact Or.inl ⟨_, _, rfl, Nat.le_refl _, Nat.le_refl _⟩
        · cases h
      · cases h
    · cases h
  · refine ⟨rfl, fun _ => rfl, eXs_s (k := 0) (R := fun lc sc hp => sHp xs .iastore a1 a2 pc lc sc hp) ?_ rfl h hw hl hk⟩
    intro a w x v f r h1 h2 h3 h4
    have h5 : ∃ y, v = .int y := by
      rcases h4 with ⟨q, h4⟩ | ⟨-, h4⟩
      · obtain ⟨b, rfl⟩ := eAr0 h4
        obtain ⟨y, e, -⟩ := h3
        exact ⟨y, e⟩
      · exact h4
    obtain ⟨y, rfl⟩ := h5
    (try dsimp only)
    unfold sHp; dsimp only; rw [h1]; exact if_pos h2
  · refine ⟨rfl, fun _ => rfl, eXs_s (k := 1) (R := fun lc sc hp => sHp xs .bastore a1 a2 pc lc sc hp) ?_ rfl h hw hl hk⟩
    intro a w x v f r h1 h2 h3 h4
    rcases h4 with ⟨q, h4⟩ | ⟨h4, -⟩
    · obtain ⟨b, rfl, b1, b2⟩ := eAr1 h4
      obtain ⟨y, rfl, y1, y2⟩ := h3
      have h5 : y = 0 ∨ y = 1 := by
        have : y.toInt = 0 ∨ y.toInt = 1 := by omega
        exact this.elim (fun e => Or.inl (Int32.toInt_inj.mp (e.trans rfl))) (fun e => Or.inr (Int32.toInt_inj.mp (e.trans rfl)))
      (try dsimp only)
      unfold sHp; dsimp only; rw [h1]; exact if_pos ⟨h2, h5⟩
    · cases h4
  · refine ⟨rfl, fun _ => rfl, eXs_s (k := 2) (R := fun lc sc hp => sHp xs .lastore a1 a2 pc lc sc hp) ?_ rfl h hw hl hk⟩
    intro a w x v f r h1 h2 h3 h4
    rcases h4 with ⟨q, h4⟩ | ⟨h4, -⟩
    · rw [eAr2 h4] at h3
      obtain ⟨y, rfl⟩ := eLong h3
      (try dsimp only)
      unfold sHp; dsimp only; rw [h1]; exact if_pos h2
    · cases h4
  · refine ⟨rfl, fun _ => rfl, eXs_s (k := 3) (R := fun lc sc hp => sHp xs .dastore a1 a2 pc lc sc hp) ?_ rfl h hw hl hk⟩
    intro a w x v f r h1 h2 h3 h4
    rcases h4 with ⟨q, h4⟩ | ⟨h4, -⟩
    · rw [eAr3 h4] at h3
      obtain ⟨y, rfl⟩ := eDbl h3
      (try dsimp only)
      unfold sHp; dsimp only; rw [h1]; exact if_pos h2
    · cases h4
  · refine ⟨rfl, fun _ => rfl, ?_⟩
    split at h
    · next p t q r =>
      obtain ⟨v0, s0, e9, k9⟩ := eKm_c hk; clear hk; subst e9; obtain ⟨k0, hk⟩ := k9
      obtain ⟨v1, s1, e9, k9⟩ := eKm_c hk; clear hk; subst e9; obtain ⟨⟨x, rfl, t1, t2⟩, hk⟩ := k9
      obtain ⟨v2, s2, e9, k9⟩ := eKm_c hk; clear hk; subst e9; obtain ⟨k1, hk⟩ := k9
      obtain ⟨i, rfl, i1, i2⟩ := eRe_s (a := p.1) (b := p.2) k0
      obtain ⟨j, rfl, j1, j2⟩ := eRe_s (a := q.1) (b := q.2) k1
      split at h
      · next y hy =>
        obtain ⟨ha, hr, w, hc, hlen, hv⟩ := eInv_a hw.2.2.1 hy j1 j2
        obtain ⟨c1, h⟩ := eBifN h
        obtain ⟨c2, h⟩ := eBifN h
        obtain ⟨c3, h⟩ := eBifN h
        split at h
        · next fs hfs =>
          obtain ⟨-, -, vs, hc2, -, -⟩ := eInv_o hw.2.2.1 hfs i1 i2
          obtain ⟨c4, h⟩ := eBifN h
          obtain ⟨c5, h⟩ := eBifN h
          obtain ⟨c7, h⟩ := eBifM h
          obtain ⟨c6, h⟩ := eBifN h
          cases h
          obtain ⟨d1, d2⟩ := eIx_s hw.1 c4 t2
          rw [← hlen] at d1
          have m1 := eFit_s hw.1 c5 k0
          have c1 := eBle c1
          have c3 : y.1 < 15 := eBle c3
          have c2 := of_decide_eq_true c2
          obtain ⟨t5, ht5⟩ : ∃ t5, y.1 = t5 + 5 := ⟨y.1 - 5, by omega⟩
          have hc' := hc
          rw [ht5] at hc' c2
          have e : sHp xs .aastore a1 a2 pc lc (.ref i :: .int x :: .ref j :: s2) hp = some (pc + 1, lc, s2, hp.set j (.inl (y.1, w.set x.toNatClampNeg (.ref i)))) := by
            rw [ht5]
            unfold sHp; dsimp only; rw [hc']; dsimp only; rw [hc2]; exact if_pos ⟨d1, c2, by show y.1 - 5 = t5; omega, by omega⟩
          exact ⟨ρ, lc, s2, _, eEx_rf, ⟨hw.1, eRa_s hw.2.1 j1 j2, eInv_sa hw.2.2.1 ha hr hlen hv m1 c7, eMod_sa hw.2.2.2.1 (eMa_in c6 j1 j2), by rw [List.length_set]; exact hw.2.2.2.2⟩, List.length_set, hl, hk, e⟩
        · cases h
      · cases h
    · cases h
  · refine ⟨rfl, fun _ => rfl, ?_⟩
    split at h
    · next q r =>
      obtain ⟨v2, s2, e9, k9⟩ := eKm_c hk; clear hk; subst e9; obtain ⟨k1, hk⟩ := k9
      obtain ⟨j, rfl, j1, j2⟩ := eRe_s (a := q.1) (b := q.2) k1
      split at h
      · next y hy =>
        obtain ⟨ha, hr, w, hc, hlen, hv⟩ := eInv_a hw.2.2.1 hy j1 j2
        obtain ⟨c1, h⟩ := eBifN h
        obtain ⟨c2, h⟩ := eBifN h
        cases h
        have c2 := eBle c2
        refine eHg_0 (sc' := .int (Int32.ofNat w.length) :: s2) hw hl ⟨⟨_, rfl, hw.1.1, ?_⟩, hk⟩ ?_
        · rw [hlen, hw.1.2.1, Int32.toInt_ofNat_of_lt (by omega)]
          exact Int.zero_add _
        · unfold sHp; dsimp only; rw [hc]; exact if_pos (of_decide_eq_true c1)
      · cases h
    · cases h
  · cases h
    exact ⟨rfl, fun _ => rfl, eHg_0 (sc' := .int (Int32.ofNat a1) :: sc) hw hl ⟨⟨_, rfl, hw.1.1, by show ρ 0 + _ = _; rw [hw.1.2.1]; exact Int.zero_add _⟩, hk⟩ rfl⟩
  · cases h
    exact ⟨rfl, fun _ => rfl, eHg_0 (sc' := .int (Int32.ofNat a1) :: sc) hw hl ⟨⟨_, rfl, hw.1.1, by show ρ 0 + _ = _; rw [hw.1.2.1]; exact Int.zero_add _⟩, hk⟩ rfl⟩
  · cases h
    exact ⟨rfl, fun _ => rfl, eHg_0 (sc' := .long (Int64.ofNat a1) :: sc) hw hl ⟨rfl, hk⟩ rfl⟩
  · cases h
end EH
