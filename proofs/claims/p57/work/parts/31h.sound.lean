/-! 31h: what a checked run comes to -/
/-- a call whose end is known -/
theorem wp_tld {mt : Nat → sM} {F d : Nat} {M : sM} {xs : Option (List Int32)} {B cl sl pc a1 a2 ln : Nat} {Q : sR → Prop} {lv : sL} {st rest as : List Value} {h : sH} {i : Instr} {r : sR} (he : mE M pc = some (i, ln, a1, a2)) (hlt : ¬ 1000 ≤ a1) (hP : sP (mL M) i pc lv st = none) (hH : sHp xs i a1 a2 pc lv st h = none) (hr : sRet (mR M) i st = none) (hi : sInv0 mt i a1 a2 st h = some (as, rest)) (hc : sCat rest ≤ 8 ∧ cl + mC (mt a1) ≤ mC M ∧ sl + mS (mt a1) ≤ mS M) (hg : sGo1 mt F (d + 1) a1 as h = some r)
    (k : wK mt (sGo1 mt F (d + 1)) M xs B pc lv rest (cl + mC (mt a1)) (sl + mS (mt a1)) Q r) : sWp mt (sGo1 mt F (d + 1)) M xs (B + 1) (pc, lv, st, h, cl, sl) Q := by
  have hs0 : ∀ r0 : sR, sGo1 mt F (d + 1) a1 as h = some r0 → sStep mt (sGo1 mt F (d + 1)) M xs (pc, lv, st, h, cl, sl) = (match r0 with
      | (.inl v, h1) => some (.inl (pc + 3, lv, v.toList ++ rest, h1, cl + mC (mt a1), sl + mS (mt a1)))
      | (.inr E, h1) => (match mT M with
        | [] => some (.inr (.inr E, h1))
        | t :: ts => match sHd (mE M) E pc (t :: ts) with
          | some hp => if 6 ≤ E then none else sCk (mE M) lv h1 (cl + mC (mt a1)) (sl + mS (mt a1)) (mL M) hp
          | none => none)) := by
    intro r0 hg
    unfold sStep; rw [he]; dsimp only
    rw [hP]; dsimp only; rw [hH]; dsimp only; rw [hr]; dsimp only; rw [if_neg hlt, hi]; dsimp only; rw [if_pos hc, hg]
    rcases r0 with ⟨v | E, h1⟩ <;> rfl
  have hs := hs0 r hg
  rcases r with ⟨v | E, h1⟩
  · exact wp_step hs k
  · unfold wK at k
    dsimp only at k hs
    split at k
    · next hT =>
      rw [hT] at hs
      exact wp_end hs k
    · next t ts hT =>
      obtain ⟨hp, k9, e1, e2, e3, e4⟩ := k
      rw [hT] at hs
      dsimp only at hs
      rw [e1] at hs
      dsimp only at hs
      rw [if_neg (Nat.not_le.mpr e2), e3] at hs
      exact wp_step hs e4
/-! the falling number -/
def eSum (ρ : Nat → Int) : List (Nat × Int) → Int
  | [] => 0
  | q :: l => q.2 * ρ q.1 + eSum ρ l
/-- the number at a place of the machine -/
def eMc (lc : sL) (K : Int) : List (Nat × Int) → Int → Prop
  | [], m => m = K
  | q :: l, m => ∃ (x : Int32) (m' : Int), sLk q.1 lc = some (.int x) ∧ eMc lc K l m' ∧ m = m' + q.2 * x.toInt
theorem eMo_s {n L : Nat} {ρ : Nat → Int} {lv : eLv} {lc : sL} {K : Int} (hl : eLm n ρ L lv lc) : ∀ {l : List (Nat × Int)} {y : eMu}, eMo lv l K = some y → (∀ q ∈ y.1, q.1 < n) ∧ eMc lc K l (eSum ρ y.1 + y.2)
  | [], y, h => by
    have h : some (([] : List (Nat × Int)), K) = some y := h
    cases h
    exact ⟨fun _ h => (nomatch h), by show 0 + K = K; exact Int.zero_add K⟩
  | q :: l, y, h => by
    have h : (match eMo lv l K with
      | some r => (match eNth lv q.1 with
        | some (some (.inl t)) => some ((t.1, q.2) :: r.1, r.2 + q.2 * t.2)
        | _ => none)
      | none => none) = some y := h
    split at h
    · next r hr =>
      rw [eNth_eq] at h
      split at h
      · next t ht =>
        cases h
        obtain ⟨g1, g2⟩ := eMo_s hl hr
        obtain ⟨v, e1, x, rfl, e2, e3⟩ := hl _ _ ht
        refine ⟨fun z hz => ?_, x, _, e1, g2, ?_⟩
        · cases hz with
          | head => exact e2
          | tail _ hz => exact g1 z hz
        · show q.2 * ρ t.1 + eSum ρ r.1 + (r.2 + q.2 * t.2) = eSum ρ r.1 + r.2 + q.2 * x.toInt
          rw [← e3, Int.mul_add]
          omega
      · cases h
    · cases h
theorem eSum_ap {ρ : Nat → Int} : ∀ {l m : List (Nat × Int)}, eSum ρ (l ++ m) = eSum ρ l + eSum ρ m
  | [], m => (Int.zero_add _).symm
  | q :: l, m => by show q.2 * ρ q.1 + eSum ρ (l ++ m) = q.2 * ρ q.1 + eSum ρ l + eSum ρ m; rw [eSum_ap]; omega
theorem eSum_neg {ρ : Nat → Int} : ∀ {l : List (Nat × Int)}, eSum ρ (eNeg l) = - eSum ρ l
  | [] => rfl
  | q :: l => by show -q.2 * ρ q.1 + eSum ρ (eNeg l) = -(q.2 * ρ q.1 + eSum ρ l); rw [eSum_neg, Int.neg_mul]; omega
theorem eSum_ex {n n' : Nat} {ρ ρ' : Nat → Int} (hx : eEx n ρ n' ρ') : ∀ {l : List (Nat × Int)}, (∀ q ∈ l, q.1 < n) → eSum ρ' l = eSum ρ l
  | [], _ => rfl
  | q :: l, h => by show q.2 * ρ' q.1 + eSum ρ' l = q.2 * ρ q.1 + eSum ρ l; rw [hx.2 _ (h q List.mem_cons_self), eSum_ex hx (fun z hz => h z (List.mem_cons_of_mem _ hz))]
theorem eSum_sp {ρ : Nat → Int} {v : Nat} : ∀ {l : List (Nat × Int)}, eSum ρ l = eSumv v l * ρ v + eSum ρ (eFil (fun z => bif Nat.beq z.1 v then false else true) l)
  | [] => by show (0 : Int) = 0 * ρ v + 0; rw [Int.zero_mul]; rfl
  | q :: l => by
    have ih := eSum_sp (ρ := ρ) (v := v) (l := l)
    show q.2 * ρ q.1 + eSum ρ l = (bif Nat.beq q.1 v then q.2 + eSumv v l else eSumv v l) * ρ v + eSum ρ (bif (bif Nat.beq q.1 v then false else true) then q :: eFil (fun z => bif Nat.beq z.1 v then false else true) l else eFil (fun z => bif Nat.beq z.1 v then false else true) l)
    cases hb : Nat.beq q.1 v with
    | true =>
      show q.2 * ρ q.1 + eSum ρ l = (q.2 + eSumv v l) * ρ v + eSum ρ (eFil (fun z => bif Nat.beq z.1 v then false else true) l)
      rw [eBeq hb, Int.add_mul]
      omega
    | false =>
      show q.2 * ρ q.1 + eSum ρ l = eSumv v l * ρ v + (q.2 * ρ q.1 + eSum ρ (eFil (fun z => bif Nat.beq z.1 v then false else true) l))
      omega
theorem eUb_s {lw : Bool} {xs : Option (List Int32)} {ρ : Nat → Int} {W : eW} (hN : eNm lw xs ρ W) : ∀ {n : Nat} {l : List (Nat × Int)} {K x : Int}, eUb n W l K = some x → eSum ρ l + K ≤ x
  | 0, l, K, x, h => by
    cases l with
    | nil => have h : some K = some x := h; cases h; show 0 + K ≤ K; omega
    | cons q l => cases h
  | n + 1, l, K, x, h => by
    cases l with
    | nil => have h : some K = some x := h; cases h; show 0 + K ≤ K; omega
    | cons q l =>
      have h : (match eBd W.2.1.1 q.1 with
        | some b => eUb n W (eFil (fun z => bif Nat.beq z.1 q.1 then false else true) l) (K + (eMax ((q.2 + eSumv q.1 l) * b.1) ((q.2 + eSumv q.1 l) * b.2)))
        | none => none) = some x := h
      split at h
      · next b hb =>
        have h1 := eUb_s hN h
        have h2 := eBd_s (eNm_b hN) hb
        have h3 := eSum_sp (ρ := ρ) (v := q.1) (l := l)
        have h4 : (q.2 + eSumv q.1 l) * ρ q.1 ≤ eMax ((q.2 + eSumv q.1 l) * b.1) ((q.2 + eSumv q.1 l) * b.2) := by
          unfold eMax
          rcases Int.le_total 0 (q.2 + eSumv q.1 l) with hc | hc
          · have h5 := Int.mul_le_mul_of_nonneg_left h2.2 hc
            cases hb : eLe ((q.2 + eSumv q.1 l) * b.1) ((q.2 + eSumv q.1 l) * b.2) with
            | true => exact h5
            | false =>
              have h6 : ¬ (q.2 + eSumv q.1 l) * b.1 ≤ (q.2 + eSumv q.1 l) * b.2 := fun e => by rw [eLe_s.mpr e] at hb; cases hb
              exact Int.le_trans h5 (Int.le_of_lt (Int.not_le.mp h6))
          · have h5 := Int.mul_le_mul_of_nonpos_left hc h2.1
            cases hb : eLe ((q.2 + eSumv q.1 l) * b.1) ((q.2 + eSumv q.1 l) * b.2) with
            | true => exact Int.le_trans h5 (eLe_s.mp hb)
            | false => exact h5
        show q.2 * ρ q.1 + eSum ρ l + K ≤ x
        rw [Int.add_mul] at h4
        omega
      · cases h
theorem eUbLe_s {lw : Bool} {xs : Option (List Int32)} {ρ : Nat → Int} {W : eW} {l : List (Nat × Int)} {K m : Int} (hN : eNm lw xs ρ W) (h : eUbLe W l K m = true) : eSum ρ l + K ≤ m := by
  unfold eUbLe at h
  split at h
  · next x hx => exact Int.le_trans (eUb_s hN hx) (eLe_s.mp h)
  · cases h
/-! a loop's beginning -/
def eFsm (L : Nat) (lc : sL) (fs : List (Option eF)) : Prop := ∀ (i : Nat) (f : eF), fs[i]? = some (some f) → ∃ v, sLk i lc = some v ∧ eFm L f v
theorem eFm_L {L : Nat} {f : eF} {v : Value} (h : eFm 0 f v) : eFm L f v := by
  cases f with
  | inl b => exact h
  | inr o => exact eOm_L (Nat.zero_le _) h
theorem eFitC_s {lw : Bool} {xs : Option (List Int32)} {ρ : Nat → Int} {W : eW} {L : Nat} {f : eF} {a : eA} {v : Value} (hN : eNm lw xs ρ W) (h : eFitC W f a = true) (hv : eVm W.1 ρ L a v) : eFm L f v := by
  unfold eFitC at h
  cases hf : eFit W f a with
  | true => exact eFm_L (eFit_s hN hf hv)
  | false =>
    rw [hf] at h
    dsimp only [cond] at h
    split at h
    · next j k =>
      obtain ⟨h1, h2⟩ := eBif h
      rw [eBeq h2]
      exact hv
    · cases h
theorem eFs_s {lw : Bool} {xs : Option (List Int32)} {ρ : Nat → Int} {W : eW} {L : Nat} (hN : eNm lw xs ρ W) : ∀ {fs : List (Option eF)} {lv : eLv}, eFs W fs lv = true → ∀ (i : Nat) (f : eF), fs[i]? = some (some f) → ∃ a, lv[i]? = some (some a) ∧ eFitC W f a = true
  | [], lv, _, i, f, h => by cases i <;> cases h
  | g :: fs, lv, h, i, f, hf => by
    cases lv with
    | nil =>
      cases g with
      | some g => cases h
      | none =>
        have h : eFs W fs [] = true := h
        cases i with
        | zero => cases hf
        | succ i =>
          obtain ⟨a, h1, -⟩ := eFs_s (L := L) hN h i f hf
          cases i <;> cases h1
    | cons a r =>
      cases g with
      | none =>
        have h : eFs W fs r = true := h
        cases i with
        | zero => cases hf
        | succ i => exact eFs_s (L := L) hN h i f hf
      | some g =>
        cases a with
        | none => cases h
        | some b =>
          have h : (bif eFitC W g b then eFs W fs r else false) = true := h
          obtain ⟨h1, h2⟩ := eBif h
          cases i with
          | zero => cases hf; exact ⟨b, rfl, h1⟩
          | succ i => exact eFs_s (L := L) hN h2 i f hf
/-- the machine is at a loop's beginning C, the number is m -/
def eCuM (mx : Int) (md : eMd) (h0 : sH) (oC oS : Nat) (C : eCu) (lc : sL) (hp : sH) (cl sl : Nat) (m : Int) : Prop :=
  eFsm hp.length lc C.2.1 ∧ eRqm C.2.2.1 hp ∧ eInv hp ∧ eMod md h0 hp ∧ h0.length ≤ hp.length ∧ cl ≤ C.2.2.2.1 + oC ∧ sl ≤ C.2.2.2.2.1 + oS ∧ eMc lc C.2.2.2.2.2.2 C.2.2.2.2.2.1 m ∧ 0 ≤ m ∧ m ≤ mx
theorem eCov_s {lw : Bool} {xs : Option (List Int32)} {md : eMd} {h0 hp : sH} {ρ : Nat → Int} {W : eW} {lv : eLv} {st : List eA} {lc : sL} {sc : List Value} {mx m0 : Int} {mu : Option eMu} {C : eCu} {cl sl clc slc oC oS : Nat}
    (h : eCov mx mu C lv st W cl sl = true) (hw : eWm lw xs md h0 ρ W hp) (hl : eLm W.1 ρ hp.length lv lc) (hk : eKm W.1 ρ hp.length st sc) (h1 : clc ≤ cl + oC) (h2 : slc ≤ sl + oS)
    (hmu : ∀ y, mu = some y → (∀ q ∈ y.1, q.1 < W.1) ∧ eSum ρ y.1 + y.2 = m0) : sc = [] ∧ ∃ m, eCuM mx md h0 oC oS C lc hp clc slc m ∧ (mu ≠ none → m < m0) := by
  unfold eCov at h
  split at h
  · refine ⟨eKm_n hk, ?_⟩
    obtain ⟨c1, h⟩ := eBif h
    obtain ⟨c2, h⟩ := eBif h
    obtain ⟨c3, h⟩ := eBif h
    obtain ⟨c4, h⟩ := eBif h
    split at h
    · next z hz =>
      obtain ⟨c5, h⟩ := eBif h
      obtain ⟨c6, h⟩ := eBif h
      obtain ⟨g1, g2⟩ := eMo_s hl hz
      have g3 := eUbLe_s hw.1 c5
      have g4 := eUbLe_s hw.1 c6
      rw [eSum_neg] at g3
      refine ⟨_, ⟨fun i f hf => ?_, eRq_s hw.1 hw.2.1 c2, hw.2.2.1, hw.2.2.2.1, hw.2.2.2.2, Nat.le_trans h1 (Nat.add_le_add_right (eBle c3) _), Nat.le_trans h2 (Nat.add_le_add_right (eBle c4) _), g2, by omega, by omega⟩, fun hne => ?_⟩
      · obtain ⟨a, e1, e2⟩ := eFs_s (L := 0) hw.1 c1 i f hf
        obtain ⟨v, e3, e4⟩ := hl i a e1
        exact ⟨v, e3, eFitC_s hw.1 e2 e4⟩
      · cases hmu9 : mu with
        | none => exact absurd hmu9 hne
        | some y =>
          rw [hmu9] at h
          obtain ⟨f1, f2⟩ := hmu y hmu9
          have g5 := eUbLe_s hw.1 h
          rw [eSum_ap, eSum_neg] at g5
          omega
    · cases h
  · cases h
theorem eCf_s {cs : List eCu} {pc : Nat} {C : eCu} (h : eCf cs pc = some C) : C ∈ cs ∧ C.1 = pc := by
  induction cs with
  | nil => cases h
  | cons B cs ih =>
    have h : (bif Nat.beq B.1 pc then some B else eCf cs pc) = some C := h
    cases h1 : Nat.beq B.1 pc with
    | true => rw [h1] at h; have h : some B = some C := h; cases h; exact ⟨List.mem_cons_self, eBeq h1⟩
    | false => rw [h1] at h; obtain ⟨g1, g2⟩ := ih h; exact ⟨List.mem_cons_of_mem _ g1, g2⟩
theorem eWm_f {xs xs' : Option (List Int32)} {lw : Bool} {md : eMd} {h0 hp : sH} {ρ : Nat → Int} {W : eW} (hf : lw = false) (h : eWm lw xs md h0 ρ W hp) : eWm lw xs' md h0 ρ W hp :=
  ⟨⟨h.1.1, h.1.2.1, h.1.2.2.1, fun e => by rw [hf] at e; cases e⟩, h.2⟩
theorem eWm_0 {xs xs' : Option (List Int32)} {lw : Bool} {md : eMd} {h0 hp : sH} {ρ : Nat → Int} {W : eW} (h : eWm lw xs md h0 ρ W hp) : eWm false xs' md h0 ρ W hp :=
  ⟨⟨h.1.1, h.1.2.1, h.1.2.2.1, fun e => by cases e⟩, h.2⟩
theorem eWm_1 {xs xs' : Option (List Int32)} {lw : Bool} {md : eMd} {h0 hp hp' : sH} {ρ ρ' : Nat → Int} {W W' : eW} (h : eWm lw xs md h0 ρ W hp) (hx : eEx W.1 ρ W'.1 ρ') (h' : eWm false xs' md h0 ρ' W' hp') : eWm lw xs md h0 ρ' W' hp' :=
  ⟨⟨h'.1.1, h'.1.2.1, h'.1.2.2.1, fun e => by
    obtain ⟨ys, a1, a2, a3, a4⟩ := h.1.2.2.2 e
    exact ⟨ys, a1, Nat.lt_of_lt_of_le a2 hx.1, by rw [hx.2 _ a2]; exact a3, by rw [hx.2 _ a2]; exact a4⟩⟩, h'.2⟩
set_option maxHeartbeats 4000000 in
theorem eRun_s {G : List eC} {mt : Nat → sM} {md : eMd} {mx : Int} {mu : Option eMu} {F : Nat} (hG : ∀ C ∈ G, eCo mt F C) : ∀ (fuel : Nat) (lw : Bool) (d : Nat) (M : sM) (cs : List eCu) (q : eQ) (cl sl : Nat) (k : eRs → eW → Bool) (xs : Option (List Int32)) (ρ : Nat → Int) (lc : sL) (sc : List Value) (hp : sH) (clc slc D Bc : Nat) (h0 : sH) (m0 : Int) (Q : sR → Prop) (Mc : sM) (oC oS : Nat),
    (mE Mc = mE M ∧ mL Mc = mL M ∧ mR Mc = mR M ∧ mT Mc = mT M ∧ oC + mC M ≤ mC Mc ∧ oS + mS M ≤ mS Mc) →
    eRun G mt md mx mu fuel lw d M cs q cl sl k = true → fuel ≤ F → d ≤ D → eWm lw xs md h0 ρ q.2.2.2 hp → eLm q.2.2.2.1 ρ hp.length q.2.1 lc → eKm q.2.2.2.1 ρ hp.length q.2.2.1 sc → clc ≤ cl + oC → slc ≤ sl + oS →
    (∀ y, mu = some y → (∀ z ∈ y.1, z.1 < q.2.2.2.1) ∧ eSum ρ y.1 + y.2 = m0) →
    (∀ (res : eRs) (W' : eW) (ρ' : Nat → Int) (h' : sH) (rc : Option Value ⊕ Nat), k res W' = true → eEx q.2.2.2.1 ρ W'.1 ρ' → eWm lw xs md h0 ρ' W' h' → hp.length ≤ h'.length → eRsM W'.1 ρ' h'.length res rc → Q (rc, h')) →
    (∀ (C : eCu) (lc' : sL) (h' : sH) (cl' sl' : Nat) (m : Int), C ∈ cs → eCuM mx md h0 oC oS C lc' h' cl' sl' m → (mu ≠ none → m < m0) → sWp mt (sGo1 mt F D) Mc xs Bc (C.1, lc', [], h', cl', sl') Q) →
    sWp mt (sGo1 mt F D) Mc xs (fuel + Bc) (q.1, lc, sc, hp, clc, slc) Q := by
  intro fuel
  induction fuel with
  | zero => intro lw d M cs q cl sl k xs ρ lc sc hp clc slc D Bc h0 m0 Q Mc oC oS hM h; cases h
  | succ fuel ih =>
    intro lw d M cs q cl sl k xs ρ lc sc hp clc slc D Bc h0 m0 Q Mc oC oS hM h hF hd hw hl hk hcl hsl hmu hQ hC
    have hF' : fuel ≤ F := Nat.le_of_succ_le hF
    obtain ⟨hME, hML, hMR, hMT, hMC, hMS⟩ := id hM
    rw [show fuel + 1 + Bc = (fuel + Bc) + 1 by omega]
    -- on from a next place
    have go : ∀ (z : eQ) (ρ' : Nat → Int) (lc' : sL) (sc' : List Value) (h' : sH) (cl' sl' clc' slc' : Nat), eRun G mt md mx mu fuel lw d M cs z cl' sl' k = true → eEx q.2.2.2.1 ρ z.2.2.2.1 ρ' → eWm lw xs md h0 ρ' z.2.2.2 h' → hp.length ≤ h'.length → eLm z.2.2.2.1 ρ' h'.length z.2.1 lc' → eKm z.2.2.2.1 ρ' h'.length z.2.2.1 sc' → clc' ≤ cl' + oC → slc' ≤ sl' + oS →
        sWp mt (sGo1 mt F D) Mc xs (fuel + Bc) (z.1, lc', sc', h', clc', slc') Q := fun z ρ' lc' sc' h' cl' sl' clc' slc' g1 g2 g3 g4 g5 g6 g7 g8 =>
      ih lw d M cs z cl' sl' k xs ρ' lc' sc' h' clc' slc' D Bc h0 m0 Q Mc oC oS hM g1 hF' hd g3 g5 g6 g7 g8
        (fun y hy => by
          obtain ⟨f1, f2⟩ := hmu y hy
          exact ⟨fun z hz => Nat.lt_of_lt_of_le (f1 z hz) g2.1, by rw [eSum_ex g2 f1]; exact f2⟩)
        (fun res W' ρ'' h'' rc f1 f2 f3 f4 f5 => hQ res W' ρ'' h'' rc f1 (eEx_tr g2 f2) f3 (Nat.le_trans g4 f4) f5) hC
    -- an exception of a call
    have exc : ∀ (E : Nat) (W1 : eW) (ρ' : Nat → Int) (h' : sH) (cl' sl' clc' slc' : Nat), (match mT Mc with
          | [] => k (.inr E) W1
          | t :: ts => (match sHd (mE Mc) E q.1 (t :: ts) with
            | some hq => bif Nat.ble 6 E then false else (match eHk (mE Mc) q.2.1 (mL Mc) hq with
              | some z => eRun G mt md mx mu fuel lw d M cs (z.1, z.2, [], W1) cl' sl' k
              | none => false)
            | none => false)) = true → eEx q.2.2.2.1 ρ W1.1 ρ' → eWm lw xs md h0 ρ' W1 h' → hp.length ≤ h'.length → clc' ≤ cl' + oC → slc' ≤ sl' + oS → ∀ rest : List Value, wK mt (sGo1 mt F D) Mc xs (fuel + Bc) q.1 lc rest clc' slc' Q (.inr E, h') := by
      intro E W1 ρ' h' cl' sl' clc' slc' g1 g2 g3 g4 g5 g6 rest
      unfold wK
      dsimp only
      split at g1
      · next hT => rw [hT]; exact hQ _ _ _ _ _ g1 g2 g3 g4 rfl
      · next t ts hT =>
        rw [hT]
        dsimp only
        split at g1
        · next hq hhq =>
          cases hE : Nat.ble 6 E with
          | true => rw [hE] at g1; cases g1
          | false =>
            rw [hE] at g1
            dsimp only [cond] at g1
            split at g1
            · next z hz =>
              obtain ⟨lc', e1, e2⟩ := eHk_s (hp := h') (cl := clc') (sl := slc') hz (eLm_ex g2 g4 hl)
              refine ⟨hq, _, hhq, ?_, e1, go (z.1, z.2, [], W1) ρ' lc' [] h' cl' sl' clc' slc' g1 g2 g3 g4 e2 True.intro g5 g6⟩
              exact Nat.lt_of_not_le fun e => by rw [Nat.ble_eq_true_of_le e] at hE; cases hE
            · cases g1
        · cases g1
    rw [eRun_e, ← hME, ← hML, ← hMR, ← hMT] at h
    split at h
    · cases h
    next e he =>
    split at h
    · next l hl9 =>
      -- locals and stack
      obtain ⟨z, hz, ρ', lc', sc', e1, e2, e3, e4, e5, e6⟩ := eP_s (L := hp.length) hl9 hw.1 hl hk
      have h3 := eAll_s h z hz
      have hw' : eWm lw xs md h0 ρ' z.2.2.2 hp := ⟨e2, by rw [e3]; exact eRm_ex e1 hw.2.1, hw.2.2⟩
      refine wp_step (sStep_P he e6) ?_
      dsimp only
      split at h3
      · obtain ⟨C, f1, h3⟩ := eAny_s h3
        obtain ⟨f2, h3⟩ := eBif h3
        have f2 := eBeq f2
        obtain ⟨rfl, m, f3, f4⟩ := eCov_s (m0 := m0) h3 hw' e4 e5 hcl hsl (fun y hy => by
          obtain ⟨f1, f2⟩ := hmu y hy
          exact ⟨fun z hz => Nat.lt_of_lt_of_le (f1 z hz) e1.1, by rw [eSum_ex e1 f1]; exact f2⟩)
        have := hC C lc' hp clc slc m f1 f3 f4
        rw [f2] at this
        exact wp_le (Nat.le_add_left _ _) this
      · exact go z ρ' lc' sc' hp cl sl clc slc h3 e1 hw' (Nat.le_refl _) e4 e5 hcl hsl
    next hP9 =>
    split at h
    · next z hz =>
      -- the heap
      obtain ⟨-, p2, ρ', lc', sc', h', e1, e2, e3, e4, e5, e6⟩ := eH_s hz hw hl hk
      refine wp_H he (p2 _) e6 ?_
      rw [← e3] at e4 e5
      exact go z ρ' lc' sc' h' cl sl clc slc h e1 e2 (by rw [e3]; exact Nat.le_refl _) e4 e5 hcl hsl
    next hH9 =>
    split at h
    · next v hv =>
      -- the end
      obtain ⟨vc, e1, e2, e3, e4⟩ := eRt_s (a1 := e.2.2.1) (a2 := e.2.2.2) (xs := xs) (hp := hp) (pc := q.1) (lc := lc) hv hw.1 hk
      exact wp_ret he (e3 _) e4 e1 (hQ _ _ _ _ _ h eEx_rf hw (Nat.le_refl _) e2)
    next hR9 =>
    obtain ⟨i, ln, a1, a2⟩ := e
    dsimp only at h hP9 hH9 hR9
    cases hth : Nat.ble 1000 a1 with
    | true =>
      rw [hth] at h
      dsimp only [cond] at h
      have h1000 := eBle hth
      split at h
      · -- a throw
        obtain ⟨c1, h⟩ := eBif h
        obtain ⟨c2, h⟩ := eBif h
        obtain ⟨c3, h⟩ := eBif h
        have c1 := eBle c1
        have c2 := eBle c2
        have c3 := eBle c3
        refine wp_throw he h1000 ⟨by omega, by omega, by rw [eSm1_s hk]; exact c3⟩ ?_
        exact hQ _ _ _ _ _ h eEx_rf hw (Nat.le_refl _) rfl
      · split at h
        · next r hr =>
          obtain ⟨c1, h⟩ := eBif h
          obtain ⟨x, s, e1, e2⟩ := eMath_s hr hk
          refine wp_math he h1000 e1 (by rw [eSm1_s e2]; exact eBle c1) ?_
          obtain ⟨ρ', g1, g2, g3⟩ := eWm_fr hw (i32_rng x).1 (i32_rng x).2
          exact go (q.1 + 3, q.2.1, .inl (eNv q.2.2.2) :: r, eFn q.2.2.2) ρ' lc _ hp cl sl clc slc h g1 g2 (Nat.le_refl _) (eLm_ex g1 (Nat.le_refl _) hl) ⟨⟨x, rfl, Nat.lt_succ_self _, g3⟩, eKm_ex g1 (Nat.le_refl _) e2⟩ hcl hsl
        · cases h
      · cases h
    | false =>
      rw [hth] at h
      dsimp only [cond] at h
      have hlt : ¬ 1000 ≤ a1 := fun e => by rw [Nat.ble_eq_true_of_le e] at hth; cases hth
      split at h
      · next as rest has =>
        -- a call
        obtain ⟨c1, h⟩ := eBif h
        obtain ⟨c2, h⟩ := eBif h
        obtain ⟨c3, h⟩ := eBif h
        obtain ⟨c4, h⟩ := eBif h
        obtain ⟨c5, h⟩ := eBif h
        have c1 := eBle c1
        have c2 := eBle c2
        have c3 := eBle c3
        have c4 := eBle c4
        have c5 := eBle c5
        obtain ⟨D', rfl⟩ : ∃ D', D = D' + 1 := ⟨D - 1, by omega⟩
        obtain ⟨ac, rc9, i1, i2, i3, i4, i5, i6⟩ := eIn0_s (pc := q.1) (lc := lc) (xs := xs) has hw.2.2.1 hk
        have hc9 : sCat rc9 ≤ 8 ∧ clc + mC (mt a1) ≤ mC Mc ∧ slc + mS (mt a1) ≤ mS Mc := ⟨by rw [eSm1_s i3]; exact c1, by omega, by omega⟩
        split at h
        · next C hC9 =>
          -- by contract
          obtain ⟨c6, h⟩ := eBif h
          obtain ⟨c7, h⟩ := eBif h
          obtain ⟨c8, h⟩ := eBif h
          obtain ⟨f1, f2, f3, f4⟩ := eFd_s hC9
          obtain ⟨r, h', g1, g2, g3, g4, g5, g6⟩ := hG C f1 (D' + 1) ac hp (Nat.le_trans (eBle c6) hd) hw.2.2.1 (eFits_s hw.1 f3 i2) (eRq_s hw.1 hw.2.1 f4)
          rw [f2] at g1
          have hw0 : eWm lw xs md h0 ρ (q.2.2.2.1, q.2.2.2.2.1, eKeep C.2.2.2.2.1 q.2.2.2.2.2) h' := ⟨hw.1, eKeep_s hw.2.1 hw.2.2.1 g2 g4, g2, eMod_tr hw.2.2.2.1 (eMod_md g4 c7), Nat.le_trans hw.2.2.2.2 g3⟩
          obtain ⟨ρ9, x9, hw1⟩ := eMq_s hw0 g6
          have x9 : eEx q.2.2.2.1 ρ (eMq C.2.2.2.2.2.2.2 (q.2.2.2.1, q.2.2.2.2.1, eKeep C.2.2.2.2.1 q.2.2.2.2.2)).1 ρ9 := x9
          generalize hW9 : eMq C.2.2.2.2.2.2.2 (q.2.2.2.1, q.2.2.2.2.1, eKeep C.2.2.2.2.1 q.2.2.2.2.2) = W9 at hw1 x9 h c8
          refine wp_tld he hlt (i4 _) i5 (i6 _) i1 hc9 g1 ?_
          cases r with
          | inr E =>
            have h5 := eAll_s h E g5
            exact exc E W9 ρ9 h' _ _ _ _ h5 x9 hw1 g3 (by omega) (by omega) rc9
          | inl v =>
            unfold eRes at g5
            dsimp only at g5
            split at c8
            · next hn =>
              rw [hn] at g5
              cases v with
              | some x => exact False.elim g5
              | none => exact go (q.1 + 3, q.2.1, rest, W9) ρ9 lc rc9 h' _ _ _ _ c8 x9 hw1 g3 (eLm_ex x9 g3 hl) (eKm_ex x9 g3 i3) (by omega) (by omega)
            · next f hf9 =>
              rw [hf9] at g5
              cases v with
              | none => exact False.elim g5
              | some x =>
                dsimp only at g5 c8
                cases f with
                | inl b =>
                  obtain ⟨y, rfl, y1, y2⟩ := g5
                  obtain ⟨ρ', k1, k2, k3⟩ := eWm_fr hw1 y1 y2
                  exact go (q.1 + 3, q.2.1, .inl (eNv W9) :: rest, eFr W9 b.1 b.2) ρ' lc (.int y :: rc9) h' _ _ _ _ c8 (eEx_tr x9 k1) k2 g3 (eLm_ex (eEx_tr x9 k1) g3 hl) ⟨⟨y, rfl, Nat.lt_succ_self _, k3⟩, eKm_ex (eEx_tr x9 k1) g3 i3⟩ (by omega) (by omega)
                | inr o => exact go (q.1 + 3, q.2.1, .inr o :: rest, W9) ρ9 lc (x :: rc9) h' _ _ _ _ c8 x9 hw1 g3 (eLm_ex x9 g3 hl) ⟨eOm_L (Nat.zero_le _) g5, eKm_ex x9 g3 i3⟩ (by omega) (by omega)
        · -- walked
          refine wp_inv he hlt (i4 _) i5 (i6 _) i1 hc9 (by rw [eSm1_s i2]; exact c4) ?_
          refine wp_le (B := fuel + 0) (by omega) ?_
          refine ih false (d - 1) (mt a1) [] (0, ePd (mL (mt a1)) (eAg as), [], q.2.2.2) 0 0 _ none ρ (lv_args 0 ac) [] hp 0 0 D' 0 h0 m0 _ (mt a1) 0 0 ⟨rfl, rfl, rfl, rfl, by omega, by omega⟩ h hF' (by omega) (eWm_0 hw) (eArgs_s i2) True.intro (Nat.le_refl _) (Nat.le_refl _) hmu ?_ (fun C _ _ _ _ _ hm => nomatch hm)
          intro res W' ρ' h' rc f1 f2 f3 f4 f5
          have f3 : eWm lw xs md h0 ρ' W' h' := eWm_1 hw f2 f3
          cases res with
          | inl v =>
            cases rc with
            | inr E => exact False.elim f5
            | inl vc =>
              dsimp only at f1
              have f5 : eOv W'.1 ρ' h'.length v vc := f5
              cases v with
              | none =>
                cases vc with
                | some x => exact False.elim f5
                | none => exact go (q.1 + 3, q.2.1, rest, W') ρ' lc rc9 h' _ _ _ _ f1 f2 f3 f4 (eLm_ex f2 f4 hl) (eKm_ex f2 f4 i3) (by omega) (by omega)
              | some a =>
                cases vc with
                | none => exact False.elim f5
                | some x => exact go (q.1 + 3, q.2.1, a :: rest, W') ρ' lc (x :: rc9) h' _ _ _ _ f1 f2 f3 f4 (eLm_ex f2 f4 hl) ⟨f5, eKm_ex f2 f4 i3⟩ (by omega) (by omega)
          | inr E =>
            cases rc with
            | inl vc => exact False.elim f5
            | inr E' =>
              have f5 : E = E' := f5
              subst f5
              exact exc E W' ρ' h' _ _ _ _ f1 f2 f3 f4 (by omega) (by omega) rc9
      · next hIn =>
        -- an array is made
        split at h
        · next t =>
          split at h
          · next u r hu =>
            obtain ⟨c1, h⟩ := eBif h
            obtain ⟨c2, h⟩ := eBif h
            obtain ⟨c3, h⟩ := eBif h
            have c2 := eBle c2
            have c3 := eBle c3
            rw [hu] at hk
            obtain ⟨v1, s1, e9, k9⟩ := eKm_c hk; clear hk; subst e9; obtain ⟨⟨x, rfl, t1, t2⟩, hk⟩ := k9
            have c4 := eBt_s hw.1 c1
            have hx : x = 6 := Int32.toInt_inj.mp (by have h6 : (6 : Int32).toInt = 6 := rfl; omega)
            subst hx
            have gb : eGb (.inl (0, List.replicate 6 (sDv 0))) := ⟨_, rfl, rfl, fun v hv => ⟨0, (List.mem_replicate.mp hv).2⟩⟩
            have ha : sAl (mC Mc) (mS Mc) (.newarray .int) a1 q.1 lc (.int 6 :: s1) hp clc slc = some (q.1 + 2, lc, .ref hp.length :: s1, hp ++ [.inl (0, List.replicate 6 (sDv 0))], clc + 1, slc + 6) := by
              unfold sAl; dsimp only
              exact if_pos ⟨by decide, by decide, by decide, by omega, by show slc + 6 ≤ _; omega⟩
            refine wp_al he rfl rfl rfl hlt rfl ha ?_
            have hlen : (hp ++ [(.inl (0, List.replicate 6 (sDv 0)) : sC)]).length = hp.length + 1 := by rw [List.length_append]; rfl
            have hle : hp.length ≤ (hp ++ [(.inl (0, List.replicate 6 (sDv 0)) : sC)]).length := by rw [hlen]; exact Nat.le_succ _
            refine go (q.1 + 2, q.2.1, eK 8 :: r, q.2.2.2) ρ lc (.ref hp.length :: s1) _ (cl + 1) (sl + 6) _ _ h eEx_rf ⟨hw.1, ?_, eInv_ap hw.2.2.1 gb, ?_, Nat.le_trans hw.2.2.2.2 hle⟩ hle (eLm_ex eEx_rf hle hl) ⟨Or.inr ⟨rfl, hw.2.2.1.1, by rw [hlen]; exact Nat.lt_succ_self _⟩, eKm_ex eEx_rf hle hk⟩ (by omega) (by omega)
            · intro y hy
              obtain ⟨x, g0, g1, g2, g3⟩ := hw.2.1 y hy
              exact ⟨x, g0, by rw [eGet_ap (Nat.lt_of_lt_of_le g0 hw.2.2.1.1)]; exact g1, g2, g3⟩
            · intro b j hb hj
              rw [← hw.2.2.2.1 b j hb hj]
              exact eGet_ap (Nat.lt_of_lt_of_le hb hw.2.2.1.1)
          · cases h
        · cases h
