/-! 33a: the law's loop, what holds at its beginning -/
def eLwS : List (Option eF) := [some (.inr (.inr 9)), some (eRr 0 0), some (eRr 85 85), some (eRr 117 117), some (eRr 118 118), some (.inl (0, 2560)), none, none, none]
def eRqc (c : Int) : List ((Nat × Nat) × Int × Int) := [((85, 31), c, c), ((85, 34), 0, c)]
def eRq0 : List ((Nat × Nat) × Int × Int) := [((85, 31), 3, 6), ((85, 34), 0, 3)]
def eCuL (rq : List ((Nat × Nat) × Int × Int)) : eCu := (28, eLwS, rq, 100, 1000, [(5, -1)], 2560)
def eCsL : List eCu := [eCuL (eRqc 3), eCuL (eRqc 4), eCuL (eRqc 5), eCuL (eRqc 6), eCuL eRq0]
def eLv0 : eLv := [some (eK 9), some (.inr (.inl (0, 0))), some (.inr (.inl (85, 85))), some (.inr (.inl (117, 117))), some (.inr (.inl (118, 118))), some (.inl (1, 0)), none, none, none]
def mLw : sM := (yL_law, code, 9, some .boolean, 1, 100, 1000, [], xL_law)
def eWl0 : eW := (2, ([(1, 0, 2555), (0, 0, 0)], []), [])
noncomputable def eSeg (G : List eC) (md : eMd) (T : Nat) : Bool := eAll (fun c => eRun G mtv md 2560 (some ([(1, -1)], 2560)) 1000 true 29 mLw eCsL (T, eLv0, [], eMq (eRqc c) eWl0) 0 0 (fun _ _ => false)) [3, 4, 5, 6]
def eLaw (i : Int32) (lc : sL) : Prop := (∃ b, sLk 0 lc = some (.retAddr b)) ∧ sLk 1 lc = some (.ref 0) ∧ sLk 2 lc = some (.ref 85) ∧ sLk 3 lc = some (.ref 117) ∧ sLk 4 lc = some (.ref 118) ∧ sLk 5 lc = some (.int i)
def eLI (R : sH → Prop) (h : sH) : Prop := eInv h ∧ eSz h ∧ R h
theorem eSz_c {h : sH} (hI : eInv h) (hz : eSz h) : ∃ c ∈ ([3, 4, 5, 6] : List Int), eRqm (eRqc c) h := by
  obtain ⟨x, y, h2, h3, h4⟩ := hz
  obtain ⟨-, -, vs', e85, -, hv⟩ := eInv_o (q := (85, 85)) (c := 9) (a := 85) hI rfl (Nat.le_refl _) (Nat.le_refl _)
  have k2 := h2
  have k3 := h3
  rw [eGet_c e85] at h2 h3
  obtain ⟨v, g1, u, rfl, g2, g3⟩ := hv 31 (.inl (3, 6)) rfl
  rw [show (eVs (.inr (9, vs')))[31]? = vs'[31]? from rfl, g1] at h3
  cases h3
  obtain ⟨v, g4, w, rfl, g5, g6⟩ := hv 34 (.inl (0, 6)) rfl
  rw [show (eVs (.inr (9, vs')))[34]? = vs'[34]? from rfl, g4] at h2
  cases h2
  dsimp only at g2 g3 g5 g6
  refine ⟨y.toInt, ?_, fun z hz => ?_⟩
  · rcases (show y.toInt = 3 ∨ y.toInt = 4 ∨ y.toInt = 5 ∨ y.toInt = 6 by omega) with e | e | e | e <;> rw [e] <;> decide
  · have hz : z ∈ [((85, 31), y.toInt, y.toInt), ((85, 34), 0, y.toInt)] := hz
    cases hz with
    | head => exact ⟨y, (show 85 < 119 by decide), k3, Int.le_refl _, Int.le_refl _⟩
    | tail _ hz =>
      rw [List.mem_singleton.mp hz]
      exact ⟨x, (show 85 < 119 by decide), k2, g5, h4⟩
theorem eRefL {L a : Nat} {v : Value} (h : eFm L (eRr a a) v) : v = .ref a := by
  obtain ⟨j, rfl, h1, h2⟩ := eRe_s (a := a) (b := a) h
  rw [Nat.le_antisymm h2 h1]
theorem eRqc_sz {h : sH} {a b c d : Int} (hd : d ≤ a) (hq : eRqm [((85, 31), a, b), ((85, 34), c, d)] h) : eSz h := by
  obtain ⟨y, h1, h2, h3, h4⟩ := hq ((85, 31), a, b) List.mem_cons_self
  obtain ⟨x, g1, g2, g3, g4⟩ := hq ((85, 34), c, d) (List.mem_cons_of_mem _ List.mem_cons_self)
  dsimp only at h1 h2 h3 h4 g1 g2 g3 g4
  exact ⟨x, y, g2, h2, by omega⟩
set_option maxHeartbeats 4000000 in
theorem eSeg_s {G : List eC} {md : eMd} {T : Nat} {ys : List Int32} {R : sH → Prop} {i : Int32} {lc : sL} {h : sH} {cl sl B : Nat} {Q : sR → Prop} (hseg : eSeg G md T = true) (hG : ∀ C ∈ G, eCo mtv eFu C) (hR : ∀ h', eMod md h h' → R h → R h')
    (hls : eLaw i lc) (hi : 0 ≤ i.toInt) (hi4 : i.toInt + 4 < ys.length) (hL : ys.length ≤ 2560) (hI : eLI R h) (hcl : cl + 100 ≤ mC mL_law) (hsl : sl + 1000 ≤ mS mL_law)
    (next : ∀ (i' : Int32) (lc' : sL) (h' : sH) (cl' sl' : Nat), eLaw i' lc' → i.toInt < i'.toInt → i'.toInt ≤ 2560 → eLI R h' → cl' ≤ cl + 100 → sl' ≤ sl + 1000 → sWp mtv (sGo1 mtv eFu 30) mL_law (some ys) B (28, lc', [], h', cl', sl') Q) :
    sWp mtv (sGo1 mtv eFu 30) mL_law (some ys) (1000 + B) (T, lc, [], h, cl, sl) Q := by
  obtain ⟨c, hc, hrq⟩ := eSz_c hI.1 hI.2.1
  have hrun := eAll_s hseg c hc
  have hw0 : eWm true (some ys) md h (fun k => if k = 1 then i.toInt else 0) eWl0 h := by
    refine ⟨⟨by decide, rfl, ⟨fun q hq => ?_, fun _ h => nomatch h⟩, fun _ => ⟨ys, rfl, by decide, ?_, ?_⟩⟩, fun _ h => (nomatch h), hI.1, eMod_rf, Nat.le_refl _⟩
    · have hq : q ∈ [(1, 0, 2555), (0, 0, 0)] := hq
      cases hq with
      | head => exact ⟨by decide, by show (0 : Int) ≤ (if (1 : Nat) = 1 then i.toInt else 0); rw [if_pos rfl]; exact hi, by show (if (1 : Nat) = 1 then i.toInt else 0) ≤ 2555; rw [if_pos rfl]; omega⟩
      | tail _ hq =>
        rw [List.mem_singleton.mp hq]
        exact ⟨by decide, Int.le_refl _, Int.le_refl _⟩
    · show (0 : Int) ≤ (if (1 : Nat) = 1 then i.toInt else 0); rw [if_pos rfl]; exact hi
    · show (if (1 : Nat) = 1 then i.toInt else 0) + 4 < (ys.length : Int); rw [if_pos rfl]; exact hi4
  obtain ⟨ρ, hx, hw⟩ := eMq_s hw0 hrq
  have r1 : ρ 1 = i.toInt := by
    rw [hx.2 1 (by decide)]
    exact if_pos rfl
  have n1 : 1 < (eMq (eRqc c) eWl0).1 := Nat.lt_of_lt_of_le (by decide) hx.1
  obtain ⟨⟨b0, k0⟩, k1, k2, k3, k4, k5⟩ := hls
  have hl : eLm (eMq (eRqc c) eWl0).1 ρ h.length eLv0 lc := by
    intro j a hj
    rcases (show j = 0 ∨ j = 1 ∨ j = 2 ∨ j = 3 ∨ j = 4 ∨ j = 5 ∨ 6 ≤ j by omega) with rfl | rfl | rfl | rfl | rfl | rfl | hj6
    · cases hj; exact ⟨_, k0, rfl⟩
    · cases hj; exact ⟨_, k1, Or.inl ⟨0, 0, rfl, Nat.le_refl _, Nat.le_refl _⟩⟩
    · cases hj; exact ⟨_, k2, Or.inl ⟨85, 85, rfl, Nat.le_refl _, Nat.le_refl _⟩⟩
    · cases hj; exact ⟨_, k3, Or.inl ⟨117, 117, rfl, Nat.le_refl _, Nat.le_refl _⟩⟩
    · cases hj; exact ⟨_, k4, Or.inl ⟨118, 118, rfl, Nat.le_refl _, Nat.le_refl _⟩⟩
    · cases hj; exact ⟨_, k5, i, rfl, n1, by show ρ 1 + 0 = _; rw [r1]; exact Int.add_zero _⟩
    · exfalso
      rcases (show j = 6 ∨ j = 7 ∨ j = 8 ∨ 9 ≤ j by omega) with rfl | rfl | rfl | hj9
      · cases hj
      · cases hj
      · cases hj
      · have : eLv0[j]? = none := List.getElem?_eq_none (by show 9 ≤ j; exact hj9)
        rw [this] at hj; cases hj
  refine eRun_s (mx := 2560) (mu := some ([(1, -1)], 2560)) (Bc := B) (h0 := h) (m0 := 2560 - i.toInt) (Q := Q) hG 1000 true 29 mLw eCsL (T, eLv0, [], eMq (eRqc c) eWl0) 0 0 (fun _ _ => false) (some ys) ρ lc [] h cl sl (D := 30) (Mc := mL_law) (oC := cl) (oS := sl) ⟨rfl, rfl, rfl, rfl, hcl, hsl⟩ hrun (Nat.le_of_ble_eq_true rfl) (by decide) hw hl True.intro (by omega) (by omega) ?_ ?_ ?_
  · intro y hy
    cases hy
    refine ⟨fun z hz => ?_, ?_⟩
    · rw [List.mem_singleton.mp hz]; exact n1
    · show -1 * ρ 1 + 0 + 2560 = _
      rw [r1]; omega
  · intro res W' ρ' h' rc hf
    cases hf
  · intro C lc' h' cl' sl' m hC hm hlt
    have hlt := hlt (fun e => by cases e)
    obtain ⟨m1, m2, m3, m4, m5, m6, m7, m8, m9, m10⟩ := hm
    have hCe : C.1 = 28 ∧ C.2.1 = eLwS ∧ C.2.2.2.1 = 100 ∧ C.2.2.2.2.1 = 1000 ∧ C.2.2.2.2.2.1 = [(5, -1)] ∧ C.2.2.2.2.2.2 = 2560 ∧ eSz h' := by
      have hC : C ∈ [eCuL (eRqc 3), eCuL (eRqc 4), eCuL (eRqc 5), eCuL (eRqc 6), eCuL eRq0] := hC
      simp only [List.mem_cons, List.not_mem_nil, or_false] at hC
      rcases hC with rfl | rfl | rfl | rfl | rfl
      · exact ⟨rfl, rfl, rfl, rfl, rfl, rfl, eRqc_sz (a := 3) (b := 3) (c := 0) (d := 3) (Int.le_refl _) m2⟩
      · exact ⟨rfl, rfl, rfl, rfl, rfl, rfl, eRqc_sz (a := 4) (b := 4) (c := 0) (d := 4) (Int.le_refl _) m2⟩
      · exact ⟨rfl, rfl, rfl, rfl, rfl, rfl, eRqc_sz (a := 5) (b := 5) (c := 0) (d := 5) (Int.le_refl _) m2⟩
      · exact ⟨rfl, rfl, rfl, rfl, rfl, rfl, eRqc_sz (a := 6) (b := 6) (c := 0) (d := 6) (Int.le_refl _) m2⟩
      · exact ⟨rfl, rfl, rfl, rfl, rfl, rfl, eRqc_sz (a := 3) (b := 6) (c := 0) (d := 3) (Int.le_refl _) m2⟩
    obtain ⟨c1, c2, c3, c4, c5, c6, c7⟩ := hCe
    rw [c2] at m1
    rw [c5, c6] at m8
    rw [c3] at m6
    rw [c4] at m7
    rw [c1]
    obtain ⟨x, m', s1, s2, s3⟩ := m8
    have s2 : m' = 2560 := s2
    dsimp only at s1 s3
    obtain ⟨v0, a0, f0⟩ := m1 0 _ rfl
    obtain ⟨v1, a1, f1⟩ := m1 1 _ rfl
    obtain ⟨v2, a2, f2⟩ := m1 2 _ rfl
    obtain ⟨v3, a3, f3⟩ := m1 3 _ rfl
    obtain ⟨v4, a4, f4⟩ := m1 4 _ rfl
    obtain rfl := eRefL f1
    obtain rfl := eRefL f2
    obtain rfl := eRefL f3
    obtain rfl := eRefL f4
    have g0 : ∃ b, v0 = .retAddr b := by
      rcases eRf_s (k := 9) f0 (by decide) (Nat.le_refl _) with ⟨e, -⟩ | ⟨-, j, e⟩
      · cases e
      · exact ⟨j, e⟩
    obtain ⟨b, rfl⟩ := g0
    have e9 : -1 * x.toInt = - x.toInt := by omega
    have s3 : m = m' + -1 * x.toInt := s3
    exact next x lc' h' cl' sl' ⟨⟨b, a0⟩, a1, a2, a3, a4, s1⟩ (by omega) (by omega) ⟨m3, c7, hR h' m4 hI.2.2⟩ (by omega) (by omega)
