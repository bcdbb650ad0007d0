/-! 31i: the check of a contract, and what it gives -/
noncomputable def eMk (fs : List eF) : eW → eW × List eA := List.rec (motive := fun _ => eW → eW × List eA) (fun W => (W, [])) (fun f _ ih W => match eOf W f with
  | (W1, a) => (match ih W1 with
    | (W2, as) => (W2, a :: as))) fs
noncomputable def eMl (fs : List (Option eF)) : eW → eW × eLv := List.rec (motive := fun _ => eW → eW × eLv) (fun W => (W, [])) (fun f _ ih W => match f with
  | none => (match ih W with
    | (W2, as) => (W2, none :: as))
  | some g => (match eOf W g with
    | (W1, a) => (match ih W1 with
      | (W2, as) => (W2, some a :: as)))) fs
def eW0 : eW := (1, ([(0, 0, 0)], []), [])
noncomputable def ePost (C : eC) (res : eRs) (W : eW) : Bool := match res with
  | .inl v => (match C.2.2.2.2.2.1, v with
    | none, none => true
    | some f, some a => eFit W f a
    | _, _ => false)
  | .inr E => eAny (fun z => Nat.beq z E) C.2.2.2.2.2.2.1
noncomputable def eChk (G : List eC) (mt : Nat → sM) (C : eC) (cs : List eCu) (mx : Int) (fuel : Nat) (X : eW → Bool) : Bool :=
  bif Nat.ble 1 C.2.1 then (match eMk C.2.2.1 (eMq C.2.2.2.1 eW0) with
    | (W, as) => bif Nat.ble (eSm1 as) (mL (mt C.1)) then (bif eRun G mt C.2.2.2.2.1 mx none fuel false (C.2.1 - 1) (mt C.1) cs (0, ePd (mL (mt C.1)) (eAg as), [], W) 0 0 (fun res W => bif ePost C res W then (bif eRq W C.2.2.2.2.2.2.2 then X W else false) else false) then
        eAll (fun U => match eMl U.2.1 (eMq U.2.2.1 eW0) with
          | (W1, lv) => (match eMo lv U.2.2.2.2.2.1 U.2.2.2.2.2.2 with
            | some y => eRun G mt C.2.2.2.2.1 mx (some y) fuel false (C.2.1 - 1) (mt C.1) cs (U.1, lv, [], W1) U.2.2.2.1 U.2.2.2.2.1 (fun res W => bif ePost C res W then (bif eRq W C.2.2.2.2.2.2.2 then X W else false) else false)
            | none => false)) cs else false) else false) else false
section EK
variable {lw : Bool} {xs : Option (List Int32)} {md : eMd} {h0 hp : sH}
theorem eMk_s : ∀ {fs : List eF} {vs : List Value} {W : eW} {ρ : Nat → Int}, eWm lw xs md h0 ρ W hp → eAm 0 fs vs → ∃ ρ', eEx W.1 ρ (eMk fs W).1.1 ρ' ∧ eWm lw xs md h0 ρ' (eMk fs W).1 hp ∧ eKm (eMk fs W).1.1 ρ' hp.length (eMk fs W).2 vs
  | [], [], W, ρ, hw, _ => ⟨ρ, eEx_rf, hw, True.intro⟩
  | [], _ :: _, _, _, _, h => False.elim h
  | _ :: _, [], _, _, _, h => False.elim h
  | .inr o :: fs, v :: vs, W, ρ, hw, h => by
    obtain ⟨ρ', g1, g2, g3⟩ := eMk_s (fs := fs) hw h.2
    exact ⟨ρ', g1, g2, eOm_L (Nat.zero_le _) h.1, g3⟩
  | .inl b :: fs, v :: vs, W, ρ, hw, h => by
    obtain ⟨⟨x, rfl, h1, h2⟩, h3⟩ := h
    obtain ⟨ρ1, f1, f2, f3⟩ := eWm_fr hw h1 h2
    obtain ⟨ρ', g1, g2, g3⟩ := eMk_s (fs := fs) f2 h3
    exact ⟨ρ', eEx_tr f1 g1, g2, eVm_ex g1 (Nat.le_refl _) ⟨x, rfl, Nat.lt_succ_self _, f3⟩, g3⟩
theorem eMl_s : ∀ {fs : List (Option eF)} {W : eW} {ρ : Nat → Int} (lc : sL) (i : Nat), eWm lw xs md h0 ρ W hp → (∀ (j : Nat) (f : eF), fs[j]? = some (some f) → ∃ v, sLk (i + j) lc = some v ∧ eFm hp.length f v) → ∃ ρ', eEx W.1 ρ (eMl fs W).1.1 ρ' ∧ eWm lw xs md h0 ρ' (eMl fs W).1 hp ∧ ∀ (j : Nat) (a : eA), (eMl fs W).2[j]? = some (some a) → ∃ v, sLk (i + j) lc = some v ∧ eVm (eMl fs W).1.1 ρ' hp.length a v
  | [], W, ρ, lc, i, hw, _ => ⟨ρ, eEx_rf, hw, fun j a h => by cases j <;> cases h⟩
  | none :: fs, W, ρ, lc, i, hw, h => by
    obtain ⟨ρ', g1, g2, g3⟩ := eMl_s (fs := fs) lc (i + 1) hw (fun j f hj => by
      have := h (j + 1) f hj
      rwa [show i + (j + 1) = i + 1 + j by omega] at this)
    refine ⟨ρ', g1, g2, fun j a hj => ?_⟩
    cases j with
    | zero => cases hj
    | succ j =>
      have := g3 j a hj
      rwa [show i + 1 + j = i + (j + 1) by omega] at this
  | some (.inr o) :: fs, W, ρ, lc, i, hw, h => by
    obtain ⟨ρ', g1, g2, g3⟩ := eMl_s (fs := fs) lc (i + 1) hw (fun j f hj => by
      have := h (j + 1) f hj
      rwa [show i + (j + 1) = i + 1 + j by omega] at this)
    refine ⟨ρ', g1, g2, fun j a hj => ?_⟩
    cases j with
    | zero =>
      cases hj
      obtain ⟨v, e1, e2⟩ := h 0 _ rfl
      exact ⟨v, e1, e2⟩
    | succ j =>
      have := g3 j a hj
      rwa [show i + 1 + j = i + (j + 1) by omega] at this
  | some (.inl b) :: fs, W, ρ, lc, i, hw, h => by
    obtain ⟨v, e1, x, rfl, h1, h2⟩ := h 0 _ rfl
    obtain ⟨ρ1, f1, f2, f3⟩ := eWm_fr hw h1 h2
    obtain ⟨ρ', g1, g2, g3⟩ := eMl_s (fs := fs) lc (i + 1) f2 (fun j f hj => by
      have := h (j + 1) f hj
      rwa [show i + (j + 1) = i + 1 + j by omega] at this)
    refine ⟨ρ', eEx_tr f1 g1, g2, fun j a hj => ?_⟩
    cases j with
    | zero =>
      cases hj
      exact ⟨_, e1, eVm_ex g1 (Nat.le_refl _) ⟨x, rfl, Nat.lt_succ_self _, f3⟩⟩
    | succ j =>
      have := g3 j a hj
      rwa [show i + 1 + j = i + (j + 1) by omega] at this
theorem eMc_u {lc : sL} {K : Int} : ∀ {l : List (Nat × Int)} {a b : Int}, eMc lc K l a → eMc lc K l b → a = b
  | [], a, b, h1, h2 => h1.trans h2.symm
  | q :: l, a, b, ⟨x, m, e1, e2, e3⟩, ⟨y, n, f1, f2, f3⟩ => by
    rw [e1] at f1
    cases f1
    rw [e3, f3, eMc_u e2 f2]
theorem eW0_s (hI : eInv hp) (hx : lw = false) : eWm lw xs md hp (fun _ => 0) eW0 hp :=
  ⟨⟨Nat.zero_lt_one, rfl, ⟨fun q hq => by rw [List.mem_singleton.mp hq]; exact ⟨Nat.zero_lt_one, Int.le_refl _, Int.le_refl _⟩, fun _ h => nomatch h⟩, fun e => by rw [hx] at e; cases e⟩, fun _ h => (nomatch h), hI, eMod_rf, Nat.le_refl _⟩
theorem ePost_s {C : eC} {res : eRs} {W : eW} {ρ : Nat → Int} {h' : sH} {rc : Option Value ⊕ Nat} (h : ePost C res W = true) (hN : eNm lw xs ρ W) (hr : eRsM W.1 ρ h'.length res rc) : eRes C.2.2.2.2.2.1 C.2.2.2.2.2.2.1 rc := by
  unfold ePost at h
  unfold eRsM at hr
  unfold eRes
  cases res with
  | inl v =>
    cases rc with
    | inr E => exact False.elim hr
    | inl vc =>
      dsimp only at h hr ⊢
      unfold eOv at hr
      cases hC : C.2.2.2.2.2.1 with
      | none =>
        rw [hC] at h
        cases v with
        | some a => cases h
        | none =>
          cases vc with
          | some x => exact False.elim hr
          | none => exact True.intro
      | some f =>
        rw [hC] at h
        cases v with
        | none => cases h
        | some a =>
          cases vc with
          | none => exact False.elim hr
          | some x => exact eFit_s hN h hr
  | inr E =>
    cases rc with
    | inl vc => exact False.elim hr
    | inr F =>
      have hr : E = F := hr
      subst hr
      obtain ⟨z, h1, h2⟩ := eAny_s h
      dsimp only
      rw [← eBeq h2]
      exact h1
end EK
/-- a contract of which the end says P besides -/
def eCoP (mt : Nat → sM) (F : Nat) (C : eC) (P : sH → Prop) : Prop := ∀ (D : Nat) (as : List Value) (h : sH), C.2.1 ≤ D → eInv h → eAm 0 C.2.2.1 as → eRqm C.2.2.2.1 h →
  ∃ r h', sGo1 mt F D C.1 as h = some (r, h') ∧ eInv h' ∧ h.length ≤ h'.length ∧ eMod C.2.2.2.2.1 h h' ∧ eRes C.2.2.2.2.2.1 C.2.2.2.2.2.2.1 r ∧ eRqm C.2.2.2.2.2.2.2 h' ∧ P h'
theorem eChkP_s {G : List eC} {mt : Nat → sM} {C : eC} {cs : List eCu} {mx fuel F : Nat} {X : eW → Bool} {P : sH → Prop} (hX : ∀ (md : eMd) (h0 h' : sH) (ρ : Nat → Int) (W : eW), eWm false none md h0 ρ W h' → X W = true → P h') (hG : ∀ B ∈ G, eCo mt F B) (h : eChk G mt C cs (Int.ofNat mx) fuel X = true) (hF : (mx + 2) * fuel ≤ F) : eCoP mt F C P := by
  intro D as hp hD hI hA hQ
  unfold eChk at h
  obtain ⟨c1, h⟩ := eBif h
  have c1 := eBle c1
  obtain ⟨D', rfl⟩ : ∃ D', D = D' + 1 := ⟨D - 1, by omega⟩
  have hF1 : fuel ≤ F := Nat.le_trans (by rw [Nat.add_mul]; omega) hF
  obtain ⟨ρ1, a1, a2⟩ := eMq_s (eW0_s (xs := none) (md := C.2.2.2.2.1) hI rfl) hQ
  obtain ⟨ρ2, b1, b2, b3⟩ := eMk_s a2 hA
  split at h
  next W avs hW =>
  rw [hW] at b1 b2 b3
  dsimp only at b1 b2 b3
  obtain ⟨c2, h⟩ := eBif h
  obtain ⟨c3, c4⟩ := eBif h
  have c2 := eBle c2
  -- what is shown of the end
  let Q : sR → Prop := fun r => eInv r.2 ∧ hp.length ≤ r.2.length ∧ eMod C.2.2.2.2.1 hp r.2 ∧ eRes C.2.2.2.2.2.1 C.2.2.2.2.2.2.1 r.1 ∧ eRqm C.2.2.2.2.2.2.2 r.2 ∧ P r.2
  have hQ9 : ∀ (W0 : eW) (ρ0 : Nat → Int) (h1 : sH) (res : eRs) (W' : eW) (ρ' : Nat → Int) (h' : sH) (rc : Option Value ⊕ Nat), (fun res W => bif ePost C res W then (bif eRq W C.2.2.2.2.2.2.2 then X W else false) else false) res W' = true → eEx W0.1 ρ0 W'.1 ρ' → eWm false none C.2.2.2.2.1 hp ρ' W' h' → h1.length ≤ h'.length → eRsM W'.1 ρ' h'.length res rc → Q (rc, h') := fun W0 ρ0 h1 res W' ρ' h' rc k1 k2 k3 k4 k5 =>
    ⟨k3.2.2.1, k3.2.2.2.2, k3.2.2.2.1, ePost_s (eBif k1).1 k3.1 k5, eRq_s k3.1 k3.2.1 (eBif (eBif k1).2).1, hX _ _ _ _ _ k3 (eBif (eBif k1).2).2⟩
  have loop : ∀ (n : Nat) (U : eCu) (lc : sL) (h' : sH) (cl sl : Nat), U ∈ cs → eCuM (Int.ofNat mx) C.2.2.2.2.1 hp 0 0 U lc h' cl sl (n : Int) → sWp mt (sGo1 mt F D') (mt C.1) none ((n + 1) * fuel) (U.1, lc, [], h', cl, sl) Q := by
    intro n
    induction n using Nat.strongRecOn with
    | _ n ih =>
      intro U lc h' cl sl hU hm
      obtain ⟨m1, m2, m3, m4, m5, m6, m7, m8, m9, m10⟩ := hm
      have h5 := eAll_s c4 U hU
      have hw0 : eWm false none C.2.2.2.2.1 hp (fun _ => 0) eW0 h' := ⟨(eW0_s (xs := none) (md := C.2.2.2.2.1) m3 rfl).1, fun _ h => (nomatch h), m3, m4, m5⟩
      obtain ⟨ρ3, d1, d2⟩ := eMq_s hw0 m2
      obtain ⟨ρ4, e1, e2, e3⟩ := eMl_s lc 0 d2 (fun j f hj => by rw [Nat.zero_add]; exact m1 j f hj)
      split at h5
      next W1 lv hW1 =>
      rw [hW1] at e1 e2 e3
      dsimp only at e1 e2 e3
      split at h5
      · next y hy =>
        have hl : eLm W1.1 ρ4 h'.length lv lc := fun j a hj => by
          have := e3 j a hj
          rwa [Nat.zero_add] at this
        obtain ⟨g1, g2⟩ := eMo_s hl hy
        have g3 := eMc_u g2 m8
        have key := eRun_s (md := C.2.2.2.2.1) (mx := Int.ofNat mx) (mu := some y) (xs := none) (Bc := n * fuel) (h0 := hp) (m0 := (n : Int)) (Q := Q) (F := F) (D := D') hG fuel false (C.2.1 - 1) (mt C.1) cs (U.1, lv, [], W1) U.2.2.2.1 U.2.2.2.2.1 (fun res W => bif ePost C res W then (bif eRq W C.2.2.2.2.2.2.2 then X W else false) else false) ρ4 lc [] h' cl sl
        have key := key (mt C.1) 0 0 ⟨rfl, rfl, rfl, rfl, by omega, by omega⟩ h5 hF1 (by omega) e2 hl True.intro m6 m7 (fun y' hy' => by cases hy'; exact ⟨g1, g3⟩) (hQ9 W1 ρ4 h') (fun U' lc' h'' cl' sl' m hU' hm' hlt => by
          have hlt := hlt (fun e => by cases e)
          have h9 := hm'.2.2.2.2.2.2.2.2.1
          obtain ⟨k, rfl⟩ : ∃ k : Nat, m = (k : Int) := ⟨m.toNat, by omega⟩
          have hk : k < n := by omega
          exact wp_le (Nat.mul_le_mul_right _ hk) (ih k hk U' lc' h'' cl' sl' hU' hm'))
        rw [show (n + 1) * fuel = fuel + n * fuel by rw [Nat.add_mul]; omega]
        exact key
      · cases h5
  have run := eRun_s (md := C.2.2.2.2.1) (mx := Int.ofNat mx) (mu := none) (xs := none) (Bc := (mx + 1) * fuel) (h0 := hp) (m0 := 0) (Q := Q) (F := F) (D := D') hG fuel false (C.2.1 - 1) (mt C.1) cs (0, ePd (mL (mt C.1)) (eAg avs), [], W) 0 0 (fun res W => bif ePost C res W then (bif eRq W C.2.2.2.2.2.2.2 then X W else false) else false) ρ2 (lv_args 0 as) [] hp 0 0 (mt C.1) 0 0 ⟨rfl, rfl, rfl, rfl, by omega, by omega⟩ c3 hF1 (by omega) b2 (eArgs_s b3) True.intro (Nat.le_refl _) (Nat.le_refl _) (fun y hy => by cases hy) (hQ9 W ρ2 hp) (fun U' lc' h'' cl' sl' m hU' hm' _ => by
    have h9 := hm'.2.2.2.2.2.2.2.2.1
    have h10 := hm'.2.2.2.2.2.2.2.2.2
    obtain ⟨k, rfl⟩ : ∃ k : Nat, m = (k : Int) := ⟨m.toNat, by omega⟩
    have hk : k ≤ mx := Int.ofNat_le.mp h10
    exact wp_le (Nat.mul_le_mul_right _ (Nat.succ_le_succ hk)) (loop k U' lc' h'' cl' sl' hU' hm'))
  obtain ⟨r, q1, q2⟩ := run
  have q3 := q2 (F - (fuel + (mx + 1) * fuel))
  rw [show F - (fuel + (mx + 1) * fuel) + (fuel + (mx + 1) * fuel) = F from Nat.sub_add_cancel (Nat.le_trans (by rw [Nat.add_mul, Nat.add_mul]; omega) hF)] at q3
  refine ⟨r.1, r.2, ?_, q1.1, q1.2.1, q1.2.2.1, q1.2.2.2⟩
  rw [sGo1_s, if_pos (by rw [eSm1_s b3]; exact c2)]
  exact q3
theorem eCoP_co {mt : Nat → sM} {F : Nat} {C : eC} {P : sH → Prop} (h : eCoP mt F C P) : eCo mt F C := fun D as hp h1 h2 h3 h4 => by
  obtain ⟨r, h', g1, g2, g3, g4, g5, g6, -⟩ := h D as hp h1 h2 h3 h4
  exact ⟨r, h', g1, g2, g3, g4, g5, g6⟩
def eXt (_ : eW) : Bool := true
theorem eChk_s {G : List eC} {mt : Nat → sM} {C : eC} {cs : List eCu} {mx fuel F : Nat} (hG : ∀ B ∈ G, eCo mt F B) (h : eChk G mt C cs (Int.ofNat mx) fuel eXt = true) (hF : (mx + 2) * fuel ≤ F) : eCo mt F C := eCoP_co (P := fun _ => True) (eChkP_s (fun _ _ _ _ _ _ _ => True.intro) hG h hF)
/-- the model's size is at most its chambers -/
def eSz (h : sH) : Prop := ∃ x y : Int32, eGet h 85 34 = some (.int x) ∧ eGet h 85 31 = some (.int y) ∧ x.toInt ≤ y.toInt
noncomputable def eXz (W : eW) : Bool := match eRl W.2.2 85 34, eRl W.2.2 85 31 with
  | some t, some u => (match eIv W t, eIv W u with
    | some a, some b => eLe a.2 b.1
    | _, _ => false)
  | _, _ => false
theorem eXz_s (md : eMd) (h0 h' : sH) (ρ : Nat → Int) (W : eW) (hw : eWm false none md h0 ρ W h') (h : eXz W = true) : eSz h' := by
  unfold eXz at h
  split at h
  · next t u ht hu =>
    split at h
    · next a b ha hb =>
      obtain ⟨x, e1, e2, e3, e4⟩ := hw.2.1 _ (eRl_s ht)
      obtain ⟨y, f1, f2, f3, f4⟩ := hw.2.1 _ (eRl_s hu)
      dsimp only at e1 e2 e3 e4 f1 f2 f3 f4
      have h1 := eIv_s hw.1 ha
      have h2 := eIv_s hw.1 hb
      have h3 := eLe_s.mp h
      exact ⟨x, y, e2, f2, by omega⟩
    · cases h
  · cases h
theorem eG_n {mt : Nat → sM} {F : Nat} : ∀ B ∈ ([] : List eC), eCo mt F B := fun _ h => nomatch h
theorem eG_c {mt : Nat → sM} {F : Nat} {C : eC} {G : List eC} (h : eCo mt F C) (hG : ∀ B ∈ G, eCo mt F B) : ∀ B ∈ C :: G, eCo mt F B := fun B hB => by
  cases hB with
  | head => exact h
  | tail _ hB => exact hG B hB
def eFu : Nat := 1000000000000000
