/-! 31g: calls, ends, contracts -/
def eOv (n : Nat) (ρ : Nat → Int) (L : Nat) (v : Option eA) (vc : Option Value) : Prop := match v, vc with
  | none, none => True
  | some a, some x => eVm n ρ L a x
  | _, _ => False
def eRsM (n : Nat) (ρ : Nat → Int) (L : Nat) (r : eRs) (rc : Option Value ⊕ Nat) : Prop := match r, rc with
  | .inl v, .inl vc => eOv n ρ L v vc
  | .inr E, .inr F => E = F
  | _, _ => False
section ER
variable {lw : Bool} {xs : Option (List Int32)} {md : eMd} {h0 hp : sH} {ρ : Nat → Int} {W : eW} {pc a1 a2 n L : Nat} {lv : eLv} {st : List eA} {lc : sL} {sc : List Value} {z : eQ} {mt : Nat → sM}
theorem eRt_s {ret : Option FieldType} {i : Instr} {v : Option eA} (h : eRt W ret i st = some v) (hN : eNm lw xs ρ W) (hk : eKm W.1 ρ L st sc) : ∃ vc, sRet ret i sc = some vc ∧ eOv W.1 ρ L v vc ∧ (∀ nL, sP nL i pc lc sc = none) ∧ sHp xs i a1 a2 pc lc sc hp = none := by
  unfold eRt at h
  split at h
  · split at h
    · cases h
      rw [eKm_n hk]
      exact ⟨none, rfl, True.intro, fun _ => rfl, rfl⟩
    · cases h
  · split at h
    · next t ty =>
      obtain ⟨v1, s1, e9, k9⟩ := eKm_c hk; clear hk; subst e9; obtain ⟨k1, hk⟩ := k9
      rw [eKm_n hk]
      have k2 := k1
      obtain ⟨x, rfl, t1, t2⟩ := k1
      split at h
      · cases h
        exact ⟨_, rfl, k2, fun _ => rfl, rfl⟩
      · obtain ⟨c1, h⟩ := eBifN h
        cases h
        have c2 := eBt_s hN c1
        refine ⟨some (.int x), ?_, k2, fun _ => rfl, rfl⟩
        have h5 : x = 0 ∨ x = 1 := by
          have : x.toInt = 0 ∨ x.toInt = 1 := by omega
          exact this.elim (fun e => Or.inl (Int32.toInt_inj.mp (e.trans rfl))) (fun e => Or.inr (Int32.toInt_inj.mp (e.trans rfl)))
        rcases h5 with rfl | rfl <;> rfl
      · obtain ⟨c1, h⟩ := eBifN h
        cases h
        have c2 := eBt_s hN c1
        refine ⟨some (.int x), ?_, k2, fun _ => rfl, rfl⟩
        have h6 : (x.toUInt32 % 65536).toInt32 = x := by
          obtain ⟨n, hn, rfl⟩ := i32_nat (a := x) (m := 65535) (by omega) (by omega)
          apply Int32.toInt_inj.mp
          have e1 : ((Int32.ofNat n).toUInt32 % 65536) = (Int32.ofNat n).toUInt32 := by
            apply UInt32.toNat_inj.mp
            rw [UInt32.toNat_mod]
            have e2 : (Int32.ofNat n).toUInt32.toNat = n := by
              show (BitVec.ofNat 32 n).toNat = n
              rw [BitVec.toNat_ofNat]
              exact Nat.mod_eq_of_lt (by omega)
            rw [e2]
            exact Nat.mod_eq_of_lt (by show n < 65536; omega)
          rw [e1]
          rfl
        show (if sNr .char x = true then some (some (Value.int x)) else none) = _
        rw [if_pos (show sNr .char x = true from decide_eq_true h6)]
      · cases h
    · cases h
  · split at h
    · next a =>
      obtain ⟨c1, h⟩ := eBifN h
      cases h
      obtain ⟨v1, s1, e9, k9⟩ := eKm_c hk; clear hk; subst e9; obtain ⟨k1, hk⟩ := k9
      rw [eKm_n hk]
      obtain ⟨-, x, rfl⟩ := eIsL_s k1 c1
      exact ⟨_, rfl, k1, fun _ => rfl, rfl⟩
    · cases h
  · split at h
    · next a =>
      obtain ⟨c1, h⟩ := eBifN h
      cases h
      obtain ⟨v1, s1, e9, k9⟩ := eKm_c hk; clear hk; subst e9; obtain ⟨k1, hk⟩ := k9
      rw [eKm_n hk]
      obtain ⟨x, rfl⟩ := eIsF_s k1 (Nat.le_refl _) c1
      exact ⟨_, rfl, k1, fun _ => rfl, rfl⟩
    · cases h
  · split at h
    · next a =>
      obtain ⟨c1, h⟩ := eBifN h
      cases h
      obtain ⟨v1, s1, e9, k9⟩ := eKm_c hk; clear hk; subst e9; obtain ⟨k1, hk⟩ := k9
      rw [eKm_n hk]
      obtain ⟨x, rfl⟩ := eIsD_s k1 (Nat.le_refl _) c1
      exact ⟨_, rfl, k1, fun _ => rfl, rfl⟩
    · cases h
  · cases h
theorem eTk_s {ρ : Nat → Int} {as rest : List eA} : ∀ {m : Nat} {st acc : List eA} {sc ca : List Value}, eTk m st acc = some (as, rest) → eKm n ρ L st sc → eKm n ρ L acc ca → m ≤ sc.length ∧ eKm n ρ L as ((sc.take m).reverse ++ ca) ∧ eKm n ρ L rest (sc.drop m)
  | 0, st, acc, sc, ca, h, hs, ha => by
    have h : some (acc, st) = some (as, rest) := h
    cases h
    exact ⟨Nat.zero_le _, ha, hs⟩
  | m + 1, st, acc, sc, ca, h, hs, ha => by
    cases st with
    | nil => cases h
    | cons a r =>
      obtain ⟨v, s, rfl, k1, k2⟩ := eKm_c hs
      obtain ⟨g1, g2, g3⟩ := eTk_s (m := m) (st := r) (acc := a :: acc) (sc := s) (ca := v :: ca) h k2 ⟨k1, ha⟩
      refine ⟨Nat.succ_le_succ g1, ?_, g3⟩
      rw [List.take_succ_cons, List.reverse_cons, List.append_assoc]
      exact g2
theorem eIn0_s {i : Instr} {as rest : List eA} (h : eIn0 mt i a1 a2 st = some (as, rest)) (hI : eInv hp) (hk : eKm n ρ L st sc) : ∃ ac rc, sInv0 mt i a1 a2 sc hp = some (ac, rc) ∧ eKm n ρ L as ac ∧ eKm n ρ L rest rc ∧ (∀ nL, sP nL i pc lc sc = none) ∧ sHp xs i a1 a2 pc lc sc hp = none ∧ ∀ ret, sRet ret i sc = none := by
  unfold eIn0 at h
  split at h
  · obtain ⟨g1, g2, g3⟩ := eTk_s h hk (ca := []) True.intro
    rw [List.append_nil] at g2
    refine ⟨_, _, ?_, g2, g3, fun _ => rfl, rfl, fun _ => rfl⟩
    unfold sInv0; dsimp only; rw [if_pos g1]; rfl
  · split at h
    · next as0 q rest0 h2 =>
      split at h
      · next fs hfs =>
        cases h
        obtain ⟨g1, g2, g3⟩ := eTk_s h2 hk (ca := []) True.intro
        rw [List.append_nil] at g2
        obtain ⟨v, s, e, k1, k2⟩ := eKm_c g3
        obtain ⟨j, rfl, j1, j2⟩ := eRe_s (a := q.1) (b := q.2) k1
        obtain ⟨-, -, vs, hc, -, -⟩ := eInv_o hI hfs j1 j2
        refine ⟨.ref j :: sArgs (mN (mt a1)) sc, s, ?_, ⟨k1, g2⟩, k2, fun _ => rfl, rfl, fun _ => rfl⟩
        unfold sInv0; dsimp only; rw [if_pos g1, e]; dsimp only; rw [hc]; dsimp only; rw [if_pos rfl]
      · cases h
    · cases h
  · cases h
theorem eSm1_s : ∀ {st : List eA} {sc : List Value}, eKm n ρ L st sc → sCat sc = eSm1 st
  | [], [], _ => rfl
  | a :: as, v :: vs, h => by
    have h1 := eSm1_s h.2
    have h2 := eVm_ct h.1
    show ((v :: vs).map fun v => v.category).sum = eCt a + eSm1 as
    rw [List.map_cons, List.sum_cons, h2, ← h1]
    rfl
  | [], _ :: _, h => False.elim h
  | _ :: _, [], h => False.elim h
theorem eAg_s : ∀ {as : List eA} {ac : List Value} (i : Nat), eKm n ρ L as ac → ∀ (j : Nat) (a : eA), (eAg as)[j]? = some (some a) → ∃ v, sLk (i + j) (lv_args i ac) = some v ∧ eVm n ρ L a v
  | [], _, _, _, j, a, h => by cases j <;> cases h
  | b :: bs, w :: ws, i, hk, j, a, h => by
    have h : (some b :: (bif Nat.beq (eCt b) 2 then none :: eAg bs else eAg bs))[j]? = some (some a) := h
    have hct := eVm_ct hk.1
    cases j with
    | zero =>
      cases h
      refine ⟨w, ?_, hk.1⟩
      show (if i = i + 0 then some w else _) = _
      exact if_pos rfl
    | succ j =>
      have h : (bif Nat.beq (eCt b) 2 then none :: eAg bs else eAg bs)[j]? = some (some a) := h
      have ne : ¬ i = i + (j + 1) := by omega
      cases hb : Nat.beq (eCt b) 2 with
      | true =>
        rw [hb] at h
        have h : (none :: eAg bs)[j]? = some (some a) := h
        cases j with
        | zero => cases h
        | succ j =>
          have h : (eAg bs)[j]? = some (some a) := h
          obtain ⟨v, g1, g2⟩ := eAg_s (i + 2) hk.2 j a h
          refine ⟨v, ?_, g2⟩
          show (if i = i + (j + 1 + 1) then some w else sLk (i + (j + 1 + 1)) (lv_args (if w.category = 2 then i + 2 else i + 1) ws)) = _
          rw [if_neg ne, if_pos (hct.trans (eBeq hb)), ← g1]
          congr 1
          omega
      | false =>
        rw [hb] at h
        have h : (eAg bs)[j]? = some (some a) := h
        obtain ⟨v, g1, g2⟩ := eAg_s (i + 1) hk.2 j a h
        refine ⟨v, ?_, g2⟩
        show (if i = i + (j + 1) then some w else sLk (i + (j + 1)) (lv_args (if w.category = 2 then i + 2 else i + 1) ws)) = _
        rw [if_neg ne, if_neg (fun e => by rw [hct] at e; rw [e] at hb; cases hb), ← g1]
        congr 1
        omega
  | _ :: _, [], _, h, _, _, _ => False.elim h
theorem ePd_s {m : Nat} {l : eLv} {j : Nat} {a : eA} (h : (ePd m l)[j]? = some (some a)) : l[j]? = some (some a) := by
  unfold ePd at h
  by_cases hj : j < l.length
  · rwa [List.getElem?_append_left hj] at h
  · rw [List.getElem?_append_right (Nat.not_lt.mp hj)] at h
    have := List.eq_of_mem_replicate (List.mem_of_getElem? h)
    cases this
theorem eArgs_s {m : Nat} {as : List eA} {ac : List Value} (h : eKm n ρ L as ac) : eLm n ρ L (ePd m (eAg as)) (lv_args 0 ac) := fun j a hj => by
  have := eAg_s 0 h j a (ePd_s hj)
  rwa [Nat.zero_add] at this
theorem eHk_s {C : Nat → Option sE} {nL hq cl sl : Nat} {y : Nat × eLv} (h : eHk C lv nL hq = some y) (hl : eLm n ρ L lv lc) : ∃ lc', sCk C lc hp cl sl nL hq = some (.inl (y.1, lc', [], hp, cl, sl)) ∧ eLm n ρ L y.2 lc' := by
  unfold eHk at h
  unfold sCk
  split at h
  · next k a b hC =>
    obtain ⟨c1, h⟩ := eBifN h
    cases h
    rw [hC]; dsimp only
    rw [if_pos (show k < nL from eBle c1)]
    exact ⟨_, rfl, eDr_s hl⟩
  · next k a b hC =>
    obtain ⟨c1, h⟩ := eBifN h
    cases h
    rw [hC]; dsimp only
    rw [if_pos (show (k : Nat) < nL from eBle c1)]
    exact ⟨_, rfl, eDr_s hl⟩
  · cases h
theorem eMath_s {r : List eA} (h : eMath a1 st = some r) (hk : eKm n ρ L st sc) : ∃ x s, sMath a1 sc = some (.int x, s) ∧ eKm n ρ L r s := by
  unfold eMath at h
  cases h1 : Nat.beq a1 1001 with
  | true =>
    rw [h1] at h
    dsimp only [cond] at h
    split at h
    · next t r =>
      cases h
      obtain ⟨v1, s1, e9, k9⟩ := eKm_c hk; clear hk; subst e9; obtain ⟨⟨x, rfl, -⟩, hk⟩ := k9
      rw [eBeq h1]
      exact ⟨_, _, rfl, hk⟩
    · cases h
  | false =>
    rw [h1] at h
    dsimp only [cond] at h
    obtain ⟨c1, h⟩ := eBifN h
    obtain ⟨c2, h⟩ := eBifN h
    have c1 := eBle c1
    have c2 := eBle c2
    split at h
    · next t u r =>
      cases h
      obtain ⟨v1, s1, e9, k9⟩ := eKm_c hk; clear hk; subst e9; obtain ⟨⟨x, rfl, -⟩, hk⟩ := k9
      obtain ⟨v2, s2, e9, k9⟩ := eKm_c hk; clear hk; subst e9; obtain ⟨⟨y, rfl, -⟩, hk⟩ := k9
      rcases (show a1 = 1002 ∨ a1 = 1003 by omega) with rfl | rfl
      · exact ⟨_, _, rfl, hk⟩
      · exact ⟨_, _, rfl, hk⟩
    · cases h
/-! contracts -/
def eAm (L : Nat) : List eF → List Value → Prop
  | [], [] => True
  | f :: fs, v :: vs => eFm L f v ∧ eAm L fs vs
  | _, _ => False
def eRqm (rq : List ((Nat × Nat) × Int × Int)) (h : sH) : Prop := ∀ z ∈ rq, ∃ x : Int32, z.1.1 < 119 ∧ eGet h z.1.1 z.1.2 = some (.int x) ∧ z.2.1 ≤ x.toInt ∧ x.toInt ≤ z.2.2
def eRes (f : Option eF) (thr : List Nat) (r : Option Value ⊕ Nat) : Prop := match r with
  | .inl v => (match f, v with
    | none, none => True
    | some f, some x => eFm 0 f x
    | _, _ => False)
  | .inr E => E ∈ thr
def eCo (mt : Nat → sM) (F : Nat) (C : eC) : Prop := ∀ (D : Nat) (as : List Value) (h : sH), C.2.1 ≤ D → eInv h → eAm 0 C.2.2.1 as → eRqm C.2.2.2.1 h →
  ∃ r h', sGo1 mt F D C.1 as h = some (r, h') ∧ eInv h' ∧ h.length ≤ h'.length ∧ eMod C.2.2.2.2.1 h h' ∧ eRes C.2.2.2.2.2.1 C.2.2.2.2.2.2.1 r ∧ eRqm C.2.2.2.2.2.2.2 h'
theorem eFits_s (hN : eNm lw xs ρ W) : ∀ {fs : List eF} {as : List eA} {ac : List Value}, eFits W fs as = true → eKm W.1 ρ L as ac → eAm 0 fs ac
  | [], [], ac, _, hk => by rw [eKm_n hk]; exact True.intro
  | [], a :: as, ac, h, _ => by cases h
  | f :: fs, [], ac, h, _ => by cases h
  | f :: fs, a :: as, ac, h, hk => by
    have h : (bif eFit W f a then eFits W fs as else false) = true := h
    obtain ⟨h1, h2⟩ := eBif h
    obtain ⟨v, s, rfl, k1, k2⟩ := eKm_c hk
    exact ⟨eFit_s hN h1 k1, eFits_s hN h2 k2⟩
theorem eRq_s {rq : List ((Nat × Nat) × Int × Int)} (hN : eNm lw xs ρ W) (hR : eRm W.1 ρ W.2.2 hp) (h : eRq W rq = true) : eRqm rq hp := fun y hy => by
  have h1 := eAll_s h y hy
  split at h1
  · next t ht =>
    obtain ⟨x, g1, g2, g3, g4⟩ := hR _ (eRl_s ht)
    have h2 := eBt_s hN h1
    dsimp only at g1 g2 g3 g4
    exact ⟨x, g1, g2, by omega, by omega⟩
  · cases h1
theorem eFd_s {m : Nat} {as : List eA} {C : eC} : ∀ {G : List eC}, eFd G m as W = some C → C ∈ G ∧ C.1 = m ∧ eFits W C.2.2.1 as = true ∧ eRq W C.2.2.2.1 = true
  | [], h => by cases h
  | B :: G, h => by
    have h : (bif Nat.beq B.1 m then (bif eFits W B.2.2.1 as then (bif eRq W B.2.2.2.1 then some B else eFd G m as W) else eFd G m as W) else eFd G m as W) = some C := h
    have nxt : eFd G m as W = some C → C ∈ B :: G ∧ C.1 = m ∧ eFits W C.2.2.1 as = true ∧ eRq W C.2.2.2.1 = true := fun h => by
      obtain ⟨h1, h2⟩ := eFd_s h
      exact ⟨List.mem_cons_of_mem _ h1, h2⟩
    cases h1 : Nat.beq B.1 m with
    | false => rw [h1] at h; exact nxt h
    | true =>
      rw [h1] at h
      dsimp only [cond] at h
      cases h2 : eFits W B.2.2.1 as with
      | false => rw [h2] at h; exact nxt h
      | true =>
        rw [h2] at h
        dsimp only [cond] at h
        cases h3 : eRq W B.2.2.2.1 with
        | false => rw [h3] at h; exact nxt h
        | true =>
          rw [h3] at h
          have h : some B = some C := h
          cases h
          exact ⟨List.mem_cons_self, eBeq h1, h2, h3⟩
theorem eKeep_s {rf : eRf} {h' : sH} (hR : eRm n ρ rf hp) (hI : eInv hp) (hI' : eInv h') (hM : eMod md hp h') : eRm n ρ (eKeep md rf) h' := fun q hq => by
  obtain ⟨g1, g2⟩ := eFil_s hq
  obtain ⟨x, e1, e2, e3⟩ := hR q g1
  have hma : eMa md q.1.1 q.1.1 q.1.2 = false := by
    cases hb : eMa md q.1.1 q.1.1 q.1.2 with
    | false => rfl
    | true => rw [hb] at g2; cases g2
  exact ⟨x, e1, (hM _ _ e1 hma).trans e2, e3⟩
theorem eMod_md {md' : eMd} {h' : sH} (h : eMod md' hp h') (hs : eAll (fun z => eMa md z.1 z.2.1 z.2.2) md' = true) : eMod md hp h' := fun a j ha hj => by
  refine h a j ha ?_
  cases hb : eMa md' a a j with
  | false => rfl
  | true =>
    obtain ⟨q, hq, h3⟩ := eAny_s hb
    obtain ⟨h4, h3⟩ := eBif h3
    obtain ⟨h5, h3⟩ := eBif h3
    have h6 := eMa_in (eAll_s hs q hq) (eBle h4) (eBle h5)
    have h7 : eMa md a a j = true := by
      cases hj9 : Nat.beq q.2.2 j with
      | true => rw [← eBeq hj9]; exact h6
      | false =>
        rw [hj9] at h3
        have h3 := eBeq h3
        rw [h3] at h6
        exact eMa_99 h6
    rw [h7] at hj
    cases hj
end ER
section EK0
variable {lw : Bool} {xs : Option (List Int32)} {md : eMd} {h0 hp : sH}
theorem eMq_s : ∀ {rq : List ((Nat × Nat) × Int × Int)} {W : eW} {ρ : Nat → Int}, eWm lw xs md h0 ρ W hp → eRqm rq hp → ∃ ρ', eEx W.1 ρ (eMq rq W).1 ρ' ∧ eWm lw xs md h0 ρ' (eMq rq W) hp
  | [], W, ρ, hw, _ => ⟨ρ, eEx_rf, hw⟩
  | z :: rq, W, ρ, hw, h => by
    obtain ⟨x, k1, k2, k3, k4⟩ := h z List.mem_cons_self
    obtain ⟨ρ1, f1, f2, f3⟩ := eWm_fr hw k3 k4
    have hw2 : eWm lw xs md h0 ρ1 (W.1 + 1, ((W.1, z.2.1, z.2.2) :: W.2.1.1, W.2.1.2), (z.1, eNv W) :: W.2.2) hp := ⟨f2.1, fun q hq => by
      have hq : q ∈ (z.1, eNv W) :: W.2.2 := hq
      cases hq with
      | head => exact ⟨x, k1, k2, Nat.lt_succ_self _, f3⟩
      | tail _ hq => exact f2.2.1 q hq, f2.2.2⟩
    obtain ⟨ρ', g1, g2⟩ := eMq_s (rq := rq) hw2 (fun y hy => h y (List.mem_cons_of_mem _ hy))
    exact ⟨ρ', eEx_tr f1 g1, g2⟩
end EK0
