/-! 31b: instructions of locals and stack -/
def eLm (n : Nat) (ρ : Nat → Int) (L : Nat) (al : eLv) (lc : sL) : Prop := ∀ (i : Nat) (a : eA), al[i]? = some (some a) → ∃ v, sLk i lc = some v ∧ eVm n ρ L a v
def eKm (n : Nat) (ρ : Nat → Int) (L : Nat) : List eA → List Value → Prop
  | [], [] => True
  | a :: as, v :: vs => eVm n ρ L a v ∧ eKm n ρ L as vs
  | _, _ => False
theorem eKm_c {n : Nat} {ρ : Nat → Int} {L : Nat} {a : eA} {as : List eA} {vs : List Value} (h : eKm n ρ L (a :: as) vs) : ∃ v r, vs = v :: r ∧ eVm n ρ L a v ∧ eKm n ρ L as r := by
  cases vs with
  | nil => exact False.elim h
  | cons v r => exact ⟨v, r, rfl, h.1, h.2⟩
theorem eKm_n {n : Nat} {ρ : Nat → Int} {L : Nat} {vs : List Value} (h : eKm n ρ L [] vs) : vs = [] := by
  cases vs with
  | nil => rfl
  | cons v r => exact False.elim h
theorem eLm_ex {n n' L L' : Nat} {ρ ρ' : Nat → Int} {al : eLv} {lc : sL} (hx : eEx n ρ n' ρ') (hL : L ≤ L') (h : eLm n ρ L al lc) : eLm n' ρ' L' al lc := fun i a ha => by
  obtain ⟨v, h1, h2⟩ := h i a ha
  exact ⟨v, h1, eVm_ex hx hL h2⟩
theorem eKm_ex {n n' L L' : Nat} {ρ ρ' : Nat → Int} (hx : eEx n ρ n' ρ') (hL : L ≤ L') : ∀ {as : List eA} {vs : List Value}, eKm n ρ L as vs → eKm n' ρ' L' as vs
  | [], [], _ => True.intro
  | _ :: _, _ :: _, h => ⟨eVm_ex hx hL h.1, eKm_ex hx hL h.2⟩
  | [], _ :: _, h => False.elim h
  | _ :: _, [], h => False.elim h
theorem eVm_ct {n L : Nat} {ρ : Nat → Int} {a : eA} {v : Value} (h : eVm n ρ L a v) : v.category = eCt a := by
  cases a with
  | inl t => obtain ⟨x, h1, -⟩ := h; rw [h1]; rfl
  | inr o =>
    have h : eOm L o v := h
    cases v with
    | ref k =>
      rcases h with ⟨a, b, h1, -⟩ | ⟨h1, -⟩ <;> rw [h1] <;> rfl
    | long x => have h : o = .inr 0 := h; rw [h]; rfl
    | double x => rcases h with h | ⟨h, -⟩ | ⟨h, -⟩ <;> rw [h] <;> rfl
    | float x => rcases h with h | ⟨h, -⟩ | ⟨h, -⟩ | ⟨h, -⟩ <;> rw [h] <;> rfl
    | retAddr x => have h : o = .inr 9 := h; rw [h]; rfl
    | _ => exact False.elim h
/-! which value a kind is -/
theorem eIsI_s {n L : Nat} {ρ : Nat → Int} {a : eA} {v : Value} (h : eVm n ρ L a v) (hc : eIsI a = true) : ∃ x, v = .int x := by
  cases a with
  | inl t => obtain ⟨x, h1, -⟩ := h; exact ⟨x, h1⟩
  | inr o => cases hc
theorem eIsK_s {lo hi : Nat} {a : eA} (hc : eIsK lo hi a = true) : ∃ k, a = .inr (.inr k) ∧ lo ≤ k ∧ k ≤ hi := by
  cases a with
  | inl t => cases hc
  | inr o =>
    cases o with
    | inl q => cases hc
    | inr k =>
      have hc : (bif Nat.ble lo k then Nat.ble k hi else false) = true := hc
      obtain ⟨h1, h2⟩ := eBif hc
      exact ⟨k, rfl, eBle h1, eBle h2⟩
theorem eIsL_s {n L : Nat} {ρ : Nat → Int} {a : eA} {v : Value} (h : eVm n ρ L a v) (hc : eIsK 0 0 a = true) : a = .inr (.inr 0) ∧ ∃ x, v = .long x := by
  obtain ⟨k, rfl, h1, h2⟩ := eIsK_s hc
  have hk : k = 0 := Nat.le_zero.mp h2
  subst hk
  refine ⟨rfl, ?_⟩
  have h : eOm L (.inr 0) v := h
  cases v with
  | long x => exact ⟨x, rfl⟩
  | ref k => rcases h with ⟨a, b, h1, -⟩ | ⟨h1, -⟩ <;> cases h1
  | double x => rcases h with h | ⟨h, -⟩ | ⟨h, -⟩ <;> cases h
  | float x => rcases h with h | ⟨h, -⟩ | ⟨h, -⟩ | ⟨h, -⟩ <;> cases h
  | retAddr x => cases (show (.inr 0 : eO) = .inr 9 from h)
  | _ => exact False.elim h
theorem eIsF_s {n L : Nat} {ρ : Nat → Int} {a : eA} {v : Value} (h : eVm n ρ L a v) {lo : Nat} (hl : 4 ≤ lo) (hc : eIsK lo 7 a = true) : ∃ x, v = .float x := by
  obtain ⟨k, rfl, h1, h2⟩ := eIsK_s hc
  have h : eOm L (.inr k) v := h
  cases v with
  | float x => exact ⟨x, rfl⟩
  | long x => have h : (.inr k : eO) = .inr 0 := h; cases h; omega
  | ref j => rcases h with ⟨a, b, h3, -⟩ | ⟨h3, -⟩ <;> cases h3; omega
  | double x => rcases h with h | ⟨h, -⟩ | ⟨h, -⟩ <;> cases h <;> omega
  | retAddr x => have h : (.inr k : eO) = .inr 9 := h; cases h; omega
  | _ => exact False.elim h
theorem eIsD_s {n L : Nat} {ρ : Nat → Int} {a : eA} {v : Value} (h : eVm n ρ L a v) {hi : Nat} (hl : hi ≤ 3) (hc : eIsK 1 hi a = true) : ∃ x, v = .double x := by
  obtain ⟨k, rfl, h1, h2⟩ := eIsK_s hc
  have h : eOm L (.inr k) v := h
  cases v with
  | double x => exact ⟨x, rfl⟩
  | long x => have h : (.inr k : eO) = .inr 0 := h; cases h; omega
  | ref j => rcases h with ⟨a, b, h3, -⟩ | ⟨h3, -⟩ <;> cases h3; omega
  | float x => rcases h with h | ⟨h, -⟩ | ⟨h, -⟩ | ⟨h, -⟩ <;> cases h <;> omega
  | retAddr x => have h : (.inr k : eO) = .inr 9 := h; cases h; omega
  | _ => exact False.elim h
theorem eRf_s {L k : Nat} {v : Value} (h : eOm L (.inr k) v) (hk : 8 ≤ k) (hk9 : k ≤ 9) : (k = 8 ∧ ∃ j, v = .ref j ∧ 119 ≤ j ∧ j < L) ∨ (k = 9 ∧ ∃ j, v = .retAddr j) := by
  cases v with
  | ref j => rcases h with ⟨a, b, h3, -⟩ | ⟨h3, h4⟩ <;> cases h3; exact Or.inl ⟨rfl, j, rfl, h4⟩
  | retAddr x => have h : (.inr k : eO) = .inr 9 := h; cases h; exact Or.inr ⟨rfl, x, rfl⟩
  | double x => rcases h with h | ⟨h, -⟩ | ⟨h, -⟩ <;> cases h <;> omega
  | long x => have h : (.inr k : eO) = .inr 0 := h; cases h; omega
  | float x => rcases h with h | ⟨h, -⟩ | ⟨h, -⟩ | ⟨h, -⟩ <;> cases h <;> omega
  | _ => exact False.elim h
theorem eRe_s {L a b : Nat} {v : Value} (h : eOm L (.inl (a, b)) v) : ∃ j, v = .ref j ∧ a ≤ j ∧ j ≤ b := by
  cases v with
  | ref j => rcases h with ⟨c, d, h3, h4⟩ | ⟨h3, -⟩ <;> cases h3; exact ⟨j, rfl, h4⟩
  | retAddr x => cases (show (.inl (a, b) : eO) = .inr 9 from h)
  | double x => rcases h with h | ⟨h, -⟩ | ⟨h, -⟩ <;> cases h
  | long x => cases (show (.inl (a, b) : eO) = .inr 0 from h)
  | float x => rcases h with h | ⟨h, -⟩ | ⟨h, -⟩ | ⟨h, -⟩ <;> cases h
  | _ => exact False.elim h
theorem eIsA_s {n L : Nat} {ρ : Nat → Int} {a : eA} {v : Value} (h : eVm n ρ L a v) (hc : eIsA a = true) : (∃ j, v = .ref j) ∨ ∃ j, v = .retAddr j := by
  cases a with
  | inl t => cases hc
  | inr o =>
    cases o with
    | inl q => obtain ⟨j, h1, -⟩ := eRe_s (a := q.1) (b := q.2) h; exact Or.inl ⟨j, h1⟩
    | inr k =>
      have hc : (bif Nat.ble 8 k then Nat.ble k 9 else false) = true := hc
      obtain ⟨h1, h2⟩ := eBif hc
      rcases eRf_s h (eBle h1) (eBle h2) with ⟨-, j, e, -⟩ | ⟨-, j, e⟩
      · exact Or.inl ⟨j, e⟩
      · exact Or.inr ⟨j, e⟩
theorem eIsS_s {n L : Nat} {ρ : Nat → Int} {a : eA} {v : Value} (h : eVm n ρ L a v) (hc : eIsS a = true) : ∃ j, v = .ref j := by
  cases a with
  | inl t => cases hc
  | inr o =>
    cases o with
    | inl q => obtain ⟨j, h1, -⟩ := eRe_s (a := q.1) (b := q.2) h; exact ⟨j, h1⟩
    | inr k =>
      have hk := eBeq (show Nat.beq k 8 = true from hc)
      subst hk
      rcases eRf_s h (Nat.le_refl 8) (by decide) with ⟨-, j, e, -⟩ | ⟨e, -⟩
      · exact ⟨j, e⟩
      · cases e
/-! the locals -/
theorem sLk_fil {j : Nat} {v : Value} {P : Nat × Value → Bool} : ∀ {l : sL}, sLk j l = some v → P (j, v) = true → sLk j (l.filter P) = some v
  | [], h, _ => by cases h
  | q :: l, h, hp => by
    have h : (if q.1 = j then some q.2 else sLk j l) = some v := h
    by_cases e : q.1 = j
    · rw [if_pos e] at h
      cases h
      have hq : P q = true := by
        have : q = (j, q.2) := by rw [← e]
        rw [this]; exact hp
      rw [List.filter_cons_of_pos hq]
      show (if q.1 = j then some q.2 else _) = _
      exact if_pos e
    · rw [if_neg e] at h
      cases hq : P q with
      | true =>
        rw [List.filter_cons_of_pos hq]
        show (if q.1 = j then some q.2 else _) = _
        rw [if_neg e]
        exact sLk_fil h hp
      | false =>
        rw [List.filter_cons_of_neg (by rw [hq]; exact Bool.false_ne_true)]
        exact sLk_fil h hp
theorem eCl_s {n L k j : Nat} {ρ : Nat → Int} {al : eLv} {lc : sL} {b : eA} (hl : eLm n ρ L al lc) (h : (eCl k al)[j]? = some (some b)) : ∃ v, sLk j lc = some v ∧ eVm n ρ L b v ∧ ¬ (j + 1 = k ∧ v.category = 2) := by
  cases k with
  | zero =>
    obtain ⟨v, h1, h2⟩ := hl j b h
    exact ⟨v, h1, h2, fun e => by omega⟩
  | succ i =>
    have nc : (∀ c, al[i]? = some (some c) → eCt c ≠ 2) → al[j]? = some (some b) → ∃ v, sLk j lc = some v ∧ eVm n ρ L b v ∧ ¬ (j + 1 = i + 1 ∧ v.category = 2) := fun hn hj => by
      obtain ⟨v, h1, h2⟩ := hl j b hj
      refine ⟨v, h1, h2, fun q => ?_⟩
      have e : j = i := by omega
      rw [e] at hj
      exact hn b hj ((eVm_ct h2).symm.trans q.2)
    have e0 : eCl (i + 1) al = (match al[i]? with
      | some (some b) => bif Nat.beq (eCt b) 2 then ePut al i none else al
      | _ => al) := by
      show (match eNth al i with
        | some (some b) => bif Nat.beq (eCt b) 2 then ePut al i none else al
        | _ => al) = _
      rw [eNth_eq]
    rw [e0] at h
    cases hc : al[i]? with
    | none => rw [hc] at h; exact nc (fun c hc' => by rw [hc] at hc'; cases hc') h
    | some o =>
      cases o with
      | none => rw [hc] at h; exact nc (fun c hc' => by rw [hc] at hc'; cases hc') h
      | some c =>
        rw [hc] at h
        dsimp only at h
        cases hb : Nat.beq (eCt c) 2 with
        | false =>
          rw [hb] at h
          exact nc (fun c' hc' => by
            rw [hc] at hc'
            cases hc'
            intro e
            rw [e] at hb
            cases hb) h
        | true =>
          rw [hb] at h
          dsimp only [cond] at h
          rw [ePut_eq, List.getElem?_set] at h
          by_cases e : i = j
          · rw [if_pos e] at h
            split at h <;> cases h
          · rw [if_neg e] at h
            obtain ⟨v, h1, h2⟩ := hl j b h
            exact ⟨v, h1, h2, fun q => e (by omega)⟩
theorem eS1_s {n L k : Nat} {ρ : Nat → Int} {al : eLv} {lc : sL} {a : eA} {v : Value} (hl : eLm n ρ L al lc) (hv : eVm n ρ L a v) : eLm n ρ L (eS1 k a al) (sS1 k v lc) := by
  intro j b h
  unfold eS1 at h
  rw [ePut_eq, List.getElem?_set] at h
  split at h
  · next e =>
    subst e
    split at h
    · cases h
      exact ⟨v, by unfold sS1 sLk; rw [if_pos rfl], hv⟩
    · cases h
  · next e =>
    obtain ⟨w, h1, h2, h3⟩ := eCl_s hl h
    refine ⟨w, ?_, h2⟩
    unfold sS1 sLk
    rw [if_neg e]
    refine sLk_fil h1 ?_
    dsimp only
    rw [Bool.and_eq_true]
    constructor
    · rw [Bool.not_eq_true', beq_eq_false_iff_ne]; exact fun q => e q.symm
    · rw [Bool.not_eq_true', Bool.and_eq_false_iff]
      by_cases c : j + 1 = k
      · right; rw [beq_eq_false_iff_ne]; exact fun q => h3 ⟨c, q⟩
      · left; rw [beq_eq_false_iff_ne]; exact c
theorem eDr_s {n L k : Nat} {ρ : Nat → Int} {al : eLv} {lc : sL} (hl : eLm n ρ L al lc) : eLm n ρ L (eDr k al) (sDr k lc) := by
  intro j b h
  unfold eDr at h
  rw [ePut_eq, List.getElem?_set] at h
  split at h
  · next e =>
    split at h
    · cases h
    · cases h
  · next e =>
    obtain ⟨w, h1, h2, h3⟩ := eCl_s hl h
    refine ⟨w, ?_, h2⟩
    refine sLk_fil h1 ?_
    dsimp only
    rw [Bool.and_eq_true]
    constructor
    · rw [Bool.not_eq_true', beq_eq_false_iff_ne]; exact fun q => e q.symm
    · rw [Bool.not_eq_true', Bool.and_eq_false_iff]
      by_cases c : j + 1 = k
      · right; rw [beq_eq_false_iff_ne]; exact fun q => h3 ⟨c, q⟩
      · left; rw [beq_eq_false_iff_ne]; exact c
theorem eS2_s {n L k : Nat} {ρ : Nat → Int} {al : eLv} {lc : sL} {a : eA} {v : Value} (hl : eLm n ρ L al lc) (hv : eVm n ρ L a v) : eLm n ρ L (eS2 k a al) (sS2 k v lc) := by
  intro j b h
  unfold eS2 at h
  rw [ePut_eq, List.getElem?_set] at h
  split at h
  · next e =>
    subst e
    split at h
    · cases h
      exact ⟨v, by unfold sS2 sLk; rw [if_pos rfl], hv⟩
    · cases h
  · next e =>
    rw [ePut_eq, List.getElem?_set] at h
    split at h
    · next e2 =>
      split at h
      · cases h
      · cases h
    · next e2 =>
      obtain ⟨w, h1, h2, h3⟩ := eCl_s hl h
      refine ⟨w, ?_, h2⟩
      unfold sS2 sLk
      rw [if_neg e]
      refine sLk_fil h1 ?_
      dsimp only
      rw [Bool.and_eq_true]
      constructor
      · rw [Bool.not_eq_true', beq_eq_false_iff_ne]; exact fun q => e q.symm
      · rw [Bool.and_eq_true]
        constructor
        · rw [Bool.not_eq_true', beq_eq_false_iff_ne]; exact fun q => e2 q.symm
        · rw [Bool.not_eq_true', Bool.and_eq_false_iff]
          by_cases c : j + 1 = k
          · right; rw [beq_eq_false_iff_ne]; exact fun q => h3 ⟨c, q⟩
          · left; rw [beq_eq_false_iff_ne]; exact c
/-! an instruction's end is one of the checker's places -/
def ePg (lw : Bool) (xs : Option (List Int32)) (ρ : Nat → Int) (L : Nat) (W : eW) (l : List eQ) (r : sPr) : Prop :=
  ∃ z ∈ l, ∃ (ρ' : Nat → Int) (lc : sL) (sc : List Value), eEx W.1 ρ z.2.2.2.1 ρ' ∧ eNm lw xs ρ' z.2.2.2 ∧ z.2.2.2.2.2 = W.2.2 ∧ eLm z.2.2.2.1 ρ' L z.2.1 lc ∧ eKm z.2.2.2.1 ρ' L z.2.2.1 sc ∧ r = some (z.1, lc, sc)
section EP
variable {lw : Bool} {xs : Option (List Int32)} {ρ : Nat → Int} {W : eW} {L pc pc2 k nL : Nat} {lv : eLv} {st : List eA} {lc : sL} {sc : List Value} {l : List eQ}
theorem ePg1 {lv' : eLv} {st' : List eA} {lc' : sL} {sc' : List Value} (hN : eNm lw xs ρ W) (hl : eLm W.1 ρ L lv' lc') (hk : eKm W.1 ρ L st' sc') : ePg lw xs ρ L W [(pc, lv', st', W)] (some (pc, lc', sc')) :=
  ⟨_, List.mem_cons_self, ρ, lc', sc', eEx_rf, hN, rfl, hl, hk, rfl⟩
theorem ePgF {st' : List eA} {sc' : List Value} {x : Int32} (hN : eNm lw xs ρ W) (hl : eLm W.1 ρ L lv lc) (hk : eKm W.1 ρ L st' sc') : ePg lw xs ρ L W [(pc, lv, .inl (eNv W) :: st', eFn W)] (some (pc, lc, .int x :: sc')) := by
  obtain ⟨ρ', g1, g2, g3, g4, g5⟩ := eOpFr (z := x) hN (i32_rng x).1 (i32_rng x).2
  exact ⟨_, List.mem_cons_self, ρ', lc, .int x :: sc', g1, g2, rfl, eLm_ex g1 (Nat.le_refl _) hl, ⟨⟨x, rfl, g4, g5⟩, eKm_ex g1 (Nat.le_refl _) hk⟩, rfl⟩
theorem eLd_get {c : eA → Bool} (h : eLd c pc2 k lv st W = some l) : ∃ a, lv[k]? = some (some a) ∧ c a = true ∧ l = [(pc2, lv, a :: st, W)] := by
  unfold eLd at h
  rw [eNth_eq] at h
  split at h
  · next a ha =>
    obtain ⟨h1, h2⟩ := eBifN h
    cases h2
    exact ⟨a, ha, h1, rfl⟩
  · cases h
theorem eLd_I (h : eLd eIsI pc2 k lv st W = some l) (hN : eNm lw xs ρ W) (hl : eLm W.1 ρ L lv lc) (hk : eKm W.1 ρ L st sc) : ePg lw xs ρ L W l (sLdI pc2 k lc sc) := by
  obtain ⟨a, h1, h2, rfl⟩ := eLd_get h
  obtain ⟨v, h3, h4⟩ := hl k a h1
  obtain ⟨x, rfl⟩ := eIsI_s h4 h2
  unfold sLdI; rw [h3]
  exact ePg1 hN hl ⟨h4, hk⟩
theorem eLd_A (h : eLd eIsA pc2 k lv st W = some l) (hN : eNm lw xs ρ W) (hl : eLm W.1 ρ L lv lc) (hk : eKm W.1 ρ L st sc) : ePg lw xs ρ L W l (sLdA pc2 k lc sc) := by
  obtain ⟨a, h1, h2, rfl⟩ := eLd_get h
  obtain ⟨v, h3, h4⟩ := hl k a h1
  unfold sLdA; rw [h3]
  rcases eIsA_s h4 h2 with ⟨x, rfl⟩ | ⟨x, rfl⟩
  · exact ePg1 hN hl ⟨h4, hk⟩
  · exact ePg1 hN hl ⟨h4, hk⟩
theorem eLd_L (h : eLd (eIsK 0 0) pc2 k lv st W = some l) (hN : eNm lw xs ρ W) (hl : eLm W.1 ρ L lv lc) (hk : eKm W.1 ρ L st sc) : ePg lw xs ρ L W l (sLdL pc2 k lc sc) := by
  obtain ⟨a, h1, h2, rfl⟩ := eLd_get h
  obtain ⟨v, h3, h4⟩ := hl k a h1
  obtain ⟨-, x, rfl⟩ := eIsL_s h4 h2
  unfold sLdL; rw [h3]
  exact ePg1 hN hl ⟨h4, hk⟩
theorem eSv_get {c : eA → Bool} (h : eSv c nL pc2 k lv st W = some l) (hk : eKm W.1 ρ L st sc) : ∃ a r v sr, sc = v :: sr ∧ eVm W.1 ρ L a v ∧ eKm W.1 ρ L r sr ∧ c a = true ∧ k < nL ∧ l = [(pc2, eS1 k a lv, r, W)] := by
  unfold eSv at h
  split at h
  · next a r =>
    obtain ⟨h1, h2⟩ := eBifN h
    obtain ⟨h3, h4⟩ := eBifN h2
    cases h4
    obtain ⟨v, sr, e1, e2, e3⟩ := eKm_c hk
    exact ⟨a, r, v, sr, e1, e2, e3, h1, eBle h3, rfl⟩
  · cases h
theorem eSv2_get {c : eA → Bool} (h : eSv2 c nL pc2 k lv st W = some l) (hk : eKm W.1 ρ L st sc) : ∃ a r v sr, sc = v :: sr ∧ eVm W.1 ρ L a v ∧ eKm W.1 ρ L r sr ∧ c a = true ∧ k + 1 < nL ∧ l = [(pc2, eS2 k a lv, r, W)] := by
  unfold eSv2 at h
  split at h
  · next a r =>
    obtain ⟨h1, h2⟩ := eBifN h
    obtain ⟨h3, h4⟩ := eBifN h2
    cases h4
    obtain ⟨v, sr, e1, e2, e3⟩ := eKm_c hk
    exact ⟨a, r, v, sr, e1, e2, e3, h1, eBle h3, rfl⟩
  · cases h
theorem eSv_I (h : eSv eIsI nL pc2 k lv st W = some l) (hN : eNm lw xs ρ W) (hl : eLm W.1 ρ L lv lc) (hk : eKm W.1 ρ L st sc) : ePg lw xs ρ L W l (sStI nL pc2 k lc sc) := by
  obtain ⟨a, r, v, sr, rfl, h2, h3, h4, h5, rfl⟩ := eSv_get h hk
  obtain ⟨x, rfl⟩ := eIsI_s h2 h4
  unfold sStI; dsimp only; rw [if_pos h5]
  exact ePg1 hN (eS1_s hl h2) h3
theorem eSv_A (h : eSv eIsS nL pc2 k lv st W = some l) (hN : eNm lw xs ρ W) (hl : eLm W.1 ρ L lv lc) (hk : eKm W.1 ρ L st sc) : ePg lw xs ρ L W l (sStA nL pc2 k lc sc) := by
  obtain ⟨a, r, v, sr, rfl, h2, h3, h4, h5, rfl⟩ := eSv_get h hk
  obtain ⟨x, rfl⟩ := eIsS_s h2 h4
  unfold sStA; dsimp only; rw [if_pos h5]
  exact ePg1 hN (eS1_s hl h2) h3
theorem eSv_F (h : eSv (eIsK 4 7) nL pc2 k lv st W = some l) (hN : eNm lw xs ρ W) (hl : eLm W.1 ρ L lv lc) (hk : eKm W.1 ρ L st sc) : ePg lw xs ρ L W l (sStF nL pc2 k lc sc) := by
  obtain ⟨a, r, v, sr, rfl, h2, h3, h4, h5, rfl⟩ := eSv_get h hk
  obtain ⟨x, rfl⟩ := eIsF_s h2 (Nat.le_refl _) h4
  unfold sStF; dsimp only; rw [if_pos h5]
  exact ePg1 hN (eS1_s hl h2) h3
theorem eSv_L (h : eSv2 (eIsK 0 0) nL pc2 k lv st W = some l) (hN : eNm lw xs ρ W) (hl : eLm W.1 ρ L lv lc) (hk : eKm W.1 ρ L st sc) : ePg lw xs ρ L W l (sStL nL pc2 k lc sc) := by
  obtain ⟨a, r, v, sr, rfl, h2, h3, h4, h5, rfl⟩ := eSv2_get h hk
  obtain ⟨-, x, rfl⟩ := eIsL_s h2 h4
  unfold sStL; dsimp only; rw [if_pos h5]
  exact ePg1 hN (eS2_s hl h2) h3
theorem eSv_D (h : eSv2 (eIsK 1 3) nL pc2 k lv st W = some l) (hN : eNm lw xs ρ W) (hl : eLm W.1 ρ L lv lc) (hk : eKm W.1 ρ L st sc) : ePg lw xs ρ L W l (sStD nL pc2 k lc sc) := by
  obtain ⟨a, r, v, sr, rfl, h2, h3, h4, h5, rfl⟩ := eSv2_get h hk
  obtain ⟨x, rfl⟩ := eIsD_s h2 (Nat.le_refl _) h4
  unfold sStD; dsimp only; rw [if_pos h5]
  exact ePg1 hN (eS2_s hl h2) h3
theorem eI2_s {f : eOp} {g : Int32 → Int32 → Int32} (hf : eOpS f g) (h : eI2 f pc2 lv st W = some l) (hN : eNm lw xs ρ W) (hl : eLm W.1 ρ L lv lc) (hk : eKm W.1 ρ L st sc) : ePg lw xs ρ L W l (sBi g pc2 lc sc) := by
  unfold eI2 at h
  split at h
  · next u t r =>
    dsimp only at h
    cases h
    obtain ⟨v1, s1, e9, k9⟩ := eKm_c hk; clear hk; subst e9; obtain ⟨⟨y, rfl, hu, ey⟩, hk⟩ := k9
    obtain ⟨v2, s2, e9, k9⟩ := eKm_c hk; clear hk; subst e9; obtain ⟨⟨x, rfl, ht, ex⟩, hk⟩ := k9
    obtain ⟨ρ', g1, g2, g3, g4, g5⟩ := hf hN ht ex hu ey
    exact ⟨_, List.mem_cons_self, ρ', lc, .int (g x y) :: s2, g1, g2, g3, eLm_ex g1 (Nat.le_refl _) hl, ⟨⟨_, rfl, g4, g5⟩, eKm_ex g1 (Nat.le_refl _) hk⟩, rfl⟩
  · cases h
theorem eL2_s {g : Int64 → Int64 → Int64} (h : eL2 pc2 lv st W = some l) (hN : eNm lw xs ρ W) (hl : eLm W.1 ρ L lv lc) (hk : eKm W.1 ρ L st sc) : ePg lw xs ρ L W l (sBl g pc2 lc sc) := by
  unfold eL2 at h
  split at h
  · next a b r =>
    obtain ⟨h1, h2⟩ := eBifN h
    obtain ⟨h3, h4⟩ := eBifN h2
    cases h4
    obtain ⟨v1, s1, e9, k9⟩ := eKm_c hk; clear hk; subst e9; obtain ⟨k1, hk⟩ := k9
    obtain ⟨v2, s2, e9, k9⟩ := eKm_c hk; clear hk; subst e9; obtain ⟨k2, hk⟩ := k9
    obtain ⟨-, y, rfl⟩ := eIsL_s k1 h1
    obtain ⟨-, x, rfl⟩ := eIsL_s k2 h3
    exact ePg1 hN hl ⟨rfl, hk⟩
  · cases h
theorem eLs_s {g : Int64 → Int32 → Int64} (h : eLs pc2 lv st W = some l) (hN : eNm lw xs ρ W) (hl : eLm W.1 ρ L lv lc) (hk : eKm W.1 ρ L st sc) : ePg lw xs ρ L W l (sBs g pc2 lc sc) := by
  unfold eLs at h
  split at h
  · next t b r =>
    obtain ⟨h1, h2⟩ := eBifN h
    cases h2
    obtain ⟨v1, s1, e9, k9⟩ := eKm_c hk; clear hk; subst e9; obtain ⟨⟨y, rfl, -, -⟩, hk⟩ := k9
    obtain ⟨v2, s2, e9, k9⟩ := eKm_c hk; clear hk; subst e9; obtain ⟨k2, hk⟩ := k9
    obtain ⟨-, x, rfl⟩ := eIsL_s k2 h1
    exact ePg1 hN hl ⟨rfl, hk⟩
  · cases h
theorem eCs_s {lo hi z : Int} {x : Int32} (hx : lo ≤ z → z ≤ hi → x.toInt = z) (h : eCs lo hi z pc2 lv st W = some l) (hN : eNm lw xs ρ W) (hl : eLm W.1 ρ L lv lc) (hk : eKm W.1 ρ L st sc) : ePg lw xs ρ L W l (some (pc2, lc, .int x :: sc)) := by
  unfold eCs at h
  obtain ⟨h1, h2⟩ := eBifN h
  cases h2
  obtain ⟨h3, h4⟩ := eIr_s h1
  exact ePg1 hN hl ⟨⟨x, rfl, hN.1, by rw [hx h3 h4, hN.2.1]; exact Int.zero_add z⟩, hk⟩
theorem eDv_s {g : Int32 → Int32 → Int32} {R : sPr} (h : eDv pc2 lv st W = some l) (hN : eNm lw xs ρ W) (hl : eLm W.1 ρ L lv lc) (hk : eKm W.1 ρ L st sc) (hR : ∀ (x y : Int32) (s : List Value), sc = .int y :: .int x :: s → ¬ y = 0 → R = some (pc2, lc, .int (g x y) :: s)) : ePg lw xs ρ L W l R := by
  unfold eDv at h
  split at h
  · next u t r =>
    split at h
    · next b hb =>
      obtain ⟨h1, h2⟩ := eBifN h
      cases h2
      obtain ⟨v1, s1, e1, ⟨y, rfl, hu, ey⟩, hk1⟩ := eKm_c hk
      obtain ⟨v2, s2, e2, ⟨x, rfl, ht, ex⟩, hk2⟩ := eKm_c hk1
      have h3 := eIv_s hN hb
      have h4 := eLe_s.mp h1
      have hy : ¬ y = 0 := fun e => by
        rw [e] at ey
        have : (0 : Int32).toInt = 0 := rfl
        omega
      rw [hR x y s2 (by rw [e1, e2]) hy]
      exact ePgF hN hl hk2
    · cases h
  · cases h
theorem eIf_s {c : Jvm.ClassFile.Cond} {t u : eT} {r : List eA} {x y : Int32} {tg : Nat} {sr : List Value} (hN : eNm lw xs ρ W) (hl : eLm W.1 ρ L lv lc) (hk : eKm W.1 ρ L r sr) (ht : t.1 < W.1) (ex : ρ t.1 + t.2 = x.toInt) (hu : u.1 < W.1) (ey : ρ u.1 + u.2 = y.toInt) :
    ePg lw xs ρ L W (eBr c W t u tg (pc + 3) lv r) (some (cond (sC2 c x y) tg (pc + 3), lc, sr)) := by
  obtain ⟨W1, h1, h2, h3, h4⟩ := eBr_s (c := c) (tg := tg) (nx := pc + 3) (lv := lv) (st := r) hN ht ex hu ey
  refine ⟨_, h1, ρ, lc, sr, ?_, h2, h4, ?_, ?_, rfl⟩
  · show eEx W.1 ρ W1.1 ρ; rw [h3]; exact eEx_rf
  · show eLm W1.1 ρ L lv lc; rw [h3]; exact hl
  · show eKm W1.1 ρ L r sr; rw [h3]; exact hk
theorem sP_if {c : Jvm.ClassFile.Cond} {off : Int} {tg : Nat} {x : Int32} {sr : List Value} (ho : sTg pc off = some tg) : sP nL (.ifCond c off) pc lc (.int x :: sr) = some (cond (sC2 c x 0) tg (pc + 3), lc, sr) := by
  cases c <;> (unfold sP sIf; dsimp only; rw [ho]; rfl)
theorem sP_ic {c : Jvm.ClassFile.Cond} {off : Int} {tg : Nat} {x y : Int32} {sr : List Value} (ho : sTg pc off = some tg) : sP nL (.if_icmp c off) pc lc (.int y :: .int x :: sr) = some (cond (sC2 c x y) tg (pc + 3), lc, sr) := by
  cases c <;> (unfold sP sIc; dsimp only; rw [ho]; rfl)
end EP
