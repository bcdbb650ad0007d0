/-! part 45: from contracts (a run ends, within bounds) and the partial reading (what its end is) to the facts that the law's cases want -/
/-! the shape, out of the bounds -/
def tFk (ty : FieldType) (rf : Nat × Nat) (f : eF) : Bool := match ty, f with
  | .int, .inl _ => true
  | .boolean, .inl b => decide (b = (0, 1))
  | .long, .inr (.inr k) => decide (k = 0)
  | .double, .inr (.inr k) => decide (k = 1)
  | .object _, .inr (.inl q) => decide (rf.1 ≤ q.1) && decide (q.2 ≤ rf.2)
  | .array _, .inr (.inl q) => decide (rf.1 ≤ q.1) && decide (q.2 ≤ rf.2)
  | _, _ => false
theorem tFk_s {ty : FieldType} {rf : Nat × Nat} {f : eF} {v : Value} (h : tFk ty rf f = true) (hv : eFm 0 f v) : tVk ty rf v := by
  have ob : ∀ q : Nat × Nat, eFm 0 (.inr (.inl q)) v → (decide (rf.1 ≤ q.1) && decide (q.2 ≤ rf.2)) = true → ∃ k, v = .ref k ∧ rf.1 ≤ k ∧ k ≤ rf.2 := by
    intro q hv hq
    rw [Bool.and_eq_true, decide_eq_true_eq, decide_eq_true_eq] at hq
    have hv : eOm 0 (.inl q) v := hv
    cases v with
    | ref k =>
      rcases (show (∃ a b, (.inl q : eO) = .inl (a, b) ∧ a ≤ k ∧ k ≤ b) ∨ _ from hv) with ⟨a, b, e, h1, h2⟩ | ⟨e, -⟩
      · cases e
        exact ⟨k, rfl, Nat.le_trans hq.1 h1, Nat.le_trans h2 hq.2⟩
      · cases e
    | long x => cases (show (.inl q : eO) = .inr 0 from hv)
    | double x => rcases hv with e | ⟨e, -⟩ | ⟨e, -⟩ <;> cases e
    | float x => rcases hv with e | ⟨e, -⟩ | ⟨e, -⟩ | ⟨e, -⟩ <;> cases e
    | retAddr x => cases (show (.inl q : eO) = .inr 9 from hv)
    | int x => exact False.elim hv
    | null => exact False.elim hv
  unfold tFk at h
  split at h
  · obtain ⟨x, e, -⟩ := hv; exact ⟨x, e⟩
  · next b =>
    have hb := of_decide_eq_true h
    subst hb
    obtain ⟨x, e, h1, h2⟩ := hv
    have h1 : 0 ≤ x.toInt := h1
    have h2 : x.toInt ≤ 1 := h2
    have k0 : (0 : Int32).toInt = 0 := rfl
    have k1 : (1 : Int32).toInt = 1 := rfl
    rcases (show x.toInt = 0 ∨ x.toInt = 1 by omega) with g | g
    · exact Or.inl (by rw [e, Int32.toInt_inj.mp (g.trans k0.symm)])
    · exact Or.inr (by rw [e, Int32.toInt_inj.mp (g.trans k1.symm)])
  · next k =>
    have hb := of_decide_eq_true h
    subst hb
    have hv : eOm 0 (.inr 0) v := hv
    cases v with
    | long x => exact ⟨x, rfl⟩
    | ref k => rcases hv with ⟨a, b, e, -⟩ | ⟨e, -⟩ <;> cases e
    | double x => rcases hv with e | ⟨e, -⟩ | ⟨e, -⟩ <;> cases e
    | float x => rcases hv with e | ⟨e, -⟩ | ⟨e, -⟩ | ⟨e, -⟩ <;> cases e
    | retAddr x => cases (show (.inr 0 : eO) = .inr 9 from hv)
    | int x => exact False.elim hv
    | null => exact False.elim hv
  · next k =>
    have hb := of_decide_eq_true h
    subst hb
    have hv : eOm 0 (.inr 1) v := hv
    cases v with
    | double x => exact ⟨x, rfl⟩
    | ref k => rcases hv with ⟨a, b, e, -⟩ | ⟨e, -⟩ <;> cases e
    | long x => cases (show (.inr 1 : eO) = .inr 0 from hv)
    | float x => rcases hv with e | ⟨e, -⟩ | ⟨e, -⟩ | ⟨e, -⟩ <;> cases e
    | retAddr x => cases (show (.inr 1 : eO) = .inr 9 from hv)
    | int x => exact False.elim hv
    | null => exact False.elim hv
  · next q => exact ob q hv h
  · next q => exact ob q hv h
  · cases h
def tCk (a : Nat) (ct : eCT) : Bool := match ct with
  | .inl z => decide (tShF a = (0, z.1, z.2.length)) && (List.range z.2.length).all (fun j => match z.2[j]? with
    | some f => tFk (sFt z.1 j) (tRf a j) f
    | none => true)
  | .inr z => decide (tShF a = (1, z.1, z.2.1)) && (bif eIdB z.1 then (decide (4 ≤ z.1) && (match z.2.2 with
    | .inr (.inl q) => (List.range z.2.1).all (fun j => decide (tRf a j = (q.1 + j, q.1 + j)))
    | _ => false)) else (List.range z.2.1).all (fun j => tFk (sTy z.1) (tRf a j) z.2.2))
theorem tCk_s {a : Nat} {ct : eCT} {c : sC} (h : tCk a ct = true) (hc : eCell ct c) : tCell a c := by
  unfold tCk at h
  cases ct with
  | inl z =>
    cases c with
    | inl q => exact False.elim hc
    | inr q =>
      obtain ⟨h1, h2, h3⟩ := hc
      obtain ⟨q1, q2⟩ := q
      dsimp only at h1 h2 h3
      subst h1
      simp only [Bool.and_eq_true, decide_eq_true_eq] at h
      refine ⟨by rw [h.1]; show _ = (0, z.1, q2.length); rw [h2], fun j v hj => ?_⟩
      have hj : q2[j]? = some v := hj
      have hl : j < z.2.length := by rw [← h2]; exact (List.getElem?_eq_some_iff.mp hj).1
      have h4 := List.all_eq_true.mp h.2 j (List.mem_range.mpr hl)
      have e := List.getElem?_eq_getElem hl
      rw [e] at h4
      obtain ⟨w, w1, w2⟩ := h3 j _ e
      rw [hj] at w1
      cases w1
      exact tFk_s h4 w2
  | inr z =>
    cases c with
    | inr q => exact False.elim hc
    | inl q =>
      obtain ⟨h1, h2, h3, h4⟩ := hc
      obtain ⟨q1, q2⟩ := q
      dsimp only at h1 h2 h3 h4
      subst h1
      simp only [Bool.and_eq_true, decide_eq_true_eq] at h
      refine ⟨by rw [h.1]; show _ = (1, z.1, q2.length); rw [h2], fun j v hj => ?_⟩
      have hj : q2[j]? = some v := hj
      have hl : j < z.2.1 := by rw [← h2]; exact (List.getElem?_eq_some_iff.mp hj).1
      have h5 := h.2
      cases g : eIdB z.1 with
      | true =>
        rw [g] at h5
        dsimp only [cond] at h5
        obtain ⟨lo, hi, e1, e2⟩ := h4 g
        rw [e1] at h5
        simp only [Bool.and_eq_true, decide_eq_true_eq] at h5
        have h6 := of_decide_eq_true (List.all_eq_true.mp h5.2 j (List.mem_range.mpr hl))
        rw [e2 j v hj]
        show tVk (sTy z.1) (tRf a j) _
        rw [h6]
        have k4 : ∀ n, 4 ≤ n → (sTy n = .array .int ∨ ∃ s, sTy n = .object s) := fun n hn => by
          rcases (show n = 4 ∨ 5 ≤ n by omega) with e | e
          · subst e; exact Or.inl rfl
          · obtain ⟨m, rfl⟩ : ∃ m, n = m + 5 := ⟨n - 5, by omega⟩
            exact Or.inr ⟨_, rfl⟩
        rcases k4 z.1 h5.1 with e | ⟨s, e⟩ <;> rw [e] <;> exact ⟨lo + j, rfl, Nat.le_refl _, Nat.le_refl _⟩
      | false =>
        rw [g] at h5
        dsimp only [cond] at h5
        exact tFk_s (List.all_eq_true.mp h5 j (List.mem_range.mpr hl)) (h3 v (List.mem_of_getElem? hj))
noncomputable def tAll : Bool := Nat.rec (motive := fun _ => Bool) true (fun a ih => bif (match eRg a a with
  | some ct => tCk a ct
  | none => false) then ih else false) 119
noncomputable def tAllN (n : Nat) : Bool := Nat.rec (motive := fun _ => Bool) true (fun a ih => bif (match eRg a a with
  | some ct => tCk a ct
  | none => false) then ih else false) n
theorem tAllN_s : ∀ {n a : Nat} {ct : eCT}, tAllN n = true → a < n → eRg a a = some ct → tCk a ct = true
  | 0, a, _, _, ha, _ => absurd ha (Nat.not_lt_zero a)
  | n + 1, a, ct, h, ha, hr => by
    have h : (bif (match eRg n n with
      | some ct => tCk n ct
      | none => false) then tAllN n else false) = true := h
    obtain ⟨h1, h2⟩ := eBif h
    rcases (show a < n ∨ a = n by omega) with e | e
    · exact tAllN_s h2 e hr
    · subst e; rw [hr] at h1; exact h1
set_option maxRecDepth 100000 in
theorem tAll_ok : tAllN 119 = true := by decide +kernel
theorem tInv_of {h : sH} (hI : eInv h) : tInv h := by
  obtain ⟨h1, h2, h3⟩ := hI
  refine ⟨h1, fun a c ha hc => ?_, h3⟩
  obtain ⟨ct, c', e1, e2, e3⟩ := h2 a ha
  rw [hc] at e2
  cases e2
  exact tCk_s (tAllN_s tAll_ok ha e1) e3
/-! bounds -/
theorem vI_o {h : sH} {q : Nat × Nat} {c a j : Nat} {fs : List eF} {lo hi : Int} (hI : eInv h) (ho : eObj q c = some fs) (h1 : q.1 ≤ a) (h2 : a ≤ q.2) (hj : fs[j]? = some (.inl (lo, hi))) : inR (vI h a j) lo hi := by
  obtain ⟨-, -, vs, e, -, g⟩ := eInv_o hI ho h1 h2
  obtain ⟨v, hv, x, rfl, x1, x2⟩ := g j _ hj
  unfold inR
  rw [vI_at (c := .inr (c, vs)) e hv]
  exact ⟨x1, x2⟩
theorem BG_of {h : sH} (hI : eInv h) : BG (vI h) := by
  refine ⟨?_, ?_, ?_, ?_, ?_, fun p hp => ⟨?_, ?_⟩, fun p hp => ⟨?_, ?_, ?_, ?_⟩⟩
  · exact vI_o (q := (0, 0)) (c := 8) hI rfl (Nat.le_refl _) (Nat.le_refl _) rfl
  · exact vI_o (q := (0, 0)) (c := 8) hI rfl (Nat.le_refl _) (Nat.le_refl _) rfl
  · exact vI_o (q := (0, 0)) (c := 8) hI rfl (Nat.le_refl _) (Nat.le_refl _) rfl
  · exact vI_o (q := (0, 0)) (c := 8) hI rfl (Nat.le_refl _) (Nat.le_refl _) rfl
  · exact vI_o (q := (0, 0)) (c := 8) hI rfl (Nat.le_refl _) (Nat.le_refl _) rfl
  · exact vI_o (q := (65, 72)) (c := 2) hI rfl (Nat.le_add_right _ _) (show 65 + p ≤ 72 by omega) rfl
  · exact vI_o (q := (65, 72)) (c := 2) hI rfl (Nat.le_add_right _ _) (show 65 + p ≤ 72 by omega) rfl
  · exact vI_o (q := (73, 84)) (c := 0) hI rfl (Nat.le_add_right _ _) (show 73 + p ≤ 84 by omega) rfl
  · exact vI_o (q := (73, 84)) (c := 0) hI rfl (Nat.le_add_right _ _) (show 73 + p ≤ 84 by omega) rfl
  · exact vI_o (q := (73, 84)) (c := 0) hI rfl (Nat.le_add_right _ _) (show 73 + p ≤ 84 by omega) rfl
  · exact vI_o (q := (73, 84)) (c := 0) hI rfl (Nat.le_add_right _ _) (show 73 + p ≤ 84 by omega) rfl
/-! what a call that is not gone into leaves as it was -/
theorem vI_get {h : sH} {a f : Nat} : vI h a f = (match eGet h a f with
  | some v => iOf v
  | none => 0) := by
  unfold vI eGet
  cases h[a]? with
  | none => rfl
  | some c =>
    cases c with
    | inl q =>
      show iOf (q.2.getD f .null) = (match q.2[f]? with
        | some v => iOf v
        | none => 0)
      rw [List.getD_eq_getElem?_getD]
      cases q.2[f]? <;> rfl
    | inr q =>
      show iOf (q.2.getD f .null) = (match q.2[f]? with
        | some v => iOf v
        | none => 0)
      rw [List.getD_eq_getElem?_getD]
      cases q.2[f]? <;> rfl
theorem vI_mod {md : eMd} {h h' : sH} {a f : Nat} (hm : eMod md h h') (ha : a < 119) (hf : eMa md a a f = false) : vI h' a f = vI h a f := by
  rw [vI_get, vI_get, hm a f ha hf]
noncomputable def rgFr (md : eMd) : Bool :=
  [(85, 37), (0, 13), (85, 38), (0, 14), (85, 39), (0, 15), (85, 41), (0, 18), (85, 40), (0, 19), (85, 45), (0, 11), (85, 47), (0, 16), (85, 43), (1, 4)].all (fun q => !eMa md q.1 q.1 q.2) &&
  ((List.range 8).all (fun p => [(94, p), (57 + p, 0), (99, p), (57 + p, 1), (100, p), (57 + p, 2), (107, p), (57 + p, 3), (108, p), (65 + p, 0), (109, p), (65 + p, 1), (93, p), (65 + p, 2), (110, p), (65 + p, 3), (111, p), (65 + p, 4)].all (fun q => !eMa md q.1 q.1 q.2)) &&
  (List.range 12).all (fun p => [(112, p), (73 + p, 0), (113, p), (73 + p, 1), (114, p), (73 + p, 2), (115, p), (73 + p, 3), (116, p), (73 + p, 4), (101, p), (45 + p, 0), (102, p), (45 + p, 1), (103, p), (45 + p, 2)].all (fun q => !eMa md q.1 q.1 q.2)))
theorem RG_mod {md : eMd} {h h' : sH} (hf : rgFr md = true) (hm : eMod md h h') (hG : RG (vI h)) : RG (vI h') := by
  unfold rgFr at hf
  rw [Bool.and_eq_true, Bool.and_eq_true] at hf
  obtain ⟨f1, f2, f3⟩ := hf
  have s : ∀ a f, a < 119 → (a, f) ∈ [(85, 37), (0, 13), (85, 38), (0, 14), (85, 39), (0, 15), (85, 41), (0, 18), (85, 40), (0, 19), (85, 45), (0, 11), (85, 47), (0, 16), (85, 43), (1, 4)] → vI h' a f = vI h a f := fun a f ha hq => vI_mod hm ha (by
    have := List.all_eq_true.mp f1 _ hq
    rwa [Bool.not_eq_true'] at this)
  have s8 : ∀ p, p < 8 → ∀ a f, a < 119 → (a, f) ∈ [(94, p), (57 + p, 0), (99, p), (57 + p, 1), (100, p), (57 + p, 2), (107, p), (57 + p, 3), (108, p), (65 + p, 0), (109, p), (65 + p, 1), (93, p), (65 + p, 2), (110, p), (65 + p, 3), (111, p), (65 + p, 4)] → vI h' a f = vI h a f := fun p hp a f ha hq => vI_mod hm ha (by
    have := List.all_eq_true.mp (List.all_eq_true.mp f2 p (List.mem_range.mpr hp)) _ hq
    rwa [Bool.not_eq_true'] at this)
  have s12 : ∀ p, p < 12 → ∀ a f, a < 119 → (a, f) ∈ [(112, p), (73 + p, 0), (113, p), (73 + p, 1), (114, p), (73 + p, 2), (115, p), (73 + p, 3), (116, p), (73 + p, 4), (101, p), (45 + p, 0), (102, p), (45 + p, 1), (103, p), (45 + p, 2)] → vI h' a f = vI h a f := fun p hp a f ha hq => vI_mod hm ha (by
    have := List.all_eq_true.mp (List.all_eq_true.mp f3 p (List.mem_range.mpr hp)) _ hq
    rwa [Bool.not_eq_true'] at this)
  obtain ⟨⟨h1, h2, h3, h4, h5, h6, h7, h8⟩, hp, hg, hc, hi, hr⟩ := hG
  refine ⟨⟨?_, ?_, ?_, ?_, ?_, ?_, ?_, ?_⟩, fun p q => ?_, fun p q => ?_, fun p q => ?_, fun p q => ?_, fun p q => ?_⟩
  · rw [s 85 37 (by decide) (by simp), s 0 13 (by decide) (by simp)]; exact h1
  · rw [s 85 38 (by decide) (by simp), s 0 14 (by decide) (by simp)]; exact h2
  · rw [s 85 39 (by decide) (by simp), s 0 15 (by decide) (by simp)]; exact h3
  · rw [s 85 41 (by decide) (by simp), s 0 18 (by decide) (by simp)]; exact h4
  · rw [s 85 40 (by decide) (by simp), s 0 19 (by decide) (by simp)]; exact h5
  · rw [s 85 45 (by decide) (by simp), s 0 11 (by decide) (by simp)]; exact h6
  · rw [s 85 47 (by decide) (by simp), s 0 16 (by decide) (by simp)]; exact h7
  · rw [s 85 43 (by decide) (by simp), s 1 4 (by decide) (by simp)]; exact h8
  · have g := s8 p q
    rw [g 94 p (by decide) (by simp), g (57 + p) 0 (by omega) (by simp), g 99 p (by decide) (by simp), g (57 + p) 1 (by omega) (by simp), g 100 p (by decide) (by simp), g (57 + p) 2 (by omega) (by simp), g 107 p (by decide) (by simp), g (57 + p) 3 (by omega) (by simp)]
    exact hp p q
  · have g := s8 p q
    rw [g 108 p (by decide) (by simp), g (65 + p) 0 (by omega) (by simp), g 109 p (by decide) (by simp), g (65 + p) 1 (by omega) (by simp), g 93 p (by decide) (by simp), g (65 + p) 2 (by omega) (by simp), g 110 p (by decide) (by simp), g (65 + p) 3 (by omega) (by simp), g 111 p (by decide) (by simp), g (65 + p) 4 (by omega) (by simp)]
    exact hg p q
  · have g := s12 p q
    rw [g 112 p (by decide) (by simp), g (73 + p) 0 (by omega) (by simp), g 113 p (by decide) (by simp), g (73 + p) 1 (by omega) (by simp), g 114 p (by decide) (by simp), g (73 + p) 2 (by omega) (by simp), g 115 p (by decide) (by simp), g (73 + p) 3 (by omega) (by simp), g 116 p (by decide) (by simp), g (73 + p) 4 (by omega) (by simp)]
    exact hc p q
  · rw [s8 p q (57 + p) 2 (by omega) (by simp), s 0 13 (by decide) (by simp)]
    exact hi p q
  · have g := s12 p q
    rw [g 101 p (by decide) (by simp), g (45 + p) 0 (by omega) (by simp), g 102 p (by decide) (by simp), g (45 + p) 1 (by omega) (by simp), g 103 p (by decide) (by simp), g (45 + p) 2 (by omega) (by simp)]
    exact hr p q
/-! the facts -/
/-- what is wanted of a call with a wrapper: wrapper W, the model's method M; fb: whether the model answers with a boolean -/
def opF (W M : Nat) (aW aM : List Value) (fb : Bool) (R : sH → Prop) (h : sH) : Prop := ∃ (k v : Int32) (h1 h2 : sH) (vs1 vs2 : List Value), sGo1 mtv eFu 30 W aW h = some (.inl (some (.int k)), h1) ∧ h1[85]? = some (.inr (9, vs1)) ∧ sGo1 mtv eFu 30 M aM h1 = some (.inl (some (.int v)), h2) ∧ h2[85]? = some (.inr (9, vs2)) ∧ vs2[42]? = some (.int k) ∧ (k = 0 → ∃ w, h2[117]? = some (.inl (2, w)) ∧ w[0]? = some (.long v.toInt64)) ∧ (fb = true → v = 0 ∨ v = 1) ∧ eLI R h2
/-- .. of a call without one -/
def opFd (X M : Nat) (aX aM : List Value) (R : sH → Prop) (h : sH) : Prop := ∃ (v : Int32) (h1 h2 : sH) (vs1 : List Value), sGo1 mtv eFu 30 X aX h = some (.inl (some (.int v)), h1) ∧ h1[85]? = some (.inr (9, vs1)) ∧ sGo1 mtv eFu 30 M aM h1 = some (.inl (some (.int v)), h2) ∧ eLI R h2
theorem obj85 {h : sH} (hI : eInv h) : ∃ vs, h[85]? = some (.inr (9, vs)) ∧ 47 < vs.length := by
  obtain ⟨-, -, vs, e, l, -⟩ := eInv_o (q := (85, 85)) (c := 9) (a := 85) hI rfl (Nat.le_refl _) (Nat.le_refl _)
  exact ⟨vs, e, by rw [l]; decide⟩
theorem fact_W {W M : Nat} {aW aM : List Value} {C1 C2 : eC} {fb : Bool} {R : sH → Prop} {RR : (Nat → Nat → Int32) → (Nat → Nat → Int64) → (Nat → Nat) → Prop} {h : sH} (k1 : eCo mtv eFu C1) (k2 : eCo mtv eFu C2)
    (e1 : C1.1 = W ∧ C2.1 = M) (d1 : C1.2.1 ≤ 30 ∧ C2.2.1 ≤ 30) (q1 : C1.2.2.2.1 = [] ∧ C2.2.2.2.1 = []) (hA1 : eAm 0 C1.2.2.1 aW) (hA2 : eAm 0 C2.2.2.1 aM)
    (z1 : eMa C1.2.2.2.2.1 85 85 31 = false ∧ eMa C1.2.2.2.2.1 85 85 34 = false) (z2 : eMa C2.2.2.2.2.1 85 85 31 = false ∧ eMa C2.2.2.2.2.1 85 85 34 = false) (hfb : fb = true → C2.2.2.2.2.2.1 = some eBo)
    (hI : eInv h) (hz : eSz h) (op : ∀ r : sR, qGo W aW h r → eInv r.2 → ∀ r2 : sR, qGo M aM r.2 r2 → opE r.1 r2.1 r2.2 RR)
    (fin : ∀ (h2 : sH) (I2 : Nat → Nat → Int32) (L2 : Nat → Nat → Int64) (R2 : Nat → Nat), qH h2 I2 L2 R2 → RR I2 L2 R2 → R h2) : opF W M aW aM fb R h := by
  obtain ⟨rfl, rfl⟩ := e1
  obtain ⟨r, h1, g1, i1, l1, m1, -, -⟩ := k1 30 aW h d1.1 hI hA1 (by rw [q1.1]; exact fun _ q => nomatch q)
  obtain ⟨r2, h2, g2, i2, l2, m2, s2, -⟩ := k2 30 aM h1 d1.2 i1 hA2 (by rw [q1.2]; exact fun _ q => nomatch q)
  obtain ⟨k, v, I2, L2, R2, x1, x2, x3, x4, x5, x6⟩ := op (r, h1) ⟨30, g1⟩ i1 (r2, h2) ⟨30, g2⟩
  dsimp only at x1 x2 x3
  subst x1 x2
  obtain ⟨vs1, E1, -⟩ := obj85 i1
  obtain ⟨-, -, vs2, E2, l42, q42⟩ := eInv_o (q := (85, 85)) (c := 9) (a := 85) i2 rfl (Nat.le_refl _) (Nat.le_refl _)
  obtain ⟨w42, f42, x, rfl, -, -⟩ := q42 42 (.inl (-2147483648, 2147483647)) rfl
  have hk : x = k := by
    rw [← x4, ← x3.2.1]
    exact (vI_at (c := .inr (9, vs2)) E2 f42).symm
  subst hk
  refine ⟨x, v, h1, h2, vs1, vs2, g1, E1, g2, E2, f42, fun e => ?_, fun e => ?_, i2, ?_, fin h2 I2 L2 R2 x3 x6⟩
  · obtain ⟨-, -, w, e117, l117, hv⟩ := eInv_a (q := (117, 117)) (a := 117) i2 rfl (Nat.le_refl _) (Nat.le_refl _)
    have l0 : 0 < w.length := by rw [l117]; decide
    have w0 : w[0]? = some (w[0]'l0) := List.getElem?_eq_getElem l0
    refine ⟨w, e117, ?_⟩
    have hy := hv _ (List.getElem_mem l0)
    have hy : ∃ y, w[0]'l0 = .long y := tFk_s (ty := .long) (rf := (0, 0)) rfl hy
    obtain ⟨y, hy⟩ := hy
    rw [w0, hy]
    have e9 := x5 e
    rw [← x3.2.2.1, vL_at (c := .inl (2, w)) e117 (show w[0]? = some (.long y) by rw [w0, hy])] at e9
    have e9 : y = v.toInt64 := e9
    rw [e9]
  · have s2 : eRes C2.2.2.2.2.2.1 C2.2.2.2.2.2.2.1 (.inl (some (.int v))) := s2
    rw [hfb e] at s2
    have s3 : eFm 0 eBo (.int v) := s2
    have := tFk_s (ty := .boolean) (rf := (0, 0)) rfl s3
    rcases (show (Value.int v = .int 0 ∨ Value.int v = .int 1) from this) with q | q
    · cases q; exact Or.inl rfl
    · cases q; exact Or.inr rfl
  · exact eSz_mod i2 m2 z2.1 z2.2 (eSz_mod i1 m1 z1.1 z1.2 hz)
theorem fact_D {W M : Nat} {aW aM : List Value} {C1 C2 : eC} {R : sH → Prop} {RR : (Nat → Nat → Int32) → (Nat → Nat → Int64) → (Nat → Nat) → Prop} {h : sH} (k1 : eCo mtv eFu C1) (k2 : eCo mtv eFu C2)
    (e1 : C1.1 = W ∧ C2.1 = M) (d1 : C1.2.1 ≤ 30 ∧ C2.2.1 ≤ 30) (q1 : C1.2.2.2.1 = [] ∧ C2.2.2.2.1 = []) (hA1 : eAm 0 C1.2.2.1 aW) (hA2 : eAm 0 C2.2.2.1 aM)
    (z1 : eMa C1.2.2.2.2.1 85 85 31 = false ∧ eMa C1.2.2.2.2.1 85 85 34 = false) (z2 : eMa C2.2.2.2.2.1 85 85 31 = false ∧ eMa C2.2.2.2.2.1 85 85 34 = false)
    (hI : eInv h) (hz : eSz h) (op : ∀ r : sR, qGo W aW h r → eInv r.2 → ∀ r2 : sR, qGo M aM r.2 r2 → opD r.1 r2.1 r2.2 RR)
    (fin : ∀ (h2 : sH) (I2 : Nat → Nat → Int32) (L2 : Nat → Nat → Int64) (R2 : Nat → Nat), qH h2 I2 L2 R2 → RR I2 L2 R2 → R h2) : opFd W M aW aM R h := by
  obtain ⟨rfl, rfl⟩ := e1
  obtain ⟨r, h1, g1, i1, l1, m1, -, -⟩ := k1 30 aW h d1.1 hI hA1 (by rw [q1.1]; exact fun _ q => nomatch q)
  obtain ⟨r2, h2, g2, i2, l2, m2, s2, -⟩ := k2 30 aM h1 d1.2 i1 hA2 (by rw [q1.2]; exact fun _ q => nomatch q)
  obtain ⟨v, I2, L2, R2, x1, x2, x3, x6⟩ := op (r, h1) ⟨30, g1⟩ i1 (r2, h2) ⟨30, g2⟩
  dsimp only at x1 x2 x3
  subst x1 x2
  obtain ⟨vs1, E1, -⟩ := obj85 i1
  exact ⟨v, h1, h2, vs1, g1, E1, g2, i2, eSz_mod i2 m2 z2.1 z2.2 (eSz_mod i1 m1 z1.1 z1.2 hz), fin h2 I2 L2 R2 x3 x6⟩
theorem eAi (x : Int32) : eFm 0 eI0 (.int x) := ⟨x, rfl, (i32_rng x).1, (i32_rng x).2⟩
theorem eAb {x : Int32} (h : x = 0 ∨ x = 1) : eFm 0 eBo (.int x) := by
  rcases h with rfl | rfl
  · exact ⟨0, rfl, by decide, by decide⟩
  · exact ⟨1, rfl, by decide, by decide⟩
theorem eAr {L k : Nat} : eFm L (eRr k k) (.ref k) := Or.inl ⟨k, k, rfl, Nat.le_refl _, Nat.le_refl _⟩
