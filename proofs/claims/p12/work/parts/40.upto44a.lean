/-! some parts, joined -/
section
/-! PARTIAL READING (part 40: words and rows): what holds of every run of a method that comes to an end; that it does so, and within what bounds, say the contracts of part 32 -/
/-! the heap as numbers: ints, longs, the doors' places -/
noncomputable def vI (h : sH) (a f : Nat) : Int32 := match h[a]? with
  | some c => iOf ((sVs c).getD f .null)
  | none => 0
noncomputable def vL (h : sH) (a f : Nat) : Int64 := match h[a]? with
  | some c => lOf ((sVs c).getD f .null)
  | none => 0
noncomputable def nOf (v : Value) : Nat := match v with
  | .ref k => k
  | _ => 0
noncomputable def vR (h : sH) (j : Nat) : Nat := match h[13]? with
  | some c => nOf ((sVs c).getD j .null)
  | none => 0
noncomputable def vD (h : sH) : UInt64 := match h[118]? with
  | some c => dOf ((sVs c).getD 0 .null)
  | none => 0
/-! the heap's shape: 0 an object, its class, its fields; 1 an array, its kind, its length -/
noncomputable def tShF (a : Nat) : Nat × Nat × Nat :=
  if a < 19 then (match a with
    | 0 => (0, 8, 20)
    | 1 => (0, 4, 7)
    | 2 => (1, 4, 6)
    | 9 => (0, 7, 9)
    | 10 => (1, 2, 180)
    | 11 => (1, 2, 10)
    | 12 => (1, 8, 16)
    | 13 => (1, 6, 10)
    | 14 => (1, 11, 12)
    | 15 => (1, 2, 4)
    | 16 => (1, 10, 8)
    | 17 => (1, 7, 8)
    | 18 => (1, 5, 12)
    | _ => (1, 0, 6))
  else if a < 35 then (0, 3, 6) else if a < 45 then (0, 1, 3) else if a < 57 then (0, 6, 3) else if a < 65 then (0, 5, 4) else if a < 73 then (0, 2, 5) else if a < 85 then (0, 0, 5) else (match a with
    | 85 => (0, 9, 48)
    | 86 => (1, 0, 96)
    | 87 => (1, 0, 6)
    | 91 => (1, 0, 6)
    | 92 => (1, 1, 16)
    | 93 => (1, 1, 8)
    | 94 => (1, 1, 8)
    | 97 => (1, 0, 10)
    | 98 => (1, 0, 10)
    | 99 => (1, 0, 8)
    | 100 => (1, 0, 8)
    | 101 => (1, 0, 12)
    | 102 => (1, 0, 12)
    | 103 => (1, 0, 12)
    | 104 => (1, 0, 4)
    | 105 => (1, 0, 24)
    | 106 => (1, 0, 6)
    | 107 => (1, 0, 8)
    | 108 => (1, 0, 8)
    | 109 => (1, 0, 8)
    | 110 => (1, 0, 8)
    | 111 => (1, 0, 8)
    | 112 => (1, 0, 12)
    | 113 => (1, 0, 12)
    | 114 => (1, 0, 12)
    | 115 => (1, 0, 12)
    | 116 => (1, 0, 12)
    | 117 => (1, 2, 1)
    | 118 => (1, 3, 1)
    | _ => (1, 0, 16))
/-- the places to which a reference may lead -/
noncomputable def tRf (a j : Nat) : Nat × Nat :=
  if a = 0 then (if j = 0 then (1, 1) else if j = 1 then (9, 9) else (10 + j, 10 + j))
  else if a = 1 then (2, 2) else if a = 2 then (3 + j, 3 + j) else if a = 9 then (10 + j, 10 + j) else if a = 12 then (19 + j, 19 + j) else if a = 13 then (35, 44)
  else if a = 14 then (45 + j, 45 + j) else if a = 16 then (57 + j, 57 + j) else if a = 17 then (65 + j, 65 + j) else if a = 18 then (73 + j, 73 + j) else if a = 85 then (86 + j, 86 + j) else (0, 0)
noncomputable def tVk (ty : FieldType) (rf : Nat × Nat) (v : Value) : Prop := match ty with
  | .int => ∃ x, v = .int x
  | .boolean => v = .int 0 ∨ v = .int 1
  | .long => ∃ x, v = .long x
  | .double => ∃ x, v = .double x
  | .object _ => ∃ k, v = .ref k ∧ rf.1 ≤ k ∧ k ≤ rf.2
  | .array _ => ∃ k, v = .ref k ∧ rf.1 ≤ k ∧ k ≤ rf.2
  | _ => False
noncomputable def tTy (c : sC) (j : Nat) : FieldType := match c with
  | .inr q => sFt q.1 j
  | .inl q => sTy q.1
noncomputable def tHd (c : sC) : Nat × Nat × Nat := match c with
  | .inr q => (0, q.1, q.2.length)
  | .inl q => (1, q.1, q.2.length)
noncomputable def tCell (a : Nat) (c : sC) : Prop := tShF a = tHd c ∧ ∀ (j : Nat) (v : Value), (sVs c)[j]? = some v → tVk (tTy c j) (tRf a j) v
noncomputable def tInv (h : sH) : Prop := 119 ≤ h.length ∧ (∀ (a : Nat) (c : sC), a < 119 → h[a]? = some c → tCell a c) ∧ ∀ (a : Nat) (c : sC), 119 ≤ a → h[a]? = some c → eGb c
/-- the heap, as numbers -/
noncomputable def qH (h : sH) (I : Nat → Nat → Int32) (L : Nat → Nat → Int64) (R : Nat → Nat) : Prop := tInv h ∧ vI h = I ∧ vL h = L ∧ vR h = R
theorem qH_of {h : sH} (ht : tInv h) : qH h (vI h) (vL h) (vR h) := ⟨ht, rfl, rfl, rfl⟩
noncomputable def upI (I : Nat → Nat → Int32) (a f : Nat) (x : Int32) : Nat → Nat → Int32 := fun b g => if b = a ∧ g = f then x else I b g
noncomputable def upL (L : Nat → Nat → Int64) (a f : Nat) (x : Int64) : Nat → Nat → Int64 := fun b g => if b = a ∧ g = f then x else L b g
noncomputable def upR (R : Nat → Nat) (f x : Nat) : Nat → Nat := fun g => if g = f then x else R g
/-! writing -/
noncomputable def tPut (c : sC) (j : Nat) (v : Value) : sC := match c with
  | .inr q => .inr (q.1, q.2.set j v)
  | .inl q => .inl (q.1, q.2.set j v)
theorem sVs_put {c : sC} {j : Nat} {v : Value} : sVs (tPut c j v) = (sVs c).set j v := by cases c <;> rfl
theorem tHd_put {c : sC} {j : Nat} {v : Value} : tHd (tPut c j v) = tHd c := by
  cases c <;> (simp only [tPut, tHd, List.length_set])
theorem tTy_put {c : sC} {j k : Nat} {v : Value} : tTy (tPut c j v) k = tTy c k := by cases c <;> rfl
theorem tInv_put {h : sH} {a j : Nat} {c : sC} {v : Value} (ht : tInv h) (hc : h[a]? = some c) (hv : tVk (tTy c j) (tRf a j) v) (hg : 119 ≤ a → ∃ x, v = .int x) : tInv (h.set a (tPut c j v)) := by
  obtain ⟨t1, t2, t3⟩ := ht
  have hl : a < h.length := (List.getElem?_eq_some_iff.mp hc).1
  refine ⟨by rw [List.length_set]; exact t1, fun b d hb hd => ?_, fun b d hb hd => ?_⟩
  · by_cases e : a = b
    · subst e
      rw [List.getElem?_set_self hl] at hd
      cases hd
      obtain ⟨g1, g2⟩ := t2 a c hb hc
      refine ⟨by rw [tHd_put]; exact g1, fun k w hk => ?_⟩
      rw [tTy_put]
      rw [sVs_put] at hk
      by_cases ek : j = k
      · subst ek
        rw [List.getElem?_set_self (by have := (List.getElem?_eq_some_iff.mp hk).1; rw [List.length_set] at this; exact this)] at hk
        cases hk
        exact hv
      · rw [List.getElem?_set_ne ek] at hk
        exact g2 k w hk
    · rw [List.getElem?_set_ne e] at hd
      exact t2 b d hb hd
  · by_cases e : a = b
    · subst e
      rw [List.getElem?_set_self hl] at hd
      cases hd
      obtain ⟨w, rfl, h2, h3⟩ := t3 a c hb hc
      obtain ⟨x, rfl⟩ := hg hb
      refine ⟨w.set j (.int x), rfl, by rw [List.length_set]; exact h2, fun u hu => ?_⟩
      rcases List.mem_or_eq_of_mem_set hu with q | q
      · exact h3 u q
      · exact ⟨x, q⟩
    · rw [List.getElem?_set_ne e] at hd
      exact t3 b d hb hd
theorem vI_put {h : sH} {a j : Nat} {c : sC} {v : Value} (hc : h[a]? = some c) (hj : j < (sVs c).length) : vI (h.set a (tPut c j v)) = upI (vI h) a j (iOf v) := by
  have hl : a < h.length := (List.getElem?_eq_some_iff.mp hc).1
  funext b g
  unfold upI
  by_cases e : a = b
  · subst e
    unfold vI
    rw [List.getElem?_set_self hl, hc]
    dsimp only
    rw [sVs_put, getD_set hj]
    by_cases eg : g = j
    · rw [if_pos eg, if_pos ⟨rfl, eg⟩]
    · rw [if_neg eg, if_neg (fun q => eg q.2)]
  · unfold vI
    rw [List.getElem?_set_ne e, if_neg (fun q => e q.1.symm)]
theorem vL_put {h : sH} {a j : Nat} {c : sC} {v : Value} (hc : h[a]? = some c) (hj : j < (sVs c).length) : vL (h.set a (tPut c j v)) = upL (vL h) a j (lOf v) := by
  have hl : a < h.length := (List.getElem?_eq_some_iff.mp hc).1
  funext b g
  unfold upL
  by_cases e : a = b
  · subst e
    unfold vL
    rw [List.getElem?_set_self hl, hc]
    dsimp only
    rw [sVs_put, getD_set hj]
    by_cases eg : g = j
    · rw [if_pos eg, if_pos ⟨rfl, eg⟩]
    · rw [if_neg eg, if_neg (fun q => eg q.2)]
  · unfold vL
    rw [List.getElem?_set_ne e, if_neg (fun q => e q.1.symm)]
theorem vR_put {h : sH} {a j : Nat} {c : sC} {v : Value} (hc : h[a]? = some c) (hj : j < (sVs c).length) : vR (h.set a (tPut c j v)) = if a = 13 then upR (vR h) j (nOf v) else vR h := by
  have hl : a < h.length := (List.getElem?_eq_some_iff.mp hc).1
  by_cases e : a = 13
  · subst e
    rw [if_pos rfl]
    funext g
    unfold vR upR
    rw [List.getElem?_set_self hl, hc]
    dsimp only
    rw [sVs_put, getD_set hj]
    by_cases eg : g = j
    · rw [if_pos eg, if_pos eg]
    · rw [if_neg eg, if_neg eg]
  · rw [if_neg e]
    funext g
    unfold vR
    rw [List.getElem?_set_ne e]
theorem upI_eq {I : Nat → Nat → Int32} {a f : Nat} {x : Int32} (h : I a f = x) : upI I a f x = I := by
  funext b g
  unfold upI
  split
  · next e => rw [e.1, e.2, h]
  · rfl
theorem upL_eq {L : Nat → Nat → Int64} {a f : Nat} {x : Int64} (h : L a f = x) : upL L a f x = L := by
  funext b g
  unfold upL
  split
  · next e => rw [e.1, e.2, h]
  · rfl
theorem vI_at {h : sH} {a j : Nat} {c : sC} {v : Value} (hc : h[a]? = some c) (hv : (sVs c)[j]? = some v) : vI h a j = iOf v := by
  unfold vI
  rw [hc]
  dsimp only
  rw [List.getD_eq_getElem?_getD, hv]
  rfl
theorem vL_at {h : sH} {a j : Nat} {c : sC} {v : Value} (hc : h[a]? = some c) (hv : (sVs c)[j]? = some v) : vL h a j = lOf v := by
  unfold vL
  rw [hc]
  dsimp only
  rw [List.getD_eq_getElem?_getD, hv]
  rfl
theorem tVk_ty {ty : FieldType} {rf : Nat × Nat} {v : Value} (h : tVk ty rf v) (hk : ty = .int ∨ ty = .boolean) : ∃ x, v = .int x := by
  rcases hk with rfl | rfl
  · exact h
  · rcases (show v = .int 0 ∨ v = .int 1 from h) with rfl | rfl <;> exact ⟨_, rfl⟩
/-- an int is written where an int stood -/
theorem qH_pI {h : sH} {I : Nat → Nat → Int32} {L : Nat → Nat → Int64} {R : Nat → Nat} {a j : Nat} {c : sC} {v : Value} {x : Int32} (th : qH h I L R) (hc : h[a]? = some c) (hv : (sVs c)[j]? = some v) (hi : ∃ y, v = .int y) (ht : a < 119 → tVk (tTy c j) (tRf a j) (.int x)) (h13 : a < 119 → tVk (tTy c j) (tRf a j) v) : qH (h.set a (tPut c j (.int x))) (upI I a j x) L R := by
  obtain ⟨t, rfl, rfl, rfl⟩ := th
  have hj : j < (sVs c).length := (List.getElem?_eq_some_iff.mp hv).1
  obtain ⟨y, rfl⟩ := hi
  have n13 : a ≠ 13 := fun e => by
    subst e
    obtain ⟨g1, g2⟩ := t.2.1 13 c (by decide) hc
    have g3 := g2 j _ hv
    have e0 : tTy c j = .object (sNm 1) := by
      cases c with
      | inr q => exact absurd (congrArg Prod.fst g1) (by show ¬ (1 : Nat) = 0; decide)
      | inl q =>
        have e2 : (6 : Nat) = q.1 := congrArg (fun z : Nat × Nat × Nat => z.2.1) g1
        show sTy q.1 = _
        rw [← e2]; rfl
    rw [e0] at g3
    obtain ⟨k, hk, -⟩ := g3
    cases hk
  have tv : tInv (h.set a (tPut c j (.int x))) := by
    by_cases ha : a < 119
    · exact tInv_put t hc (ht ha) (fun e => absurd ha (by omega))
    · obtain ⟨t1, t2, t3⟩ := t
      have hl : a < h.length := (List.getElem?_eq_some_iff.mp hc).1
      refine ⟨by rw [List.length_set]; exact t1, fun b d hb hd => ?_, fun b d hb hd => ?_⟩
      · rw [List.getElem?_set_ne (by omega)] at hd; exact t2 b d hb hd
      · by_cases e : a = b
        · subst e
          rw [List.getElem?_set_self hl] at hd
          cases hd
          obtain ⟨w, rfl, h2, h3⟩ := t3 a c hb hc
          refine ⟨w.set j (.int x), rfl, by rw [List.length_set]; exact h2, fun u hu => ?_⟩
          rcases List.mem_or_eq_of_mem_set hu with q | q
          · exact h3 u q
          · exact ⟨x, q⟩
        · rw [List.getElem?_set_ne e] at hd
          exact t3 b d hb hd
  refine ⟨tv, vI_put hc hj, ?_, ?_⟩
  · rw [vL_put hc hj]
    exact upL_eq (by rw [vL_at hc hv]; rfl)
  · rw [vR_put hc hj, if_neg n13]
theorem qH_pL {h : sH} {I : Nat → Nat → Int32} {L : Nat → Nat → Int64} {R : Nat → Nat} {a j : Nat} {c : sC} {v : Value} {x : Int64} (th : qH h I L R) (ha : a < 119) (h13 : a ≠ 13) (hc : h[a]? = some c) (hv : (sVs c)[j]? = some v) (hi : ∃ y, v = .long y) (ht : tVk (tTy c j) (tRf a j) (.long x)) : qH (h.set a (tPut c j (.long x))) I (upL L a j x) R := by
  obtain ⟨t, rfl, rfl, rfl⟩ := th
  have hj : j < (sVs c).length := (List.getElem?_eq_some_iff.mp hv).1
  obtain ⟨y, rfl⟩ := hi
  refine ⟨tInv_put t hc ht (fun e => absurd ha (by omega)), ?_, vL_put hc hj, ?_⟩
  · rw [vI_put hc hj]
    exact upI_eq (by rw [vI_at hc hv]; rfl)
  · rw [vR_put hc hj, if_neg h13]
/-! runs -/
noncomputable def qW (K N pc : Nat) (lv : sL) (st : List Value) (h : sH) (Q : sR → Prop) : Prop := ∀ n D cl sl r, n < N → sRun mtv (sGo1 mtv eFu D) (mtv K) none n (pc, lv, st, h, cl, sl) = some r → Q r
noncomputable def qGo (K : Nat) (as : List Value) (h : sH) (r : sR) : Prop := ∃ D, sGo1 mtv eFu D K as h = some r
/-- what goes on behind a call that is gone into -/
noncomputable def qK (K N pc : Nat) (lv : sL) (rest : List Value) (Q : sR → Prop) : sR → Prop := fun r => match r with
  | (.inl v, h1) => qW K N (pc + 3) lv (v.toList ++ rest) h1 Q
  | (.inr E, h1) => Q (.inr E, h1)
noncomputable def qLs (lv : sL) (A : List (Option Value)) : Prop := ∀ (j : Nat) (v : Value), A[j]? = some (some v) → sLk j lv = some v
noncomputable def qSt (j : Nat) (v : Value) : List (Option Value) → List (Option Value)
  | [] => []
  | a :: l => match j with
    | 0 => some v :: l
    | 1 => (match a with
      | some w => (bif Nat.beq w.category 2 then none else some w)
      | none => none) :: qSt 0 v l
    | j + 2 => a :: qSt (j + 1) v l
noncomputable def qSt2 (j : Nat) (v : Value) : List (Option Value) → List (Option Value)
  | [] => []
  | a :: l => match j with
    | 0 => some v :: (match l with
      | [] => []
      | _ :: r => none :: r)
    | 1 => (match a with
      | some w => (bif Nat.beq w.category 2 then none else some w)
      | none => none) :: qSt2 0 v l
    | j + 2 => a :: qSt2 (j + 1) v l
theorem qSt_n {j : Nat} {v : Value} : qSt j v [] = [] := by
  unfold qSt; rfl
theorem qSt2_n {j : Nat} {v : Value} : qSt2 j v [] = [] := by
  unfold qSt2; rfl
theorem qSt_g {v w : Value} : ∀ {A : List (Option Value)} {j k : Nat}, (qSt j v A)[k]? = some (some w) → (k = j ∧ w = v) ∨ (k ≠ j ∧ A[k]? = some (some w) ∧ (k + 1 = j → w.category = 1))
  | [], j, k, h => by
    rw [qSt_n, List.getElem?_nil] at h
    cases h
  | a :: l, 0, 0, h => by cases h; exact Or.inl ⟨rfl, rfl⟩
  | a :: l, 0, k + 1, h => Or.inr ⟨by omega, h, by omega⟩
  | a :: l, 1, 0, h => by
    cases a with
    | none => cases h
    | some u =>
      have h : (some (bif Nat.beq u.category 2 then none else some u) : Option (Option Value)) = some (some w) := h
      cases g : Nat.beq u.category 2 with
      | true => rw [g] at h; cases h
      | false =>
        rw [g] at h
        cases h
        refine Or.inr ⟨by omega, rfl, fun _ => ?_⟩
        cases w <;> first | rfl | cases g
  | a :: l, 1, k + 1, h => by
    rcases qSt_g (A := l) (j := 0) (k := k) h with ⟨e, e2⟩ | ⟨e, e2, e3⟩
    · exact Or.inl ⟨by omega, e2⟩
    · exact Or.inr ⟨by omega, e2, by omega⟩
  | a :: l, j + 2, 0, h => Or.inr ⟨by omega, h, by omega⟩
  | a :: l, j + 2, k + 1, h => by
    rcases qSt_g (A := l) (j := j + 1) (k := k) h with ⟨e, e2⟩ | ⟨e, e2, e3⟩
    · exact Or.inl ⟨by omega, e2⟩
    · exact Or.inr ⟨by omega, e2, fun q => e3 (by omega)⟩
theorem qSt2_g {v w : Value} : ∀ {A : List (Option Value)} {j k : Nat}, (qSt2 j v A)[k]? = some (some w) → (k = j ∧ w = v) ∨ (k ≠ j ∧ k ≠ j + 1 ∧ A[k]? = some (some w) ∧ (k + 1 = j → w.category = 1))
  | [], j, k, h => by
    rw [qSt2_n, List.getElem?_nil] at h
    cases h
  | a :: l, 0, 0, h => by cases h; exact Or.inl ⟨rfl, rfl⟩
  | [a], 0, k + 1, h => by cases h
  | a :: b :: l, 0, 1, h => by cases h
  | a :: b :: l, 0, k + 2, h => Or.inr ⟨by omega, by omega, h, by omega⟩
  | a :: l, 1, 0, h => by
    cases a with
    | none => cases h
    | some u =>
      have h : (some (bif Nat.beq u.category 2 then none else some u) : Option (Option Value)) = some (some w) := h
      cases g : Nat.beq u.category 2 with
      | true => rw [g] at h; cases h
      | false =>
        rw [g] at h
        cases h
        refine Or.inr ⟨by omega, by omega, rfl, fun _ => ?_⟩
        cases w <;> first | rfl | cases g
  | a :: l, 1, k + 1, h => by
    rcases qSt2_g (A := l) (j := 0) (k := k) h with ⟨e, e2⟩ | ⟨e, e4, e2, e3⟩
    · exact Or.inl ⟨by omega, e2⟩
    · exact Or.inr ⟨by omega, by omega, e2, by omega⟩
  | a :: l, j + 2, 0, h => Or.inr ⟨by omega, by omega, h, by omega⟩
  | a :: l, j + 2, k + 1, h => by
    rcases qSt2_g (A := l) (j := j + 1) (k := k) h with ⟨e, e2⟩ | ⟨e, e4, e2, e3⟩
    · exact Or.inl ⟨by omega, e2⟩
    · exact Or.inr ⟨by omega, by omega, e2, fun q => e3 (by omega)⟩
theorem qLs_s1 {lv : sL} {A : List (Option Value)} {j : Nat} {v : Value} (hl : qLs lv A) : qLs (sS1 j v lv) (qSt j v A) := by
  intro k w hk
  rcases qSt_g hk with ⟨e, e2⟩ | ⟨e, e2, e3⟩
  · rw [e, e2]; exact sLk_s1
  · unfold sS1 sLk
    rw [if_neg (fun q => e q.symm)]
    refine sLk_fil (hl k w e2) ?_
    dsimp only
    have e4 : (k == j) = false := beq_false_of_ne e
    rw [e4]
    by_cases e5 : k + 1 = j
    · rw [e3 e5]
      cases (k + 1 == j) <;> rfl
    · have e6 : (k + 1 == j) = false := beq_false_of_ne e5
      rw [e6]; rfl
theorem qLs_s2 {lv : sL} {A : List (Option Value)} {j : Nat} {v : Value} (hl : qLs lv A) : qLs (sS2 j v lv) (qSt2 j v A) := by
  intro k w hk
  rcases qSt2_g hk with ⟨e, e2⟩ | ⟨e, e9, e2, e3⟩
  · rw [e, e2]; unfold sS2 sLk; exact if_pos rfl
  · unfold sS2 sLk
    rw [if_neg (fun q => e q.symm)]
    refine sLk_fil (hl k w e2) ?_
    dsimp only
    have e4 : (k == j) = false := beq_false_of_ne e
    have e7 : (k == j + 1) = false := beq_false_of_ne e9
    rw [e4, e7]
    by_cases e5 : k + 1 = j
    · rw [e3 e5]
      cases (k + 1 == j) <;> rfl
    · have e6 : (k + 1 == j) = false := beq_false_of_ne e5
      rw [e6]; rfl
/-- the locals with which a method begins -/
noncomputable def qAr : List Value → List (Option Value)
  | [] => []
  | v :: vs => some v :: (bif Nat.beq v.category 2 then none :: qAr vs else qAr vs)
theorem qAr_s : ∀ {vs : List Value} {i j : Nat} {v : Value}, (qAr vs)[j]? = some (some v) → sLk (i + j) (lv_args i vs) = some v
  | [], i, j, v, h => by cases h
  | u :: vs, i, 0, v, h => by
    cases h
    unfold lv_args sLk
    exact if_pos (by omega)
  | u :: vs, i, j + 1, v, h => by
    unfold lv_args sLk
    rw [if_neg (by omega)]
    have h : (bif Nat.beq u.category 2 then none :: qAr vs else qAr vs)[j]? = some (some v) := h
    by_cases g : u.category = 2
    · rw [if_pos g]
      rw [show Nat.beq u.category 2 = true by rw [g]; rfl] at h
      cases j with
      | zero => cases h
      | succ j =>
        have := qAr_s (vs := vs) (i := i + 2) (j := j) h
        rw [show i + (j + 1 + 1) = i + 2 + j by omega]; exact this
    · rw [if_neg g]
      rw [show Nat.beq u.category 2 = false by cases q : Nat.beq u.category 2 with
        | true => exact absurd (Nat.eq_of_beq_eq_true q) g
        | false => rfl] at h
      have := qAr_s (vs := vs) (i := i + 1) (j := j) h
      rw [show i + (j + 1) = i + 1 + j by omega]; exact this
theorem qLs_ar {vs : List Value} (n : Nat) : qLs (lv_args 0 vs) (qAr vs ++ List.replicate n none) := by
  intro j v hj
  by_cases h : j < (qAr vs).length
  · rw [List.getElem?_append_left h] at hj
    have := qAr_s (i := 0) hj
    rwa [Nat.zero_add] at this
  · rw [List.getElem?_append_right (by omega)] at hj
    have := List.eq_of_mem_replicate (List.mem_of_getElem? hj)
    cases this
noncomputable def qSub : List (Option Value) → List (Option Value) → Prop
  | [], _ => True
  | none :: l, _ :: r => qSub l r
  | some v :: l, some w :: r => v = w ∧ qSub l r
  | _, _ => False
theorem qSub_s : ∀ {A B : List (Option Value)}, qSub A B → ∀ (j : Nat) (v : Value), A[j]? = some (some v) → B[j]? = some (some v)
  | [], B, _, j, v, h => by cases h
  | none :: l, [], h, _, _, _ => False.elim h
  | none :: l, b :: r, h, 0, v, hj => by cases hj
  | none :: l, b :: r, h, j + 1, v, hj => qSub_s (A := l) (B := r) h j v hj
  | some u :: l, [], h, _, _, _ => False.elim h
  | some u :: l, none :: r, h, _, _, _ => False.elim h
  | some u :: l, some w :: r, h, 0, v, hj => by cases hj; rw [h.1]; rfl
  | some u :: l, some w :: r, h, j + 1, v, hj => qSub_s (A := l) (B := r) h.2 j v hj
theorem qLs_wk {lv : sL} {A B : List (Option Value)} (hl : qLs lv B) (h : qSub A B) : qLs lv A := fun j v hj => hl j v (qSub_s h j v hj)
theorem qW_le {K N N' pc : Nat} {lv : sL} {st : List Value} {h : sH} {Q : sR → Prop} (hN : N ≤ N') (k : qW K N' pc lv st h Q) : qW K N pc lv st h Q := fun n D cl sl r hn hr => k n D cl sl r (by omega) hr
theorem qW_0 {K pc : Nat} {lv : sL} {st : List Value} {h : sH} {Q : sR → Prop} : qW K 0 pc lv st h Q := fun _ _ _ _ _ hn _ => absurd hn (Nat.not_lt_zero _)
theorem qGo_w {K : Nat} {as : List Value} {h : sH} {r : sR} {Q : sR → Prop} (g : qGo K as h r) (k : ∀ N, qW K N 0 (lv_args 0 as) [] h Q) : Q r := by
  obtain ⟨D, g⟩ := g
  cases D with
  | zero => cases g
  | succ D =>
    rw [sGo1_s] at g
    split at g
    · exact k _ _ _ _ _ _ (Nat.lt_succ_self _) g
    · cases g
theorem qGo_eq {K : Nat} {as : List Value} {h : sH} {r : sR} (g : qGo K as h r) : r = (r.1, r.2) := rfl
end
section
/-! part 41: rows of the partial reading (printed by wip/q/mk41.py) -/
noncomputable def sNi (i : Instr) : Bool := match i with
  | .new _ => false
  | .invokespecial _ => false
  | .invokestatic _ => false
  | _ => true
section QR
variable {K N pc a1 a2 ln : Nat} {Q : sR → Prop} {lv : sL} {st : List Value} {h : sH} {I : Nat → Nat → Int32} {L : Nat → Nat → Int64} {R : Nat → Nat}
theorem q_step1 (hs : ∀ D cl sl z, sStep mtv (sGo1 mtv eFu D) (mtv K) none (pc, lv, st, h, cl, sl) = some z → match z with
    | .inl q => ∀ n r, n < N → sRun mtv (sGo1 mtv eFu D) (mtv K) none n q = some r → Q r
    | .inr r => Q r) : qW K (N + 1) pc lv st h Q := by
  intro n D cl sl r hn hr
  cases n with
  | zero => cases hr
  | succ n =>
    rw [sRun_s] at hr
    cases g : sStep mtv (sGo1 mtv eFu D) (mtv K) none (pc, lv, st, h, cl, sl) with
    | none => rw [g] at hr; cases hr
    | some z =>
      have h1 := hs D cl sl z g
      rw [g] at hr
      cases z with
      | inl q => exact h1 n r (by omega) hr
      | inr r' => cases hr; exact h1
theorem q_P1 {e : sE} {pc' : Nat} {lv' : sL} {st' : List Value} (he : mE (mtv K) pc = some e) (hq : sP (mL (mtv K)) e.1 pc lv st = some (pc', lv', st')) (k : qW K N pc' lv' st' h Q) : qW K (N + 1) pc lv st h Q := q_step1 (fun D cl sl z hz => by
  rw [sStep_P (cf := (pc, lv, st, h, cl, sl)) he hq] at hz
  cases hz
  exact fun n r hn hr => k n D cl sl r hn hr)
theorem q_P {e : sE} {pc' : Nat} {lv' : sL} {st' : List Value} (he : mE (mtv K) pc = some e) (hq : sP (mL (mtv K)) e.1 pc lv st = some (pc', lv', st')) (k : qW K N pc' lv' st' h Q) : qW K N pc lv st h Q := qW_le (Nat.le_succ N) (q_P1 he hq k)
/-- an instruction of the heap -/
theorem q_H {e : sE} (he : mE (mtv K) pc = some e) (hP : sP (mL (mtv K)) e.1 pc lv st = none) (hH : ∀ z, sHp none e.1 e.2.2.1 e.2.2.2 pc lv st h = some z → qW K N z.1 z.2.1 z.2.2.1 z.2.2.2 Q) (hN : sHp none e.1 e.2.2.1 e.2.2.2 pc lv st h = none → ∀ D cl sl, sStep mtv (sGo1 mtv eFu D) (mtv K) none (pc, lv, st, h, cl, sl) = none) : qW K N pc lv st h Q := qW_le (Nat.le_succ N) (q_step1 (fun D cl sl z hz => by
  cases g : sHp none e.1 e.2.2.1 e.2.2.2 pc lv st h with
  | none => rw [hN g D cl sl] at hz; cases hz
  | some y =>
    have h1 := hH y g
    unfold sStep at hz
    rw [he] at hz; dsimp only at hz
    rw [hP] at hz; dsimp only at hz
    rw [g] at hz
    cases hz
    exact fun n r hn hr => h1 n D cl sl r hn hr))

theorem q_iload {i : Nat} {x : Int32} (he : mE (mtv K) pc = some (.iload i, ln, a1, a2)) (hv : sLk i lv = some (.int x)) (k : qW K N (pc + 2) lv (.int x :: st) h Q) : qW K N pc lv st h Q := q_P he (by show sLdI _ _ _ _ = _; unfold sLdI; rw [hv]) k
theorem q1_iload {i : Nat} {x : Int32} (he : mE (mtv K) pc = some (.iload i, ln, a1, a2)) (hv : sLk i lv = some (.int x)) (k : qW K N (pc + 2) lv (.int x :: st) h Q) : qW K (N + 1) pc lv st h Q := q_P1 he (by show sLdI _ _ _ _ = _; unfold sLdI; rw [hv]) k
theorem q_iload_n {i : Fin 4} {x : Int32} (he : mE (mtv K) pc = some (.iload_n i, ln, a1, a2)) (hv : sLk i lv = some (.int x)) (k : qW K N (pc + 1) lv (.int x :: st) h Q) : qW K N pc lv st h Q := q_P he (by show sLdI _ _ _ _ = _; unfold sLdI; rw [hv]) k
theorem q1_iload_n {i : Fin 4} {x : Int32} (he : mE (mtv K) pc = some (.iload_n i, ln, a1, a2)) (hv : sLk i lv = some (.int x)) (k : qW K N (pc + 1) lv (.int x :: st) h Q) : qW K (N + 1) pc lv st h Q := q_P1 he (by show sLdI _ _ _ _ = _; unfold sLdI; rw [hv]) k
theorem q_lload {i : Nat} {x : Int64} (he : mE (mtv K) pc = some (.lload i, ln, a1, a2)) (hv : sLk i lv = some (.long x)) (k : qW K N (pc + 2) lv (.long x :: st) h Q) : qW K N pc lv st h Q := q_P he (by show sLdL _ _ _ _ = _; unfold sLdL; rw [hv]) k
theorem q1_lload {i : Nat} {x : Int64} (he : mE (mtv K) pc = some (.lload i, ln, a1, a2)) (hv : sLk i lv = some (.long x)) (k : qW K N (pc + 2) lv (.long x :: st) h Q) : qW K (N + 1) pc lv st h Q := q_P1 he (by show sLdL _ _ _ _ = _; unfold sLdL; rw [hv]) k
theorem q_lload_n {i : Fin 4} {x : Int64} (he : mE (mtv K) pc = some (.lload_n i, ln, a1, a2)) (hv : sLk i lv = some (.long x)) (k : qW K N (pc + 1) lv (.long x :: st) h Q) : qW K N pc lv st h Q := q_P he (by show sLdL _ _ _ _ = _; unfold sLdL; rw [hv]) k
theorem q1_lload_n {i : Fin 4} {x : Int64} (he : mE (mtv K) pc = some (.lload_n i, ln, a1, a2)) (hv : sLk i lv = some (.long x)) (k : qW K N (pc + 1) lv (.long x :: st) h Q) : qW K (N + 1) pc lv st h Q := q_P1 he (by show sLdL _ _ _ _ = _; unfold sLdL; rw [hv]) k
theorem q_fload {i : Nat} {x : UInt32} (he : mE (mtv K) pc = some (.fload i, ln, a1, a2)) (hv : sLk i lv = some (.float x)) (k : qW K N (pc + 2) lv (.float x :: st) h Q) : qW K N pc lv st h Q := q_P he (by show sLdF _ _ _ _ = _; unfold sLdF; rw [hv]) k
theorem q1_fload {i : Nat} {x : UInt32} (he : mE (mtv K) pc = some (.fload i, ln, a1, a2)) (hv : sLk i lv = some (.float x)) (k : qW K N (pc + 2) lv (.float x :: st) h Q) : qW K (N + 1) pc lv st h Q := q_P1 he (by show sLdF _ _ _ _ = _; unfold sLdF; rw [hv]) k
theorem q_fload_n {i : Fin 4} {x : UInt32} (he : mE (mtv K) pc = some (.fload_n i, ln, a1, a2)) (hv : sLk i lv = some (.float x)) (k : qW K N (pc + 1) lv (.float x :: st) h Q) : qW K N pc lv st h Q := q_P he (by show sLdF _ _ _ _ = _; unfold sLdF; rw [hv]) k
theorem q1_fload_n {i : Fin 4} {x : UInt32} (he : mE (mtv K) pc = some (.fload_n i, ln, a1, a2)) (hv : sLk i lv = some (.float x)) (k : qW K N (pc + 1) lv (.float x :: st) h Q) : qW K (N + 1) pc lv st h Q := q_P1 he (by show sLdF _ _ _ _ = _; unfold sLdF; rw [hv]) k
theorem q_dload {i : Nat} {x : UInt64} (he : mE (mtv K) pc = some (.dload i, ln, a1, a2)) (hv : sLk i lv = some (.double x)) (k : qW K N (pc + 2) lv (.double x :: st) h Q) : qW K N pc lv st h Q := q_P he (by show sLdD _ _ _ _ = _; unfold sLdD; rw [hv]) k
theorem q1_dload {i : Nat} {x : UInt64} (he : mE (mtv K) pc = some (.dload i, ln, a1, a2)) (hv : sLk i lv = some (.double x)) (k : qW K N (pc + 2) lv (.double x :: st) h Q) : qW K (N + 1) pc lv st h Q := q_P1 he (by show sLdD _ _ _ _ = _; unfold sLdD; rw [hv]) k
theorem q_dload_n {i : Fin 4} {x : UInt64} (he : mE (mtv K) pc = some (.dload_n i, ln, a1, a2)) (hv : sLk i lv = some (.double x)) (k : qW K N (pc + 1) lv (.double x :: st) h Q) : qW K N pc lv st h Q := q_P he (by show sLdD _ _ _ _ = _; unfold sLdD; rw [hv]) k
theorem q1_dload_n {i : Fin 4} {x : UInt64} (he : mE (mtv K) pc = some (.dload_n i, ln, a1, a2)) (hv : sLk i lv = some (.double x)) (k : qW K N (pc + 1) lv (.double x :: st) h Q) : qW K (N + 1) pc lv st h Q := q_P1 he (by show sLdD _ _ _ _ = _; unfold sLdD; rw [hv]) k
theorem q_aload {i : Nat} {x : Nat} (he : mE (mtv K) pc = some (.aload i, ln, a1, a2)) (hv : sLk i lv = some (.ref x)) (k : qW K N (pc + 2) lv (.ref x :: st) h Q) : qW K N pc lv st h Q := q_P he (by show sLdA _ _ _ _ = _; unfold sLdA; rw [hv]) k
theorem q1_aload {i : Nat} {x : Nat} (he : mE (mtv K) pc = some (.aload i, ln, a1, a2)) (hv : sLk i lv = some (.ref x)) (k : qW K N (pc + 2) lv (.ref x :: st) h Q) : qW K (N + 1) pc lv st h Q := q_P1 he (by show sLdA _ _ _ _ = _; unfold sLdA; rw [hv]) k
theorem q_aload_n {i : Fin 4} {x : Nat} (he : mE (mtv K) pc = some (.aload_n i, ln, a1, a2)) (hv : sLk i lv = some (.ref x)) (k : qW K N (pc + 1) lv (.ref x :: st) h Q) : qW K N pc lv st h Q := q_P he (by show sLdA _ _ _ _ = _; unfold sLdA; rw [hv]) k
theorem q1_aload_n {i : Fin 4} {x : Nat} (he : mE (mtv K) pc = some (.aload_n i, ln, a1, a2)) (hv : sLk i lv = some (.ref x)) (k : qW K N (pc + 1) lv (.ref x :: st) h Q) : qW K (N + 1) pc lv st h Q := q_P1 he (by show sLdA _ _ _ _ = _; unfold sLdA; rw [hv]) k
theorem q_istore {i : Nat} {x : Int32} {A : List (Option Value)} (he : mE (mtv K) pc = some (.istore i, ln, a1, a2)) (hi : (i : Nat) < mL (mtv K)) (hl : qLs lv A) (k : ∀ lv', qLs lv' (qSt i (.int x) A) → qW K N (pc + 2) lv' st h Q) : qW K N pc lv (.int x :: st) h Q := q_P he (by unfold sP sStI; exact if_pos hi) (k _ (qLs_s1 hl))
theorem q_istore_n {i : Fin 4} {x : Int32} {A : List (Option Value)} (he : mE (mtv K) pc = some (.istore_n i, ln, a1, a2)) (hi : (i : Nat) < mL (mtv K)) (hl : qLs lv A) (k : ∀ lv', qLs lv' (qSt i (.int x) A) → qW K N (pc + 1) lv' st h Q) : qW K N pc lv (.int x :: st) h Q := q_P he (by unfold sP sStI; exact if_pos hi) (k _ (qLs_s1 hl))
theorem q_fstore {i : Nat} {x : UInt32} {A : List (Option Value)} (he : mE (mtv K) pc = some (.fstore i, ln, a1, a2)) (hi : (i : Nat) < mL (mtv K)) (hl : qLs lv A) (k : ∀ lv', qLs lv' (qSt i (.float x) A) → qW K N (pc + 2) lv' st h Q) : qW K N pc lv (.float x :: st) h Q := q_P he (by unfold sP sStF; exact if_pos hi) (k _ (qLs_s1 hl))
theorem q_fstore_n {i : Fin 4} {x : UInt32} {A : List (Option Value)} (he : mE (mtv K) pc = some (.fstore_n i, ln, a1, a2)) (hi : (i : Nat) < mL (mtv K)) (hl : qLs lv A) (k : ∀ lv', qLs lv' (qSt i (.float x) A) → qW K N (pc + 1) lv' st h Q) : qW K N pc lv (.float x :: st) h Q := q_P he (by unfold sP sStF; exact if_pos hi) (k _ (qLs_s1 hl))
theorem q_astore {i : Nat} {x : Nat} {A : List (Option Value)} (he : mE (mtv K) pc = some (.astore i, ln, a1, a2)) (hi : (i : Nat) < mL (mtv K)) (hl : qLs lv A) (k : ∀ lv', qLs lv' (qSt i (.ref x) A) → qW K N (pc + 2) lv' st h Q) : qW K N pc lv (.ref x :: st) h Q := q_P he (by unfold sP sStA; exact if_pos hi) (k _ (qLs_s1 hl))
theorem q_astore_n {i : Fin 4} {x : Nat} {A : List (Option Value)} (he : mE (mtv K) pc = some (.astore_n i, ln, a1, a2)) (hi : (i : Nat) < mL (mtv K)) (hl : qLs lv A) (k : ∀ lv', qLs lv' (qSt i (.ref x) A) → qW K N (pc + 1) lv' st h Q) : qW K N pc lv (.ref x :: st) h Q := q_P he (by unfold sP sStA; exact if_pos hi) (k _ (qLs_s1 hl))
theorem q_lstore {i : Nat} {x : Int64} {A : List (Option Value)} (he : mE (mtv K) pc = some (.lstore i, ln, a1, a2)) (hi : (i : Nat) + 1 < mL (mtv K)) (hl : qLs lv A) (k : ∀ lv', qLs lv' (qSt2 i (.long x) A) → qW K N (pc + 2) lv' st h Q) : qW K N pc lv (.long x :: st) h Q := q_P he (by unfold sP sStL; exact if_pos hi) (k _ (qLs_s2 hl))
theorem q_lstore_n {i : Fin 4} {x : Int64} {A : List (Option Value)} (he : mE (mtv K) pc = some (.lstore_n i, ln, a1, a2)) (hi : (i : Nat) + 1 < mL (mtv K)) (hl : qLs lv A) (k : ∀ lv', qLs lv' (qSt2 i (.long x) A) → qW K N (pc + 1) lv' st h Q) : qW K N pc lv (.long x :: st) h Q := q_P he (by unfold sP sStL; exact if_pos hi) (k _ (qLs_s2 hl))
theorem q_dstore {i : Nat} {x : UInt64} {A : List (Option Value)} (he : mE (mtv K) pc = some (.dstore i, ln, a1, a2)) (hi : (i : Nat) + 1 < mL (mtv K)) (hl : qLs lv A) (k : ∀ lv', qLs lv' (qSt2 i (.double x) A) → qW K N (pc + 2) lv' st h Q) : qW K N pc lv (.double x :: st) h Q := q_P he (by unfold sP sStD; exact if_pos hi) (k _ (qLs_s2 hl))
theorem q_dstore_n {i : Fin 4} {x : UInt64} {A : List (Option Value)} (he : mE (mtv K) pc = some (.dstore_n i, ln, a1, a2)) (hi : (i : Nat) + 1 < mL (mtv K)) (hl : qLs lv A) (k : ∀ lv', qLs lv' (qSt2 i (.double x) A) → qW K N (pc + 1) lv' st h Q) : qW K N pc lv (.double x :: st) h Q := q_P he (by unfold sP sStD; exact if_pos hi) (k _ (qLs_s2 hl))
theorem q_iinc {i : Nat} {n : Int} {x y : Int32} {A : List (Option Value)} (he : mE (mtv K) pc = some (.iinc i n, ln, a1, a2)) (hi : i < mL (mtv K)) (hl : qLs lv A) (hv : sLk i lv = some (.int x)) (hy : Int32.ofInt n = y) (k : ∀ lv', qLs lv' (qSt i (.int (x + y)) A) → qW K N (pc + 3) lv' st h Q) : qW K N pc lv st h Q := q_P he (by subst hy; unfold sP; dsimp only; rw [hv]; exact if_pos hi) (k _ (qLs_s1 hl))
theorem q_iconst {n : Int} {x : Int32} (he : mE (mtv K) pc = some (.iconst n, ln, a1, a2)) (hx : Int32.ofInt n = x) (k : qW K N (pc + 1) lv (.int x :: st) h Q) : qW K N pc lv st h Q := q_P he (by subst hx; rfl) k
theorem q_bipush {n : Int} {x : Int32} (he : mE (mtv K) pc = some (.bipush n, ln, a1, a2)) (hx : (Int8.ofInt n).toInt32 = x) (k : qW K N (pc + 2) lv (.int x :: st) h Q) : qW K N pc lv st h Q := q_P he (by subst hx; rfl) k
theorem q_sipush {n : Int} {x : Int32} (he : mE (mtv K) pc = some (.sipush n, ln, a1, a2)) (hx : (Int16.ofInt n).toInt32 = x) (k : qW K N (pc + 3) lv (.int x :: st) h Q) : qW K N pc lv st h Q := q_P he (by subst hx; rfl) k
theorem q_lconst {n : Fin 2} {x : Int64} (he : mE (mtv K) pc = some (.lconst n, ln, a1, a2)) (hx : Int64.ofNat (n : Nat) = x) (k : qW K N (pc + 1) lv (.long x :: st) h Q) : qW K N pc lv st h Q := q_P he (by subst hx; rfl) k
theorem q_fconst (he : mE (mtv K) pc = some (.fconst 0, ln, a1, a2)) (k : qW K N (pc + 1) lv (.float FP.fconst0 :: st) h Q) : qW K N pc lv st h Q := q_P he rfl k
theorem q_dconst (he : mE (mtv K) pc = some (.dconst 0, ln, a1, a2)) (k : qW K N (pc + 1) lv (.double FP.dconst0 :: st) h Q) : qW K N pc lv st h Q := q_P he rfl k
theorem q_goto {off : Int} {t : Nat} (he : mE (mtv K) pc = some (.goto off, ln, a1, a2)) (ht : sTg pc off = some t) (k : qW K N t lv st h Q) : qW K N pc lv st h Q := q_P he (by unfold sP; dsimp only; rw [ht]) k
theorem q_iadd {x y : Int32} (he : mE (mtv K) pc = some (.iadd, ln, a1, a2)) (k : qW K N (pc + 1) lv (.int (x + y) :: st) h Q) : qW K N pc lv (.int y :: .int x :: st) h Q := q_P he rfl k
theorem q_isub {x y : Int32} (he : mE (mtv K) pc = some (.isub, ln, a1, a2)) (k : qW K N (pc + 1) lv (.int (x - y) :: st) h Q) : qW K N pc lv (.int y :: .int x :: st) h Q := q_P he rfl k
theorem q_imul {x y : Int32} (he : mE (mtv K) pc = some (.imul, ln, a1, a2)) (k : qW K N (pc + 1) lv (.int (x * y) :: st) h Q) : qW K N pc lv (.int y :: .int x :: st) h Q := q_P he rfl k
theorem q_iand {x y : Int32} (he : mE (mtv K) pc = some (.iand, ln, a1, a2)) (k : qW K N (pc + 1) lv (.int (x &&& y) :: st) h Q) : qW K N pc lv (.int y :: .int x :: st) h Q := q_P he rfl k
theorem q_ior {x y : Int32} (he : mE (mtv K) pc = some (.ior, ln, a1, a2)) (k : qW K N (pc + 1) lv (.int (x ||| y) :: st) h Q) : qW K N pc lv (.int y :: .int x :: st) h Q := q_P he rfl k
theorem q_ixor {x y : Int32} (he : mE (mtv K) pc = some (.ixor, ln, a1, a2)) (k : qW K N (pc + 1) lv (.int (x ^^^ y) :: st) h Q) : qW K N pc lv (.int y :: .int x :: st) h Q := q_P he rfl k
theorem q_ishl {x y : Int32} (he : mE (mtv K) pc = some (.ishl, ln, a1, a2)) (k : qW K N (pc + 1) lv (.int (x <<< (y &&& 31)) :: st) h Q) : qW K N pc lv (.int y :: .int x :: st) h Q := q_P he rfl k
theorem q_ishr {x y : Int32} (he : mE (mtv K) pc = some (.ishr, ln, a1, a2)) (k : qW K N (pc + 1) lv (.int (x >>> (y &&& 31)) :: st) h Q) : qW K N pc lv (.int y :: .int x :: st) h Q := q_P he rfl k
theorem q_iushr {x y : Int32} (he : mE (mtv K) pc = some (.iushr, ln, a1, a2)) (k : qW K N (pc + 1) lv (.int ((x.toUInt32 >>> (y.toUInt32 &&& Int32.toUInt32 31)).toInt32) :: st) h Q) : qW K N pc lv (.int y :: .int x :: st) h Q := q_P he rfl k
theorem q_ladd {x y : Int64} (he : mE (mtv K) pc = some (.ladd, ln, a1, a2)) (k : qW K N (pc + 1) lv (.long (x + y) :: st) h Q) : qW K N pc lv (.long y :: .long x :: st) h Q := q_P he rfl k
theorem q_lsub {x y : Int64} (he : mE (mtv K) pc = some (.lsub, ln, a1, a2)) (k : qW K N (pc + 1) lv (.long (x - y) :: st) h Q) : qW K N pc lv (.long y :: .long x :: st) h Q := q_P he rfl k
theorem q_lmul {x y : Int64} (he : mE (mtv K) pc = some (.lmul, ln, a1, a2)) (k : qW K N (pc + 1) lv (.long (x * y) :: st) h Q) : qW K N pc lv (.long y :: .long x :: st) h Q := q_P he rfl k
theorem q_land {x y : Int64} (he : mE (mtv K) pc = some (.land, ln, a1, a2)) (k : qW K N (pc + 1) lv (.long (x &&& y) :: st) h Q) : qW K N pc lv (.long y :: .long x :: st) h Q := q_P he rfl k
theorem q_lor {x y : Int64} (he : mE (mtv K) pc = some (.lor, ln, a1, a2)) (k : qW K N (pc + 1) lv (.long (x ||| y) :: st) h Q) : qW K N pc lv (.long y :: .long x :: st) h Q := q_P he rfl k
theorem q_lxor {x y : Int64} (he : mE (mtv K) pc = some (.lxor, ln, a1, a2)) (k : qW K N (pc + 1) lv (.long (x ^^^ y) :: st) h Q) : qW K N pc lv (.long y :: .long x :: st) h Q := q_P he rfl k
theorem q_lshl {x : Int64} {y : Int32} (he : mE (mtv K) pc = some (.lshl, ln, a1, a2)) (k : qW K N (pc + 1) lv (.long (x <<< (y.toInt64 &&& 63)) :: st) h Q) : qW K N pc lv (.int y :: .long x :: st) h Q := q_P he rfl k
theorem q_lshr {x : Int64} {y : Int32} (he : mE (mtv K) pc = some (.lshr, ln, a1, a2)) (k : qW K N (pc + 1) lv (.long (x >>> (y.toInt64 &&& 63)) :: st) h Q) : qW K N pc lv (.int y :: .long x :: st) h Q := q_P he rfl k
theorem q_lushr {x : Int64} {y : Int32} (he : mE (mtv K) pc = some (.lushr, ln, a1, a2)) (k : qW K N (pc + 1) lv (.long ((x.toUInt64 >>> (y.toInt64.toUInt64 &&& Int64.toUInt64 63)).toInt64) :: st) h Q) : qW K N pc lv (.int y :: .long x :: st) h Q := q_P he rfl k
theorem q_lcmp {x y : Int64} (he : mE (mtv K) pc = some (.lcmp, ln, a1, a2)) (k : qW K N (pc + 1) lv (.int (lg_cmp x y) :: st) h Q) : qW K N pc lv (.long y :: .long x :: st) h Q := q_P he rfl k
theorem q_i2l {x : Int32} (he : mE (mtv K) pc = some (.i2l, ln, a1, a2)) (k : qW K N (pc + 1) lv (.long x.toInt64 :: st) h Q) : qW K N pc lv (.int x :: st) h Q := q_P he rfl k
theorem q_l2i {x : Int64} (he : mE (mtv K) pc = some (.l2i, ln, a1, a2)) (k : qW K N (pc + 1) lv (.int x.toInt32 :: st) h Q) : qW K N pc lv (.long x :: st) h Q := q_P he rfl k
theorem q_i2f {x : Int32} (he : mE (mtv K) pc = some (.i2f, ln, a1, a2)) (k : qW K N (pc + 1) lv (.float (FP.i2f x) :: st) h Q) : qW K N pc lv (.int x :: st) h Q := q_P he rfl k
theorem q_i2d {x : Int32} (he : mE (mtv K) pc = some (.i2d, ln, a1, a2)) (k : qW K N (pc + 1) lv (.double (FP.i2d x) :: st) h Q) : qW K N pc lv (.int x :: st) h Q := q_P he rfl k
theorem q_ineg {x : Int32} (he : mE (mtv K) pc = some (.ineg, ln, a1, a2)) (k : qW K N (pc + 1) lv (.int (-x) :: st) h Q) : qW K N pc lv (.int x :: st) h Q := q_P he rfl k
theorem q_dupI {x : Int32} (he : mE (mtv K) pc = some (.dup, ln, a1, a2)) (k : qW K N (pc + 1) lv (.int x :: .int x :: st) h Q) : qW K N pc lv (.int x :: st) h Q := q_P he rfl k
theorem q_dupR {x : Nat} (he : mE (mtv K) pc = some (.dup, ln, a1, a2)) (k : qW K N (pc + 1) lv (.ref x :: .ref x :: st) h Q) : qW K N pc lv (.ref x :: st) h Q := q_P he rfl k
theorem q_dup2 {x : Nat} {z : Int32} (he : mE (mtv K) pc = some (.dup2, ln, a1, a2)) (k : qW K N (pc + 1) lv (.int z :: .ref x :: .int z :: .ref x :: st) h Q) : qW K N pc lv (.int z :: .ref x :: st) h Q := q_P he rfl k
theorem q_popI {x : Int32} (he : mE (mtv K) pc = some (.pop, ln, a1, a2)) (k : qW K N (pc + 1) lv st h Q) : qW K N pc lv (.int x :: st) h Q := q_P he rfl k
theorem q_popL {x : Int64} (he : mE (mtv K) pc = some (.pop2, ln, a1, a2)) (k : qW K N (pc + 1) lv st h Q) : qW K N pc lv (.long x :: st) h Q := q_P he rfl k
theorem q_if_eq {off : Int} {t : Nat} {x : Int32} (he : mE (mtv K) pc = some (.ifCond .eq off, ln, a1, a2)) (ht : sTg pc off = some t) (k1 : x = 0 → qW K N t lv st h Q) (k2 : ¬ x = 0 → qW K N (pc + 3) lv st h Q) : qW K N pc lv (.int x :: st) h Q := by
  by_cases hc : x = 0
  · exact q_P he (by unfold sP sIf; dsimp only; rw [ht]; exact congrArg (fun b => some (cond b t (pc + 3), lv, st)) (decide_eq_true hc)) (k1 hc)
  · exact q_P he (by unfold sP sIf; dsimp only; rw [ht]; exact congrArg (fun b => some (cond b t (pc + 3), lv, st)) (decide_eq_false hc)) (k2 hc)
theorem q_if_ne {off : Int} {t : Nat} {x : Int32} (he : mE (mtv K) pc = some (.ifCond .ne off, ln, a1, a2)) (ht : sTg pc off = some t) (k1 : ¬ x = 0 → qW K N t lv st h Q) (k2 : x = 0 → qW K N (pc + 3) lv st h Q) : qW K N pc lv (.int x :: st) h Q := by
  by_cases hc : x = 0
  · exact q_P he (by unfold sP sIf; dsimp only; rw [ht]; exact congrArg (fun b => some (cond b t (pc + 3), lv, st)) (decide_eq_false (fun e => e hc))) (k2 hc)
  · exact q_P he (by unfold sP sIf; dsimp only; rw [ht]; exact congrArg (fun b => some (cond b t (pc + 3), lv, st)) (decide_eq_true hc)) (k1 hc)
theorem q_if_lt {off : Int} {t : Nat} {x : Int32} (he : mE (mtv K) pc = some (.ifCond .lt off, ln, a1, a2)) (ht : sTg pc off = some t) (k1 : x < 0 → qW K N t lv st h Q) (k2 : ¬ x < 0 → qW K N (pc + 3) lv st h Q) : qW K N pc lv (.int x :: st) h Q := by
  by_cases hc : x < 0
  · exact q_P he (by unfold sP sIf; dsimp only; rw [ht]; exact congrArg (fun b => some (cond b t (pc + 3), lv, st)) (decide_eq_true hc)) (k1 hc)
  · exact q_P he (by unfold sP sIf; dsimp only; rw [ht]; exact congrArg (fun b => some (cond b t (pc + 3), lv, st)) (decide_eq_false hc)) (k2 hc)
theorem q_if_ge {off : Int} {t : Nat} {x : Int32} (he : mE (mtv K) pc = some (.ifCond .ge off, ln, a1, a2)) (ht : sTg pc off = some t) (k1 : 0 ≤ x → qW K N t lv st h Q) (k2 : ¬ 0 ≤ x → qW K N (pc + 3) lv st h Q) : qW K N pc lv (.int x :: st) h Q := by
  by_cases hc : 0 ≤ x
  · exact q_P he (by unfold sP sIf; dsimp only; rw [ht]; exact congrArg (fun b => some (cond b t (pc + 3), lv, st)) (decide_eq_true hc)) (k1 hc)
  · exact q_P he (by unfold sP sIf; dsimp only; rw [ht]; exact congrArg (fun b => some (cond b t (pc + 3), lv, st)) (decide_eq_false hc)) (k2 hc)
theorem q_if_gt {off : Int} {t : Nat} {x : Int32} (he : mE (mtv K) pc = some (.ifCond .gt off, ln, a1, a2)) (ht : sTg pc off = some t) (k1 : 0 < x → qW K N t lv st h Q) (k2 : ¬ 0 < x → qW K N (pc + 3) lv st h Q) : qW K N pc lv (.int x :: st) h Q := by
  by_cases hc : 0 < x
  · exact q_P he (by unfold sP sIf; dsimp only; rw [ht]; exact congrArg (fun b => some (cond b t (pc + 3), lv, st)) (decide_eq_true hc)) (k1 hc)
  · exact q_P he (by unfold sP sIf; dsimp only; rw [ht]; exact congrArg (fun b => some (cond b t (pc + 3), lv, st)) (decide_eq_false hc)) (k2 hc)
theorem q_if_le {off : Int} {t : Nat} {x : Int32} (he : mE (mtv K) pc = some (.ifCond .le off, ln, a1, a2)) (ht : sTg pc off = some t) (k1 : x ≤ 0 → qW K N t lv st h Q) (k2 : ¬ x ≤ 0 → qW K N (pc + 3) lv st h Q) : qW K N pc lv (.int x :: st) h Q := by
  by_cases hc : x ≤ 0
  · exact q_P he (by unfold sP sIf; dsimp only; rw [ht]; exact congrArg (fun b => some (cond b t (pc + 3), lv, st)) (decide_eq_true hc)) (k1 hc)
  · exact q_P he (by unfold sP sIf; dsimp only; rw [ht]; exact congrArg (fun b => some (cond b t (pc + 3), lv, st)) (decide_eq_false hc)) (k2 hc)
theorem q_ic_eq {off : Int} {t : Nat} {x y : Int32} (he : mE (mtv K) pc = some (.if_icmp .eq off, ln, a1, a2)) (ht : sTg pc off = some t) (k1 : x = y → qW K N t lv st h Q) (k2 : ¬ x = y → qW K N (pc + 3) lv st h Q) : qW K N pc lv (.int y :: .int x :: st) h Q := by
  by_cases hc : x = y
  · exact q_P he (by unfold sP sIc; dsimp only; rw [ht]; exact congrArg (fun b => some (cond b t (pc + 3), lv, st)) (decide_eq_true hc)) (k1 hc)
  · exact q_P he (by unfold sP sIc; dsimp only; rw [ht]; exact congrArg (fun b => some (cond b t (pc + 3), lv, st)) (decide_eq_false hc)) (k2 hc)
theorem q_ic_ne {off : Int} {t : Nat} {x y : Int32} (he : mE (mtv K) pc = some (.if_icmp .ne off, ln, a1, a2)) (ht : sTg pc off = some t) (k1 : ¬ x = y → qW K N t lv st h Q) (k2 : x = y → qW K N (pc + 3) lv st h Q) : qW K N pc lv (.int y :: .int x :: st) h Q := by
  by_cases hc : x = y
  · exact q_P he (by unfold sP sIc; dsimp only; rw [ht]; exact congrArg (fun b => some (cond b t (pc + 3), lv, st)) (decide_eq_false (fun e => e hc))) (k2 hc)
  · exact q_P he (by unfold sP sIc; dsimp only; rw [ht]; exact congrArg (fun b => some (cond b t (pc + 3), lv, st)) (decide_eq_true hc)) (k1 hc)
theorem q_ic_lt {off : Int} {t : Nat} {x y : Int32} (he : mE (mtv K) pc = some (.if_icmp .lt off, ln, a1, a2)) (ht : sTg pc off = some t) (k1 : x < y → qW K N t lv st h Q) (k2 : ¬ x < y → qW K N (pc + 3) lv st h Q) : qW K N pc lv (.int y :: .int x :: st) h Q := by
  by_cases hc : x < y
  · exact q_P he (by unfold sP sIc; dsimp only; rw [ht]; exact congrArg (fun b => some (cond b t (pc + 3), lv, st)) (decide_eq_true hc)) (k1 hc)
  · exact q_P he (by unfold sP sIc; dsimp only; rw [ht]; exact congrArg (fun b => some (cond b t (pc + 3), lv, st)) (decide_eq_false hc)) (k2 hc)
theorem q_ic_ge {off : Int} {t : Nat} {x y : Int32} (he : mE (mtv K) pc = some (.if_icmp .ge off, ln, a1, a2)) (ht : sTg pc off = some t) (k1 : y ≤ x → qW K N t lv st h Q) (k2 : ¬ y ≤ x → qW K N (pc + 3) lv st h Q) : qW K N pc lv (.int y :: .int x :: st) h Q := by
  by_cases hc : y ≤ x
  · exact q_P he (by unfold sP sIc; dsimp only; rw [ht]; exact congrArg (fun b => some (cond b t (pc + 3), lv, st)) (decide_eq_true hc)) (k1 hc)
  · exact q_P he (by unfold sP sIc; dsimp only; rw [ht]; exact congrArg (fun b => some (cond b t (pc + 3), lv, st)) (decide_eq_false hc)) (k2 hc)
theorem q_ic_gt {off : Int} {t : Nat} {x y : Int32} (he : mE (mtv K) pc = some (.if_icmp .gt off, ln, a1, a2)) (ht : sTg pc off = some t) (k1 : y < x → qW K N t lv st h Q) (k2 : ¬ y < x → qW K N (pc + 3) lv st h Q) : qW K N pc lv (.int y :: .int x :: st) h Q := by
  by_cases hc : y < x
  · exact q_P he (by unfold sP sIc; dsimp only; rw [ht]; exact congrArg (fun b => some (cond b t (pc + 3), lv, st)) (decide_eq_true hc)) (k1 hc)
  · exact q_P he (by unfold sP sIc; dsimp only; rw [ht]; exact congrArg (fun b => some (cond b t (pc + 3), lv, st)) (decide_eq_false hc)) (k2 hc)
theorem q_ic_le {off : Int} {t : Nat} {x y : Int32} (he : mE (mtv K) pc = some (.if_icmp .le off, ln, a1, a2)) (ht : sTg pc off = some t) (k1 : x ≤ y → qW K N t lv st h Q) (k2 : ¬ x ≤ y → qW K N (pc + 3) lv st h Q) : qW K N pc lv (.int y :: .int x :: st) h Q := by
  by_cases hc : x ≤ y
  · exact q_P he (by unfold sP sIc; dsimp only; rw [ht]; exact congrArg (fun b => some (cond b t (pc + 3), lv, st)) (decide_eq_true hc)) (k1 hc)
  · exact q_P he (by unfold sP sIc; dsimp only; rw [ht]; exact congrArg (fun b => some (cond b t (pc + 3), lv, st)) (decide_eq_false hc)) (k2 hc)
theorem q_ift {c : Jvm.ClassFile.Cond} {off : Int} {t : Nat} {x : Int32} (he : mE (mtv K) pc = some (.ifCond c off, ln, a1, a2)) (hc : sC1 c x = true) (ht : sTg pc off = some t) (k : qW K N t lv st h Q) : qW K N pc lv (.int x :: st) h Q := q_P he (by cases c <;> (dsimp only; unfold sP sIf; dsimp only; rw [ht]; exact congrArg (fun b => some (cond b t (pc + 3), lv, st)) hc)) k
theorem q_iff {c : Jvm.ClassFile.Cond} {off : Int} {t : Nat} {x : Int32} (he : mE (mtv K) pc = some (.ifCond c off, ln, a1, a2)) (hc : sC1 c x = false) (ht : sTg pc off = some t) (k : qW K N (pc + 3) lv st h Q) : qW K N pc lv (.int x :: st) h Q := q_P he (by cases c <;> (dsimp only; unfold sP sIf; dsimp only; rw [ht]; exact congrArg (fun b => some (cond b t (pc + 3), lv, st)) hc)) k
theorem q_ict {c : Jvm.ClassFile.Cond} {off : Int} {t : Nat} {x y : Int32} (he : mE (mtv K) pc = some (.if_icmp c off, ln, a1, a2)) (hc : sC2 c x y = true) (ht : sTg pc off = some t) (k : qW K N t lv st h Q) : qW K N pc lv (.int y :: .int x :: st) h Q := q_P he (by cases c <;> (dsimp only; unfold sP sIc; dsimp only; rw [ht]; exact congrArg (fun b => some (cond b t (pc + 3), lv, st)) hc)) k
theorem q_icf {c : Jvm.ClassFile.Cond} {off : Int} {t : Nat} {x y : Int32} (he : mE (mtv K) pc = some (.if_icmp c off, ln, a1, a2)) (hc : sC2 c x y = false) (ht : sTg pc off = some t) (k : qW K N (pc + 3) lv st h Q) : qW K N pc lv (.int y :: .int x :: st) h Q := q_P he (by cases c <;> (dsimp only; unfold sP sIc; dsimp only; rw [ht]; exact congrArg (fun b => some (cond b t (pc + 3), lv, st)) hc)) k
/-- 0 or 1 -/
noncomputable def b2 (p : Prop) [Decidable p] : Int32 := if p then 1 else 0
theorem b2_t {p : Prop} [Decidable p] (h : p) : b2 p = 1 := if_pos h
theorem b2_f {p : Prop} [Decidable p] (h : ¬ p) : b2 p = 0 := if_neg h
theorem b2_0 {p : Prop} [Decidable p] : b2 p = 0 ↔ ¬ p := by
  unfold b2; split
  · next h => exact ⟨fun e => absurd e (by decide), fun e => absurd h e⟩
  · next h => exact ⟨fun _ => h, fun _ => rfl⟩
theorem b2_1 {p : Prop} [Decidable p] : b2 p = 1 ↔ p := by
  unfold b2; split
  · next h => exact ⟨fun _ => h, fun _ => rfl⟩
  · next h => exact ⟨fun e => absurd e (by decide), fun e => absurd e h⟩
theorem q_ifb_eq {off : Int} {t : Nat} {p : Prop} [Decidable p] (he : mE (mtv K) pc = some (.ifCond .eq off, ln, a1, a2)) (ht : sTg pc off = some t) (k1 : ¬ p → qW K N t lv st h Q) (k2 : p → qW K N (pc + 3) lv st h Q) : qW K N pc lv (.int (b2 p) :: st) h Q := q_if_eq he ht (fun e => k1 (b2_0.mp e)) (fun e => k2 (Decidable.of_not_not (fun q => e (b2_0.mpr q))))
theorem q_ifb_ne {off : Int} {t : Nat} {p : Prop} [Decidable p] (he : mE (mtv K) pc = some (.ifCond .ne off, ln, a1, a2)) (ht : sTg pc off = some t) (k1 : p → qW K N t lv st h Q) (k2 : ¬ p → qW K N (pc + 3) lv st h Q) : qW K N pc lv (.int (b2 p) :: st) h Q := q_if_ne he ht (fun e => k1 (Decidable.of_not_not (fun q => e (b2_0.mpr q)))) (fun e => k2 (b2_0.mp e))
theorem q_icb_eq {off : Int} {t : Nat} {p : Prop} [Decidable p] (he : mE (mtv K) pc = some (.if_icmp .eq off, ln, a1, a2)) (ht : sTg pc off = some t) (k1 : p → qW K N t lv st h Q) (k2 : ¬ p → qW K N (pc + 3) lv st h Q) : qW K N pc lv (.int 1 :: .int (b2 p) :: st) h Q := q_ic_eq he ht (fun e => k1 (b2_1.mp e)) (fun e => k2 (fun q => e (b2_1.mpr q)))
theorem q_icb_ne {off : Int} {t : Nat} {p : Prop} [Decidable p] (he : mE (mtv K) pc = some (.if_icmp .ne off, ln, a1, a2)) (ht : sTg pc off = some t) (k1 : ¬ p → qW K N t lv st h Q) (k2 : p → qW K N (pc + 3) lv st h Q) : qW K N pc lv (.int 1 :: .int (b2 p) :: st) h Q := q_ic_ne he ht (fun e => k1 (fun q => e (b2_1.mpr q))) (fun e => k2 (b2_1.mp e))
theorem q_end {e : sE} {r0 : sR} (he : mE (mtv K) pc = some e) (hs : ∀ D cl sl z, sStep mtv (sGo1 mtv eFu D) (mtv K) none (pc, lv, st, h, cl, sl) = some z → z = .inr r0 ∧ Q r0) : qW K N pc lv st h Q := qW_le (Nat.le_succ N) (q_step1 (fun D cl sl z hz => by
  obtain ⟨e1, e2⟩ := hs D cl sl z hz
  rw [e1]; exact e2))
theorem sNo {i : Instr} {D cl sl : Nat} (he : mE (mtv K) pc = some (i, ln, a1, a2)) (hP : sP (mL (mtv K)) i pc lv st = none) (hH : sHp none i a1 a2 pc lv st h = none) (hr : sRet (mR (mtv K)) i st = none) (hi : sInv0 mtv i a1 a2 st h = none) (ha : sAl (mC (mtv K)) (mS (mtv K)) i a1 pc lv st h cl sl = none) (hn : sNi i = true) : sStep mtv (sGo1 mtv eFu D) (mtv K) none (pc, lv, st, h, cl, sl) = none := by
  unfold sStep
  rw [he]; dsimp only
  rw [hP]; dsimp only
  rw [hH]; dsimp only
  rw [hr]; dsimp only
  split
  · cases i <;> first | rfl | cases hn
  · rw [hi]; dsimp only
    rw [ha]
theorem q_ret {i : Instr} {v : Option Value} (he : mE (mtv K) pc = some (i, ln, a1, a2)) (hP : sP (mL (mtv K)) i pc lv st = none) (hH : sHp none i a1 a2 pc lv st h = none) (hi : sInv0 mtv i a1 a2 st h = none) (ha : ∀ cl sl, sAl (mC (mtv K)) (mS (mtv K)) i a1 pc lv st h cl sl = none) (hn : sNi i = true) (hv : ∀ w, sRet (mR (mtv K)) i st = some w → w = v ∧ Q (.inl v, h)) : qW K N pc lv st h Q := q_end (r0 := (.inl v, h)) he (fun D cl sl z hz => by
  cases g : sRet (mR (mtv K)) i st with
  | none => rw [sNo he hP hH g hi (ha cl sl) hn] at hz; cases hz
  | some w =>
    unfold sStep at hz
    rw [he] at hz; dsimp only at hz
    rw [hP] at hz; dsimp only at hz
    rw [hH] at hz; dsimp only at hz
    rw [g] at hz; dsimp only at hz
    cases hz
    rw [(hv w g).1]
    exact ⟨rfl, (hv w g).2⟩)
theorem q_ireturn {x : Int32} (he : mE (mtv K) pc = some (.ireturn, ln, a1, a2)) (k : Q (.inl (some (.int x)), h)) : qW K N pc lv [.int x] h Q := q_ret he rfl rfl rfl (fun _ _ => rfl) rfl (fun w hw => by
  unfold sRet at hw; dsimp only at hw
  split at hw
  · next y ty e1 e2 =>
    split at hw
    · cases hw; cases e1; exact ⟨rfl, k⟩
    · cases hw
  · cases hw)
/-- a boolean's end -/
theorem q_breturn {x : Int32} (he : mE (mtv K) pc = some (.ireturn, ln, a1, a2)) (hr : mR (mtv K) = some .boolean) (k : x = 0 ∨ x = 1 → Q (.inl (some (.int x)), h)) : qW K N pc lv [.int x] h Q := q_ret he rfl rfl rfl (fun _ _ => rfl) rfl (fun w hw => by
  unfold sRet at hw; dsimp only at hw
  rw [hr] at hw; dsimp only at hw
  split at hw
  · next e =>
    cases hw
    refine ⟨rfl, k ?_⟩
    unfold sNr at e
    simp only [Bool.or_eq_true, decide_eq_true_eq] at e
    exact e
  · cases hw)
theorem q_lreturn {x : Int64} (he : mE (mtv K) pc = some (.lreturn, ln, a1, a2)) (k : Q (.inl (some (.long x)), h)) : qW K N pc lv [.long x] h Q := q_ret he rfl rfl rfl (fun _ _ => rfl) rfl (fun w hw => by
  unfold sRet at hw; dsimp only at hw
  split at hw
  · next y e1 e2 => cases hw; cases e1; exact ⟨rfl, k⟩
  · cases hw)
theorem q_freturn {x : UInt32} (he : mE (mtv K) pc = some (.freturn, ln, a1, a2)) (k : Q (.inl (some (.float x)), h)) : qW K N pc lv [.float x] h Q := q_ret he rfl rfl rfl (fun _ _ => rfl) rfl (fun w hw => by
  unfold sRet at hw; dsimp only at hw
  split at hw
  · next y e1 e2 => cases hw; cases e1; exact ⟨rfl, k⟩
  · cases hw)
theorem q_dreturn {x : UInt64} (he : mE (mtv K) pc = some (.dreturn, ln, a1, a2)) (k : Q (.inl (some (.double x)), h)) : qW K N pc lv [.double x] h Q := q_ret he rfl rfl rfl (fun _ _ => rfl) rfl (fun w hw => by
  unfold sRet at hw; dsimp only at hw
  split at hw
  · next y e1 e2 => cases hw; cases e1; exact ⟨rfl, k⟩
  · cases hw)
theorem q_return_ (he : mE (mtv K) pc = some (.return_, ln, a1, a2)) (k : Q (.inl none, h)) : qW K N pc lv [] h Q := q_ret he rfl rfl rfl (fun _ _ => rfl) rfl (fun w hw => by
  unfold sRet at hw; dsimp only at hw
  split at hw
  · cases hw; exact ⟨rfl, k⟩
  · cases hw)
theorem q_throw {ix : Nat} (he : mE (mtv K) pc = some (.new ix, ln, a1, a2)) (h1 : 1000 ≤ a1) (k : Q (.inr (a1 - 1000), h)) : qW K N pc lv st h Q := q_end (r0 := (.inr (a1 - 1000), h)) he (fun D cl sl z hz => by
  unfold sStep at hz
  rw [he] at hz; dsimp only at hz
  rw [show sP (mL (mtv K)) (.new ix) pc lv st = none from rfl] at hz; dsimp only at hz
  rw [show sHp none (.new ix) a1 a2 pc lv st h = none from rfl] at hz; dsimp only at hz
  rw [show sRet (mR (mtv K)) (.new ix) st = none from rfl] at hz; dsimp only at hz
  rw [if_pos h1] at hz
  split at hz
  · cases hz; exact ⟨rfl, k⟩
  · cases hz)
/-! calls -/
theorem q_call {i : Instr} {as rest : List Value} (he : mE (mtv K) pc = some (i, ln, a1, a2)) (h1 : ¬ 1000 ≤ a1) (hP : sP (mL (mtv K)) i pc lv st = none) (hH : sHp none i a1 a2 pc lv st h = none) (hr : sRet (mR (mtv K)) i st = none) (ha : ∀ cl sl, sAl (mC (mtv K)) (mS (mtv K)) i a1 pc lv st h cl sl = none) (hi : ∀ q, sInv0 mtv i a1 a2 st h = some q → q = (as, rest)) (hT : mT (mtv K) = [])
    (kr : ∀ v h1, qGo a1 as h (.inl v, h1) → qW K N (pc + 3) lv (v.toList ++ rest) h1 Q) (kx : ∀ E h1, qGo a1 as h (.inr E, h1) → Q (.inr E, h1)) : qW K N pc lv st h Q := qW_le (Nat.le_succ N) (q_step1 (fun D cl sl z hz => by
  unfold sStep at hz
  rw [he] at hz; dsimp only at hz
  rw [hP] at hz; dsimp only at hz
  rw [hH] at hz; dsimp only at hz
  rw [hr] at hz; dsimp only at hz
  rw [if_neg h1] at hz
  cases g : sInv0 mtv i a1 a2 st h with
  | none =>
    rw [g] at hz; dsimp only at hz
    rw [ha cl sl] at hz
    cases hz
  | some q =>
    have e := hi q g
    subst e
    rw [g] at hz; dsimp only at hz
    split at hz
    · split at hz
      · next v h2 hg => cases hz; exact fun n r hn hr => kr v h2 ⟨D, hg⟩ n D _ _ r hn hr
      · next E h2 hg =>
        rw [hT] at hz
        cases hz
        exact kx E h2 ⟨D, hg⟩
      · cases hz
    · cases hz))
theorem q_static {ix : Nat} {as rest : List Value} (he : mE (mtv K) pc = some (.invokestatic ix, ln, a1, a2)) (h1 : ¬ 1000 ≤ a1) (hA : sArgs (mN (mtv a1)) st = as) (hR : st.drop (mN (mtv a1)) = rest) (hT : mT (mtv K) = [])
    (kr : ∀ v h1, qGo a1 as h (.inl v, h1) → qW K N (pc + 3) lv (v.toList ++ rest) h1 Q) (kx : ∀ E h1, qGo a1 as h (.inr E, h1) → Q (.inr E, h1)) : qW K N pc lv st h Q := q_call he h1 rfl rfl rfl (fun _ _ => rfl) (fun q g => by
  unfold sInv0 at g; dsimp only at g
  split at g
  · cases g; rw [hA, hR]
  · cases g) hT kr kx
theorem q_virtual {ix o : Nat} {as rest : List Value} (he : mE (mtv K) pc = some (.invokevirtual ix, ln, a1, a2)) (h1 : ¬ 1000 ≤ a1) (hA : sArgs (mN (mtv a1)) st = as) (hR : st.drop (mN (mtv a1)) = .ref o :: rest) (hT : mT (mtv K) = [])
    (kr : ∀ v h1, qGo a1 (.ref o :: as) h (.inl v, h1) → qW K N (pc + 3) lv (v.toList ++ rest) h1 Q) (kx : ∀ E h1, qGo a1 (.ref o :: as) h (.inr E, h1) → Q (.inr E, h1)) : qW K N pc lv st h Q := q_call he h1 rfl rfl rfl (fun _ _ => rfl) (fun q g => by
  unfold sInv0 at g; dsimp only at g
  split at g
  · rw [hR] at g; dsimp only at g
    split at g
    · split at g
      · cases g; rw [hA]
      · cases g
    · cases g
  · cases g) hT kr kx
/-- a call that is gone into -/
theorem q_into {k2 : Nat} {as rest : List Value} (w : ∀ N', qW k2 N' 0 (lv_args 0 as) [] h (qK K N pc lv rest Q)) : (∀ v h1, qGo k2 as h (.inl v, h1) → qW K N (pc + 3) lv (v.toList ++ rest) h1 Q) ∧ (∀ E h1, qGo k2 as h (.inr E, h1) → Q (.inr E, h1)) := ⟨fun v h1 g => qGo_w (Q := qK K N pc lv rest Q) g w, fun E h1 g => qGo_w (Q := qK K N pc lv rest Q) g w⟩
theorem q_staticI {ix : Nat} {as rest : List Value} (he : mE (mtv K) pc = some (.invokestatic ix, ln, a1, a2)) (h1 : ¬ 1000 ≤ a1) (hA : sArgs (mN (mtv a1)) st = as) (hR : st.drop (mN (mtv a1)) = rest) (hT : mT (mtv K) = []) (w : ∀ N', qW a1 N' 0 (lv_args 0 as) [] h (qK K N pc lv rest Q)) : qW K N pc lv st h Q := q_static he h1 hA hR hT (q_into w).1 (q_into w).2
theorem q_virtualI {ix o : Nat} {as rest : List Value} (he : mE (mtv K) pc = some (.invokevirtual ix, ln, a1, a2)) (h1 : ¬ 1000 ≤ a1) (hA : sArgs (mN (mtv a1)) st = as) (hR : st.drop (mN (mtv a1)) = .ref o :: rest) (hT : mT (mtv K) = []) (w : ∀ N', qW a1 N' 0 (lv_args 0 (.ref o :: as)) [] h (qK K N pc lv rest Q)) : qW K N pc lv st h Q := q_virtual he h1 hA hR hT (q_into w).1 (q_into w).2
theorem qK_v {v : Value} {h1 : sH} {rest : List Value} (k : qW K N (pc + 3) lv (v :: rest) h1 Q) : qK K N pc lv rest Q (.inl (some v), h1) := k
theorem qK_n {h1 : sH} {rest : List Value} (k : qW K N (pc + 3) lv rest h1 Q) : qK K N pc lv rest Q (.inl none, h1) := k
theorem qK_x {E : Nat} {h1 : sH} {rest : List Value} (k : Q (.inr E, h1)) : qK K N pc lv rest Q (.inr E, h1) := k
/-- a call whose answer is known, and that changes nothing -/
theorem q_staticP {ix : Nat} {as rest : List Value} {w : Value} (he : mE (mtv K) pc = some (.invokestatic ix, ln, a1, a2)) (h1 : ¬ 1000 ≤ a1) (hA : sArgs (mN (mtv a1)) st = as) (hR : st.drop (mN (mtv a1)) = rest) (hT : mT (mtv K) = []) (sp : ∀ r, qGo a1 as h r → r = (.inl (some w), h)) (k : qW K N (pc + 3) lv (w :: rest) h Q) : qW K N pc lv st h Q := q_static he h1 hA hR hT (fun v h2 g => by cases sp _ g; exact k) (fun E h2 g => by cases sp _ g)
theorem q_virtualP {ix o : Nat} {as rest : List Value} {w : Value} (he : mE (mtv K) pc = some (.invokevirtual ix, ln, a1, a2)) (h1 : ¬ 1000 ≤ a1) (hA : sArgs (mN (mtv a1)) st = as) (hR : st.drop (mN (mtv a1)) = .ref o :: rest) (hT : mT (mtv K) = []) (sp : ∀ r, qGo a1 (.ref o :: as) h r → r = (.inl (some w), h)) (k : qW K N (pc + 3) lv (w :: rest) h Q) : qW K N pc lv st h Q := q_virtual he h1 hA hR hT (fun v h2 g => by cases sp _ g; exact k) (fun E h2 g => by cases sp _ g)
/-- a call that goes on or throws -/
theorem q_virtualN {ix o E : Nat} {as rest : List Value} {c : Prop} (he : mE (mtv K) pc = some (.invokevirtual ix, ln, a1, a2)) (h1 : ¬ 1000 ≤ a1) (hA : sArgs (mN (mtv a1)) st = as) (hR : st.drop (mN (mtv a1)) = .ref o :: rest) (hT : mT (mtv K) = []) (sp : ∀ r, qGo a1 (.ref o :: as) h r → (c ∧ r = (.inl none, h)) ∨ (¬ c ∧ r = (.inr E, h))) (k1 : c → qW K N (pc + 3) lv rest h Q) (k2 : ¬ c → Q (.inr E, h)) : qW K N pc lv st h Q := q_virtual he h1 hA hR hT (fun v h2 g => by
  rcases sp _ g with ⟨hc, e⟩ | ⟨hc, e⟩
  · cases e; exact k1 hc
  · cases e) (fun F h2 g => by
  rcases sp _ g with ⟨hc, e⟩ | ⟨hc, e⟩
  · cases e
  · cases e; exact k2 hc)
/-- a call whose end is known as far as it goes -/
theorem q_virtualE {ix o : Nat} {as rest : List Value} {S : sR → Prop} (he : mE (mtv K) pc = some (.invokevirtual ix, ln, a1, a2)) (h1 : ¬ 1000 ≤ a1) (hA : sArgs (mN (mtv a1)) st = as) (hR : st.drop (mN (mtv a1)) = .ref o :: rest) (hT : mT (mtv K) = []) (sp : ∀ r, qGo a1 (.ref o :: as) h r → S r) (k : ∀ r, S r → qK K N pc lv rest Q r) : qW K N pc lv st h Q := q_virtual he h1 hA hR hT (fun v h2 g => k _ (sp _ g)) (fun E h2 g => k _ (sp _ g))
theorem q_staticE {ix : Nat} {as rest : List Value} {S : sR → Prop} (he : mE (mtv K) pc = some (.invokestatic ix, ln, a1, a2)) (h1 : ¬ 1000 ≤ a1) (hA : sArgs (mN (mtv a1)) st = as) (hR : st.drop (mN (mtv a1)) = rest) (hT : mT (mtv K) = []) (sp : ∀ r, qGo a1 as h r → S r) (k : ∀ r, S r → qK K N pc lv rest Q r) : qW K N pc lv st h Q := q_static he h1 hA hR hT (fun v h2 g => k _ (sp _ g)) (fun E h2 g => k _ (sp _ g))
theorem q_math {ix : Nat} {q : Value × List Value} (he : mE (mtv K) pc = some (.invokestatic ix, ln, a1, a2)) (h1 : 1000 ≤ a1) (hm : sMath a1 st = some q) (k : qW K N (pc + 3) lv (q.1 :: q.2) h Q) : qW K N pc lv st h Q := qW_le (Nat.le_succ N) (q_step1 (fun D cl sl z hz => by
  unfold sStep at hz
  rw [he] at hz; dsimp only at hz
  rw [show sP (mL (mtv K)) (.invokestatic ix) pc lv st = none from rfl] at hz; dsimp only at hz
  rw [show sHp none (.invokestatic ix) a1 a2 pc lv st h = none from rfl] at hz; dsimp only at hz
  rw [show sRet (mR (mtv K)) (.invokestatic ix) st = none from rfl] at hz; dsimp only at hz
  rw [if_pos h1, hm] at hz
  dsimp only at hz
  split at hz
  · cases hz; exact fun n r hn hr => k n D cl sl r hn hr
  · cases hz))
theorem q_abs {ix : Nat} {x : Int32} (he : mE (mtv K) pc = some (.invokestatic ix, ln, 1001, a2)) (k : qW K N (pc + 3) lv (.int (if 0 ≤ x then x else 0 - x) :: st) h Q) : qW K N pc lv (.int x :: st) h Q := q_math he (by decide) rfl k
theorem q_max {ix : Nat} {x y : Int32} (he : mE (mtv K) pc = some (.invokestatic ix, ln, 1002, a2)) (k : qW K N (pc + 3) lv (.int (if x < y then y else x) :: st) h Q) : qW K N pc lv (.int y :: .int x :: st) h Q := q_math he (by decide) rfl k
theorem q_min {ix : Nat} {x y : Int32} (he : mE (mtv K) pc = some (.invokestatic ix, ln, 1003, a2)) (k : qW K N (pc + 3) lv (.int (if y < x then y else x) :: st) h Q) : qW K N pc lv (.int y :: .int x :: st) h Q := q_math he (by decide) rfl k
/-! the heap -/
noncomputable def tIk (ci f : Nat) : Bool := match sFt ci f with
  | .int => true
  | .boolean => true
  | _ => false
noncomputable def tLk (ci f : Nat) : Bool := match sFt ci f with
  | .long => true
  | _ => false
noncomputable def tOk (ci f : Nat) : Bool := match sFt ci f with
  | .object _ => true
  | .array _ => true
  | _ => false
theorem tIk_s {ci f : Nat} {rf : Nat × Nat} {v : Value} (hk : tIk ci f = true) (h : tVk (sFt ci f) rf v) : ∃ x, v = .int x := by
  unfold tIk at hk
  split at hk
  · next e => rw [e] at h; exact h
  · next e => rw [e] at h; rcases (show v = .int 0 ∨ v = .int 1 from h) with rfl | rfl <;> exact ⟨_, rfl⟩
  · cases hk
theorem tLk_s {ci f : Nat} {rf : Nat × Nat} {v : Value} (hk : tLk ci f = true) (h : tVk (sFt ci f) rf v) : ∃ x, v = .long x := by
  unfold tLk at hk
  split at hk
  · next e => rw [e] at h; exact h
  · cases hk
theorem tOk_s {ci f : Nat} {rf : Nat × Nat} {v : Value} (hk : tOk ci f = true) (h : tVk (sFt ci f) rf v) : ∃ k, v = .ref k ∧ rf.1 ≤ k ∧ k ≤ rf.2 := by
  unfold tOk at hk
  split at hk
  · next e => rw [e] at h; exact h
  · next e => rw [e] at h; exact h
  · cases hk
theorem q_gf {ix a : Nat} (th : qH h I L R) (he : mE (mtv K) pc = some (.getfield ix, ln, a1, a2)) (ha : a < 119) (k : ∀ vs v, h[a]? = some (.inr (a1, vs)) → vs[a2]? = some v → tVk (sFt a1 a2) (tRf a a2) v → qW K N (pc + 3) lv (v :: st) h Q) : qW K N pc lv (.ref a :: st) h Q := q_H he rfl (fun z hz => by
  unfold sHp at hz; dsimp only at hz
  split at hz
  · next q hq =>
    split at hz
    · next e =>
      split at hz
      · next v hv =>
        cases hz
        subst e
        exact k q.2 v hq hv ((th.1.2.1 a _ ha hq).2 a2 v hv)
      · cases hz
    · cases hz
  · cases hz) (fun g D cl sl => sNo he rfl g rfl rfl rfl rfl)
theorem q_getI {ix a : Nat} (th : qH h I L R) (he : mE (mtv K) pc = some (.getfield ix, ln, a1, a2)) (ha : a < 119) (hk : tIk a1 a2 = true) (k : qW K N (pc + 3) lv (.int (I a a2) :: st) h Q) : qW K N pc lv (.ref a :: st) h Q := q_gf th he ha (fun vs v h1 h2 h3 => by
  obtain ⟨x, rfl⟩ := tIk_s hk h3
  have e := vI_at (c := .inr (a1, vs)) h1 h2
  rw [th.2.1] at e
  have e : I a a2 = x := e
  rw [← e]; exact k)
theorem q_getB {ix a : Nat} (th : qH h I L R) (he : mE (mtv K) pc = some (.getfield ix, ln, a1, a2)) (ha : a < 119) (hk : sFt a1 a2 = .boolean) (k : I a a2 = 0 ∨ I a a2 = 1 → qW K N (pc + 3) lv (.int (I a a2) :: st) h Q) : qW K N pc lv (.ref a :: st) h Q := q_gf th he ha (fun vs v h1 h2 h3 => by
  rw [hk] at h3
  have e := vI_at (c := .inr (a1, vs)) h1 h2
  rw [th.2.1] at e
  rcases (show v = .int 0 ∨ v = .int 1 from h3) with rfl | rfl
  · have e : I a a2 = 0 := e
    have k1 := k (Or.inl e)
    rw [e] at k1; exact k1
  · have e : I a a2 = 1 := e
    have k1 := k (Or.inr e)
    rw [e] at k1; exact k1)
theorem q_getL {ix a : Nat} (th : qH h I L R) (he : mE (mtv K) pc = some (.getfield ix, ln, a1, a2)) (ha : a < 119) (hk : tLk a1 a2 = true) (k : qW K N (pc + 3) lv (.long (L a a2) :: st) h Q) : qW K N pc lv (.ref a :: st) h Q := q_gf th he ha (fun vs v h1 h2 h3 => by
  obtain ⟨x, rfl⟩ := tLk_s hk h3
  have e := vL_at (c := .inr (a1, vs)) h1 h2
  rw [th.2.2.1] at e
  have e : L a a2 = x := e
  rw [← e]; exact k)
theorem q_getR {ix a m : Nat} (th : qH h I L R) (he : mE (mtv K) pc = some (.getfield ix, ln, a1, a2)) (ha : a < 119) (hk : tOk a1 a2 = true) (hm : tRf a a2 = (m, m)) (k : qW K N (pc + 3) lv (.ref m :: st) h Q) : qW K N pc lv (.ref a :: st) h Q := q_gf th he ha (fun vs v h1 h2 h3 => by
  obtain ⟨x, rfl, x1, x2⟩ := tOk_s hk h3
  rw [hm] at x1 x2
  have : x = m := Nat.le_antisymm x2 x1
  subst this; exact k)
theorem q_pf {ix a : Nat} {x : Value} (he : mE (mtv K) pc = some (.putfield ix, ln, a1, a2)) (k : ∀ vs, h[a]? = some (.inr (a1, vs)) → a2 < vs.length → sFit (sFt a1 a2) x = true → qW K N (pc + 3) lv st (h.set a (tPut (.inr (a1, vs)) a2 x)) Q) : qW K N pc lv (x :: .ref a :: st) h Q := q_H he rfl (fun z hz => by
  unfold sHp at hz; dsimp only at hz
  split at hz
  · next q hq =>
    split at hz
    · next e =>
      cases hz
      obtain ⟨e1, e2, e3⟩ := e
      obtain ⟨q1, q2⟩ := q
      dsimp only at e1 e2
      subst e1
      exact k q2 hq e2 e3
    · cases hz
  · cases hz) (fun g D cl sl => sNo he rfl g rfl rfl rfl rfl)
theorem q_putI {ix a : Nat} {x : Int32} (th : qH h I L R) (he : mE (mtv K) pc = some (.putfield ix, ln, a1, a2)) (ha : a < 119) (hk : tIk a1 a2 = true) (k : ∀ h', qH h' (upI I a a2 x) L R → qW K N (pc + 3) lv st h' Q) : qW K N pc lv (.int x :: .ref a :: st) h Q := q_pf he (fun vs h1 h2 h3 => by
  obtain ⟨v, hv⟩ : ∃ v, vs[a2]? = some v := ⟨_, List.getElem?_eq_getElem h2⟩
  have ht := (th.1.2.1 a _ ha h1).2 a2 v hv
  refine k _ (qH_pI th h1 hv (tIk_s hk ht) (fun _ => ?_) (fun _ => ht))
  show tVk (sFt a1 a2) _ _
  unfold tIk at hk
  split at hk
  · next e => rw [e]; exact ⟨x, rfl⟩
  · next e =>
    rw [e] at h3 ⊢
    simp only [sFit, Bool.or_eq_true, decide_eq_true_eq] at h3
    rcases h3 with rfl | rfl
    · exact Or.inl rfl
    · exact Or.inr rfl
  · cases hk)
theorem q_putL {ix a : Nat} {x : Int64} (th : qH h I L R) (he : mE (mtv K) pc = some (.putfield ix, ln, a1, a2)) (ha : a < 119) (hk : tLk a1 a2 = true) (k : ∀ h', qH h' I (upL L a a2 x) R → qW K N (pc + 3) lv st h' Q) : qW K N pc lv (.long x :: .ref a :: st) h Q := q_pf he (fun vs h1 h2 h3 => by
  obtain ⟨v, hv⟩ : ∃ v, vs[a2]? = some v := ⟨_, List.getElem?_eq_getElem h2⟩
  have g := th.1.2.1 a _ ha h1
  have ht := g.2 a2 v hv
  refine k _ (qH_pL th ha (fun e => ?_) h1 hv (tLk_s hk ht) ?_)
  · subst e
    exact absurd (congrArg Prod.fst g.1) (by show ¬ (1 : Nat) = 0; decide)
  · show tVk (sFt a1 a2) _ _
    unfold tLk at hk
    split at hk
    · next e => rw [e]; exact ⟨x, rfl⟩
    · cases hk)
/-- an index lies within an array -/
theorem sIn_g {i : Int32} {n : Nat} (hn : n < 2 ^ 31) (h : sIn i n = true) : 0 ≤ i.toInt ∧ i.toInt < (n : Int) ∧ i.toNatClampNeg < n ∧ (i.toNatClampNeg : Int) = i.toInt := by
  have h1 := sIn_ok h
  have h2 := sIn_lt h
  unfold vp_in at h1
  have h3 : 0 ≤ i.toInt := by
    have h9 : ¬ i < 0 := fun e => h1 (Or.inl e)
    rw [Int32.lt_iff_toInt_lt] at h9
    have h0 : (0 : Int32).toInt = 0 := rfl
    omega
  have h4 : (i.toNatClampNeg : Int) = i.toInt := by
    show ((i.toInt.toNat : Nat) : Int) = _
    omega
  omega
theorem tSh_ln {a t n : Nat} {w : List Value} {t' : Nat} (th : tInv h) (ha : a < 119) (hc : h[a]? = some (.inl (t', w))) (hs : tShF a = (1, t, n)) : t' = t ∧ w.length = n := by
  have g := (th.2.1 a _ ha hc).1
  rw [hs] at g
  exact ⟨(congrArg (fun z : Nat × Nat × Nat => z.2.1) g).symm, (congrArg (fun z : Nat × Nat × Nat => z.2.2) g).symm⟩

theorem q_iaload {a n : Nat} {i : Int32} (th : qH h I L R) (he : mE (mtv K) pc = some (.iaload, ln, a1, a2)) (ha : a < 119) (hs : tShF a = (1, 0, n)) (k : sIn i n = true → qW K N (pc + 1) lv (.int (I a i.toNatClampNeg) :: st) h Q) : qW K N pc lv (.int i :: .ref a :: st) h Q := q_H he rfl (fun z hz => by
  unfold sHp at hz; dsimp only at hz
  split at hz
  · next w hq =>
    split at hz
    · next e =>
      cases hz
      obtain ⟨-, g⟩ := tSh_ln th.1 ha hq hs
      rw [g] at e
      have e2 : vI h a i.toNatClampNeg = iOf (w.getD i.toNatClampNeg .null) := by unfold vI; rw [hq]; rfl
      rw [th.2.1] at e2
      dsimp only
      rw [← e2]
      exact k e
    · cases hz
  · cases hz) (fun g D cl sl => sNo he rfl g rfl rfl rfl rfl)
theorem q_baload {a n : Nat} {i : Int32} (th : qH h I L R) (he : mE (mtv K) pc = some (.baload, ln, a1, a2)) (ha : a < 119) (hs : tShF a = (1, 1, n)) (k : sIn i n = true → qW K N (pc + 1) lv (.int (I a i.toNatClampNeg) :: st) h Q) : qW K N pc lv (.int i :: .ref a :: st) h Q := q_H he rfl (fun z hz => by
  unfold sHp at hz; dsimp only at hz
  split at hz
  · next w hq =>
    split at hz
    · next e =>
      cases hz
      obtain ⟨-, g⟩ := tSh_ln th.1 ha hq hs
      rw [g] at e
      have e2 : vI h a i.toNatClampNeg = iOf (w.getD i.toNatClampNeg .null) := by unfold vI; rw [hq]; rfl
      rw [th.2.1] at e2
      dsimp only
      rw [← e2]
      exact k e
    · cases hz
  · cases hz) (fun g D cl sl => sNo he rfl g rfl rfl rfl rfl)
theorem q_laload {a n : Nat} {i : Int32} (th : qH h I L R) (he : mE (mtv K) pc = some (.laload, ln, a1, a2)) (ha : a < 119) (hs : tShF a = (1, 2, n)) (k : sIn i n = true → qW K N (pc + 1) lv (.long (L a i.toNatClampNeg) :: st) h Q) : qW K N pc lv (.int i :: .ref a :: st) h Q := q_H he rfl (fun z hz => by
  unfold sHp at hz; dsimp only at hz
  split at hz
  · next w hq =>
    split at hz
    · next e =>
      cases hz
      obtain ⟨-, g⟩ := tSh_ln th.1 ha hq hs
      rw [g] at e
      have e2 : vL h a i.toNatClampNeg = lOf (w.getD i.toNatClampNeg .null) := by unfold vL; rw [hq]; rfl
      rw [th.2.2.1] at e2
      dsimp only
      rw [← e2]
      exact k e
    · cases hz
  · cases hz) (fun g D cl sl => sNo he rfl g rfl rfl rfl rfl)
/-- a local array -/
theorem q_ialoadN {a : Nat} {i : Int32} (th : qH h I L R) (he : mE (mtv K) pc = some (.iaload, ln, a1, a2)) (ha : 119 ≤ a) (k : sIn i 6 = true → qW K N (pc + 1) lv (.int (I a i.toNatClampNeg) :: st) h Q) : qW K N pc lv (.int i :: .ref a :: st) h Q := q_H he rfl (fun z hz => by
  unfold sHp at hz; dsimp only at hz
  split at hz
  · next w hq =>
    split at hz
    · next e =>
      cases hz
      obtain ⟨w', e1, g, -⟩ := th.1.2.2 a _ ha hq
      cases e1
      rw [g] at e
      have e2 : vI h a i.toNatClampNeg = iOf (w.getD i.toNatClampNeg .null) := by unfold vI; rw [hq]; rfl
      rw [th.2.1] at e2
      dsimp only
      rw [← e2]
      exact k e
    · cases hz
  · cases hz) (fun g D cl sl => sNo he rfl g rfl rfl rfl rfl)
/-- an array of references: each leads to its own place -/
theorem q_aaload {a n t m : Nat} {i : Int32} (th : qH h I L R) (he : mE (mtv K) pc = some (.aaload, ln, a1, a2)) (ha : a < 119) (hs : tShF a = (1, t + 4, n)) (hm : ∀ j, j < n → tRf a j = (m + j, m + j)) (k : sIn i n = true → qW K N (pc + 1) lv (.ref (m + i.toNatClampNeg) :: st) h Q) : qW K N pc lv (.int i :: .ref a :: st) h Q := q_H he rfl (fun z hz => by
  unfold sHp at hz; dsimp only at hz
  split at hz
  · next t' w hq =>
    split at hz
    · next e =>
      cases hz
      obtain ⟨e1, e2⟩ := e
      obtain ⟨g1, g⟩ := tSh_ln th.1 ha hq hs
      have hj := sIn_lt e1
      have hv := (th.1.2.1 a _ ha hq).2 i.toNatClampNeg _ (List.getElem?_eq_getElem (l := w) hj)
      have hv : tVk (sTy (t' + 4)) (tRf a i.toNatClampNeg) (w[i.toNatClampNeg]'hj) := hv
      rw [g] at e1
      rw [hm _ (by rw [← g]; exact hj)] at hv
      have hx : ∃ k, w[i.toNatClampNeg]'hj = .ref k ∧ m + i.toNatClampNeg ≤ k ∧ k ≤ m + i.toNatClampNeg := by
        cases t' with
        | zero => exact hv
        | succ t' => exact hv
      obtain ⟨x, x0, x1, x2⟩ := hx
      have x3 : x = m + i.toNatClampNeg := Nat.le_antisymm x2 x1
      dsimp only
      rw [List.getD_eq_getElem?_getD, List.getElem?_eq_getElem hj, Option.getD_some, x0, x3]
      exact k e1
    · cases hz
  · cases hz) (fun g D cl sl => sNo he rfl g rfl rfl rfl rfl)
/-- the doors' array -/
theorem q_aaloadD {i : Int32} (th : qH h I L R) (he : mE (mtv K) pc = some (.aaload, ln, a1, a2)) (k : sIn i 10 = true → 35 ≤ R i.toNatClampNeg → R i.toNatClampNeg ≤ 44 → qW K N (pc + 1) lv (.ref (R i.toNatClampNeg) :: st) h Q) : qW K N pc lv (.int i :: .ref 13 :: st) h Q := q_H he rfl (fun z hz => by
  unfold sHp at hz; dsimp only at hz
  split at hz
  · next t' w hq =>
    split at hz
    · next e =>
      cases hz
      obtain ⟨e1, e2⟩ := e
      obtain ⟨g1, g⟩ := tSh_ln th.1 (a := 13) (by decide) hq (t := 6) (n := 10) rfl
      have hj := sIn_lt e1
      have hv := (th.1.2.1 13 _ (by decide) hq).2 i.toNatClampNeg _ (List.getElem?_eq_getElem (l := w) hj)
      have hv : tVk (sTy (t' + 4)) (35, 44) (w[i.toNatClampNeg]'hj) := hv
      rw [g] at e1
      have : t' = 2 := by omega
      subst this
      obtain ⟨x, x0, x1, x2⟩ := (show ∃ k, w[i.toNatClampNeg]'hj = .ref k ∧ 35 ≤ k ∧ k ≤ 44 from hv)
      have e3 : vR h i.toNatClampNeg = x := by
        unfold vR; rw [hq]
        show nOf (w.getD _ _) = _
        rw [List.getD_eq_getElem?_getD, List.getElem?_eq_getElem hj, Option.getD_some, x0]
        rfl
      rw [th.2.2.2] at e3
      dsimp only
      rw [List.getD_eq_getElem?_getD, List.getElem?_eq_getElem hj, Option.getD_some, x0]
      rw [← e3]
      rw [← e3] at x1 x2
      exact k e1 x1 x2
    · cases hz
  · cases hz) (fun g D cl sl => sNo he rfl g rfl rfl rfl rfl)

theorem q_iastore {a n : Nat} {i : Int32} {x : Int32} (th : qH h I L R) (he : mE (mtv K) pc = some (.iastore, ln, a1, a2)) (ha : a < 119) (hs : tShF a = (1, 0, n)) (k : sIn i n = true → ∀ h', qH h' (upI I a i.toNatClampNeg x) L R → qW K N (pc + 1) lv st h' Q) : qW K N pc lv (.int x :: .int i :: .ref a :: st) h Q := q_H he rfl (fun z hz => by
  unfold sHp at hz; dsimp only at hz
  split at hz
  · next w hq =>
    split at hz
    · next e =>
      cases hz
      obtain ⟨-, g⟩ := tSh_ln th.1 ha hq hs
      have e1 := e
      have hj := sIn_lt e1
      have hv : (sVs (.inl (0, w)))[i.toNatClampNeg]? = some (w[i.toNatClampNeg]'hj) := List.getElem?_eq_getElem hj
      have ht := (th.1.2.1 a _ ha hq).2 i.toNatClampNeg _ hv
      rw [g] at e1
      refine k e1 _ (qH_pI th hq hv (tVk_ty ht (Or.inl rfl)) (fun _ => ⟨x, rfl⟩) (fun _ => ht))
    · cases hz
  · cases hz) (fun g D cl sl => sNo he rfl g rfl rfl rfl rfl)
theorem q_bastore {a n : Nat} {i : Int32} {x : Int32} (th : qH h I L R) (he : mE (mtv K) pc = some (.bastore, ln, a1, a2)) (ha : a < 119) (hs : tShF a = (1, 1, n)) (k : sIn i n = true → ∀ h', qH h' (upI I a i.toNatClampNeg x) L R → qW K N (pc + 1) lv st h' Q) : qW K N pc lv (.int x :: .int i :: .ref a :: st) h Q := q_H he rfl (fun z hz => by
  unfold sHp at hz; dsimp only at hz
  split at hz
  · next w hq =>
    split at hz
    · next e =>
      cases hz
      obtain ⟨-, g⟩ := tSh_ln th.1 ha hq hs
      obtain ⟨e1, ex⟩ := e
      have hj := sIn_lt e1
      have hv : (sVs (.inl (1, w)))[i.toNatClampNeg]? = some (w[i.toNatClampNeg]'hj) := List.getElem?_eq_getElem hj
      have ht := (th.1.2.1 a _ ha hq).2 i.toNatClampNeg _ hv
      rw [g] at e1
      refine k e1 _ (qH_pI th hq hv (tVk_ty ht (Or.inr rfl)) (fun _ => (ex.elim (fun q => Or.inl (by rw [q])) (fun q => Or.inr (by rw [q])))) (fun _ => ht))
    · cases hz
  · cases hz) (fun g D cl sl => sNo he rfl g rfl rfl rfl rfl)
theorem q_lastore {a n : Nat} {i : Int32} {x : Int64} (th : qH h I L R) (he : mE (mtv K) pc = some (.lastore, ln, a1, a2)) (ha : a < 119) (hs : tShF a = (1, 2, n)) (k : sIn i n = true → ∀ h', qH h' I (upL L a i.toNatClampNeg x) R → qW K N (pc + 1) lv st h' Q) : qW K N pc lv (.long x :: .int i :: .ref a :: st) h Q := q_H he rfl (fun z hz => by
  unfold sHp at hz; dsimp only at hz
  split at hz
  · next w hq =>
    split at hz
    · next e =>
      cases hz
      obtain ⟨-, g⟩ := tSh_ln th.1 ha hq hs
      have e1 := e
      have hj := sIn_lt e1
      have hv : (sVs (.inl (2, w)))[i.toNatClampNeg]? = some (w[i.toNatClampNeg]'hj) := List.getElem?_eq_getElem hj
      have ht := (th.1.2.1 a _ ha hq).2 i.toNatClampNeg _ hv
      rw [g] at e1
      refine k e1 _ (qH_pL th ha (fun e => ?_) hq hv ht ⟨x, rfl⟩)
      subst e
      exact absurd (congrArg (fun z : Nat × Nat × Nat => z.2.1) hs) (show ¬ (6 : Nat) = 2 by decide)
    · cases hz
  · cases hz) (fun g D cl sl => sNo he rfl g rfl rfl rfl rfl)
theorem q_iastoreN {a : Nat} {i : Int32} {x : Int32} (th : qH h I L R) (he : mE (mtv K) pc = some (.iastore, ln, a1, a2)) (ha : 119 ≤ a) (k : sIn i 6 = true → ∀ h', qH h' (upI I a i.toNatClampNeg x) L R → qW K N (pc + 1) lv st h' Q) : qW K N pc lv (.int x :: .int i :: .ref a :: st) h Q := q_H he rfl (fun z hz => by
  unfold sHp at hz; dsimp only at hz
  split at hz
  · next w hq =>
    split at hz
    · next e =>
      cases hz
      obtain ⟨w', e2, g, g2⟩ := th.1.2.2 a _ ha hq
      cases e2
      have hj := sIn_lt e
      have hv : (sVs (.inl (0, w)))[i.toNatClampNeg]? = some (w[i.toNatClampNeg]'hj) := List.getElem?_eq_getElem hj
      have e1 := e
      rw [g] at e1
      exact k e1 _ (qH_pI th hq hv (g2 _ (List.getElem_mem hj)) (fun e => absurd e (by omega)) (fun e => absurd e (by omega)))
    · cases hz
  · cases hz) (fun g D cl sl => sNo he rfl g rfl rfl rfl rfl)
theorem q_alen {a n t : Nat} {x : Int32} (th : qH h I L R) (he : mE (mtv K) pc = some (.arraylength, ln, a1, a2)) (ha : a < 119) (hs : tShF a = (1, t, n)) (hx : Int32.ofNat n = x) (k : qW K N (pc + 1) lv (.int x :: st) h Q) : qW K N pc lv (.ref a :: st) h Q := q_H he rfl (fun z hz => by
  unfold sHp at hz; dsimp only at hz
  split at hz
  · next q hq =>
    split at hz
    · next e =>
      cases hz
      obtain ⟨-, g⟩ := tSh_ln (t' := q.1) (w := q.2) th.1 ha hq hs
      subst hx
      dsimp only
      rw [g]
      exact k
    · cases hz
  · cases hz) (fun g D cl sl => sNo he rfl g rfl rfl rfl rfl)
end QR

section QX
variable {K N pc a1 a2 ln : Nat} {Q : sR → Prop} {lv : sL} {st : List Value} {h : sH} {I : Nat → Nat → Int32} {L : Nat → Nat → Int64} {R : Nat → Nat}
theorem lg_0 {x y : Int64} : lg_cmp x y = 0 ↔ x = y := by
  unfold lg_cmp
  by_cases h1 : x > y
  · rw [if_pos h1]
    refine ⟨fun e => absurd e (by decide), fun e => ?_⟩
    subst e
    rw [gt_iff_lt, Int64.lt_iff_toInt_lt] at h1
    exact absurd h1 (Int.lt_irrefl _)
  · rw [if_neg h1]
    by_cases h2 : x = y
    · rw [if_pos h2]; exact ⟨fun _ => h2, fun _ => rfl⟩
    · rw [if_neg h2]; exact ⟨fun e => absurd e (by decide), fun e => absurd e h2⟩
theorem q_ifl_eq {off : Int} {t : Nat} {x y : Int64} (he : mE (mtv K) pc = some (.ifCond .eq off, ln, a1, a2)) (ht : sTg pc off = some t) (k1 : x = y → qW K N t lv st h Q) (k2 : ¬ x = y → qW K N (pc + 3) lv st h Q) : qW K N pc lv (.int (lg_cmp x y) :: st) h Q := q_if_eq he ht (fun e => k1 (lg_0.mp e)) (fun e => k2 (fun q => e (lg_0.mpr q)))
theorem q_ifl_ne {off : Int} {t : Nat} {x y : Int64} (he : mE (mtv K) pc = some (.ifCond .ne off, ln, a1, a2)) (ht : sTg pc off = some t) (k1 : ¬ x = y → qW K N t lv st h Q) (k2 : x = y → qW K N (pc + 3) lv st h Q) : qW K N pc lv (.int (lg_cmp x y) :: st) h Q := q_if_ne he ht (fun e => k1 (fun q => e (lg_0.mpr q))) (fun e => k2 (lg_0.mp e))
theorem q_ldc2_w {ix : Nat} {x : Int64} (he : mE (mtv K) pc = some (.ldc2_w ix, ln, a1, a2)) (hx : Int64.ofNat a1 = x) (k : qW K N (pc + 3) lv (.long x :: st) h Q) : qW K N pc lv st h Q := q_H he rfl (fun z hz => by cases hz; rw [hx]; exact k) (fun g => by cases g)
theorem q_ldc {ix : Nat} {x : Int32} (he : mE (mtv K) pc = some (.ldc ix, ln, a1, a2)) (hx : Int32.ofNat a1 = x) (k : qW K N (pc + 2) lv (.int x :: st) h Q) : qW K N pc lv st h Q := q_H he rfl (fun z hz => by cases hz; rw [hx]; exact k) (fun g => by cases g)
theorem q_ldc_w {ix : Nat} {x : Int32} (he : mE (mtv K) pc = some (.ldc_w ix, ln, a1, a2)) (hx : Int32.ofNat a1 = x) (k : qW K N (pc + 3) lv (.int x :: st) h Q) : qW K N pc lv st h Q := q_H he rfl (fun z hz => by cases hz; rw [hx]; exact k) (fun g => by cases g)
theorem sIn_nn {i : Int32} {n : Nat} (h : sIn i n = true) : 0 ≤ i.toInt := by
  have h1 := sIn_ok h
  unfold vp_in at h1
  have h9 : ¬ i < 0 := fun e => h1 (Or.inl e)
  rw [Int32.lt_iff_toInt_lt] at h9
  have h0 : (0 : Int32).toInt = 0 := rfl
  omega
theorem qB {i : Int32} {n m : Nat} (b : sIn i n = true) (h : m + n ≤ 119) : m + i.toNatClampNeg < 119 := by
  have := sIn_lt b
  omega
theorem qBw {i : Int32} (b : sIn i 6 = true) : tShF (3 + i.toNatClampNeg) = (1, 0, 6) := by
  have h1 : ∀ j, j < 6 → tShF (3 + j) = (1, 0, 6) := by decide
  exact h1 _ (sIn_lt b)
theorem qNeI {x y : Int32} {m n k : Nat} (bx : sIn x n = true) (b2 : sIn y k = true) (c : ¬ x = y) : m + x.toNatClampNeg ≠ m + y.toNatClampNeg := fun e => c (by
  have h1 := sIn_nn bx
  have h2 := sIn_nn b2
  have e1 : x.toNatClampNeg = x.toInt.toNat := rfl
  have e2 : y.toNatClampNeg = y.toInt.toNat := rfl
  apply Int32.toInt_inj.mp
  omega)
theorem qNeJ {x y : Int32} {n k : Nat} (bx : sIn x n = true) (b2 : sIn y k = true) (c : ¬ x = y) : x.toNatClampNeg ≠ y.toNatClampNeg := fun e => qNeI (m := 0) bx b2 c (by rw [e])
theorem hNone {lv : sL} : qLs lv [] := fun j v h => by cases h
/-! a call in a method with handlers -/
noncomputable def qKh (K N pc : Nat) (lv : sL) (rest : List Value) (Q : sR → Prop) : sR → Prop := fun r => match r with
  | (.inl v, h1) => qW K N (pc + 3) lv (v.toList ++ rest) h1 Q
  | (.inr E, h1) => ∀ hp, sHd (mE (mtv K)) E pc (mT (mtv K)) = some hp → E < 6 → ∀ cl sl z, sCk (mE (mtv K)) lv h1 cl sl (mL (mtv K)) hp = some z → match z with
    | .inl c => qW K N c.1 c.2.1 c.2.2.1 c.2.2.2.1 Q
    | .inr r => Q r
theorem q_callh {i : Instr} {as rest : List Value} (he : mE (mtv K) pc = some (i, ln, a1, a2)) (h1 : ¬ 1000 ≤ a1) (hP : sP (mL (mtv K)) i pc lv st = none) (hH : sHp none i a1 a2 pc lv st h = none) (hr : sRet (mR (mtv K)) i st = none) (ha : ∀ cl sl, sAl (mC (mtv K)) (mS (mtv K)) i a1 pc lv st h cl sl = none) (hi : ∀ q, sInv0 mtv i a1 a2 st h = some q → q = (as, rest)) (hT : (match mT (mtv K) with
    | [] => false
    | _ => true) = true)
    (kk : ∀ r, qGo a1 as h r → qKh K N pc lv rest Q r) : qW K N pc lv st h Q := qW_le (Nat.le_succ N) (q_step1 (fun D cl sl z hz => by
  unfold sStep at hz
  rw [he] at hz; dsimp only at hz
  rw [hP] at hz; dsimp only at hz
  rw [hH] at hz; dsimp only at hz
  rw [hr] at hz; dsimp only at hz
  rw [if_neg h1] at hz
  cases g : sInv0 mtv i a1 a2 st h with
  | none =>
    rw [g] at hz; dsimp only at hz
    rw [ha cl sl] at hz
    cases hz
  | some q =>
    have e := hi q g
    subst e
    rw [g] at hz; dsimp only at hz
    split at hz
    · split at hz
      · next v h2 hg => cases hz; exact fun n r hn hr => kk (.inl v, h2) ⟨D, hg⟩ n D _ _ r hn hr
      · next E h2 hg =>
        have kx := kk (.inr E, h2) ⟨D, hg⟩
        cases gT : mT (mtv K) with
        | nil => rw [gT] at hT; cases hT
        | cons t ts =>
          have hh : ∀ hp, sHd (mE (mtv K)) E pc (t :: ts) = some hp → sHd (mE (mtv K)) E pc (mT (mtv K)) = some hp := fun hp q => by rw [gT]; exact q
          rw [gT] at hz
          dsimp only at hz
          split at hz
          · next hp hg2 =>
            split at hz
            · cases hz
            · next hE =>
              have := kx hp (hh hp hg2) (Nat.lt_of_not_le hE) _ _ z hz
              cases z with
              | inl c => exact fun n r hn hr => this n D _ _ r hn hr
              | inr r => exact this
          · cases hz
      · cases hz
    · cases hz))
theorem q_virtualh {ix o : Nat} {as rest : List Value} (he : mE (mtv K) pc = some (.invokevirtual ix, ln, a1, a2)) (h1 : ¬ 1000 ≤ a1) (hA : sArgs (mN (mtv a1)) st = as) (hR : st.drop (mN (mtv a1)) = .ref o :: rest) (hT : (match mT (mtv K) with
    | [] => false
    | _ => true) = true) (kk : ∀ r, qGo a1 (.ref o :: as) h r → qKh K N pc lv rest Q r) : qW K N pc lv st h Q := q_callh he h1 rfl rfl rfl (fun _ _ => rfl) (fun q g => by
  unfold sInv0 at g; dsimp only at g
  split at g
  · rw [hR] at g; dsimp only at g
    split at g
    · split at g
      · cases g; rw [hA]
      · cases g
    · cases g
  · cases g) hT kk
theorem q_virtualIh {ix o : Nat} {as rest : List Value} (he : mE (mtv K) pc = some (.invokevirtual ix, ln, a1, a2)) (h1 : ¬ 1000 ≤ a1) (hA : sArgs (mN (mtv a1)) st = as) (hR : st.drop (mN (mtv a1)) = .ref o :: rest) (hT : (match mT (mtv K) with
    | [] => false
    | _ => true) = true) (w : ∀ N', qW a1 N' 0 (lv_args 0 (.ref o :: as)) [] h (qKh K N pc lv rest Q)) : qW K N pc lv st h Q := q_virtualh he h1 hA hR hT (fun r g => qGo_w g w)
theorem qKh_v {v : Value} {h1 : sH} {rest : List Value} (k : qW K N (pc + 3) lv (v :: rest) h1 Q) : qKh K N pc lv rest Q (.inl (some v), h1) := k
theorem qKh_n {h1 : sH} {rest : List Value} (k : qW K N (pc + 3) lv rest h1 Q) : qKh K N pc lv rest Q (.inl none, h1) := k
theorem qKh_x {E hp : Nat} {h1 : sH} {rest : List Value} {c : Nat × sL × List Value × sH} (hh : sHd (mE (mtv K)) E pc (mT (mtv K)) = some hp) (hE : E < 6) (hk : ∀ cl sl, sCk (mE (mtv K)) lv h1 cl sl (mL (mtv K)) hp = some (.inl (c.1, c.2.1, c.2.2.1, c.2.2.2, cl, sl))) (k : qW K N c.1 c.2.1 c.2.2.1 c.2.2.2 Q) : qKh K N pc lv rest Q (.inr E, h1) := fun hp' g _ cl sl z hz => by
  rw [hh] at g
  cases g
  rw [hk] at hz
  cases hz
  exact k
theorem qKh_z {E : Nat} {h1 : sH} {rest : List Value} (hh : sHd (mE (mtv K)) E pc (mT (mtv K)) = none) : qKh K N pc lv rest Q (.inr E, h1) := fun hp' g => by
  rw [hh] at g
  cases g
end QX
section QE
variable {K N pc a1 a2 ln : Nat} {Q : sR → Prop} {lv : sL} {st : List Value} {h : sH} {I : Nat → Nat → Int32} {L : Nat → Nat → Int64} {R : Nat → Nat}
theorem q_getIe {ix a : Nat} {x : Int32} (th : qH h I L R) (he : mE (mtv K) pc = some (.getfield ix, ln, a1, a2)) (ha : a < 119) (hk : tIk a1 a2 = true) (hx : I a a2 = x) (k : qW K N (pc + 3) lv (.int x :: st) h Q) : qW K N pc lv (.ref a :: st) h Q := q_getI th he ha hk (by rw [hx]; exact k)
theorem q_getLe {ix a : Nat} {x : Int64} (th : qH h I L R) (he : mE (mtv K) pc = some (.getfield ix, ln, a1, a2)) (ha : a < 119) (hk : tLk a1 a2 = true) (hx : L a a2 = x) (k : qW K N (pc + 3) lv (.long x :: st) h Q) : qW K N pc lv (.ref a :: st) h Q := q_getL th he ha hk (by rw [hx]; exact k)
theorem upI_s {a f : Nat} {x : Int32} : upI I a f x a f = x := if_pos ⟨rfl, rfl⟩
theorem upI_n {a f b g : Nat} {x : Int32} (hn : b ≠ a ∨ g ≠ f) : upI I a f x b g = I b g := if_neg (fun e => hn.elim (fun q => q e.1) (fun q => q e.2))
theorem upI_ne {a f b g : Nat} {x : Int32} (hn : ¬ (b = a ∧ g = f)) : upI I a f x b g = I b g := if_neg hn
theorem upL_s {a f : Nat} {x : Int64} : upL L a f x a f = x := if_pos ⟨rfl, rfl⟩
theorem upL_n {a f b g : Nat} {x : Int64} (hn : b ≠ a ∨ g ≠ f) : upL L a f x b g = L b g := if_neg (fun e => hn.elim (fun q => q e.1) (fun q => q e.2))
theorem upL_ne {a f b g : Nat} {x : Int64} (hn : ¬ (b = a ∧ g = f)) : upL L a f x b g = L b g := if_neg hn
end QE
end
section
/-! part 42: bits of ints; the leaves -/
noncomputable def shD (d : Int32) : Nat := d.toBitVec.toNat % 32
/-- the bit of x at the place d -/
noncomputable def hs (x d : Int32) : Bool := x.toBitVec.getLsbD (shD d)
noncomputable def tb (x : Int32) (n : Nat) : Bool := x.toBitVec.getLsbD n
theorem shD_lt (d : Int32) : shD d < 32 := Nat.mod_lt _ (by decide)
theorem bv1 (y : BitVec 32) : y &&& 1#32 = if y.getLsbD 0 = true then 1#32 else 0#32 := by
  apply BitVec.eq_of_getLsbD_eq
  intro i hi
  rw [BitVec.getLsbD_and, BitVec.getLsbD_one]
  by_cases h0 : i = 0
  · subst h0
    cases y.getLsbD 0 <;> simp
  · cases y.getLsbD 0 <;> simp [h0]
theorem i1_e (y : Int32) : (y &&& 1) = if tb y 0 = true then 1 else 0 := by
  apply Int32.toBitVec_inj.mp
  rw [show (y &&& 1).toBitVec = if y.toBitVec.getLsbD 0 = true then 1#32 else 0#32 from bv1 _]
  unfold tb
  cases y.toBitVec.getLsbD 0 <;> rfl
theorem sh_and (d : Int32) : (d.toBitVec &&& 31#32).toNat = shD d := by
  rw [BitVec.toNat_and, show (31#32).toNat = 2 ^ 5 - 1 from rfl, Nat.and_two_pow_sub_one_eq_mod]
  rfl
theorem sh_smod (d : Int32) : ((d.toBitVec &&& 31#32).smod 32).toNat = shD d := by
  have hz := sh_and d
  have hl := shD_lt d
  have hm9 : (d.toBitVec &&& 31#32).msb = false := by
    rw [BitVec.msb_eq_decide]
    exact decide_eq_false (by omega)
  rw [BitVec.smod_eq, hm9]
  show ((d.toBitVec &&& 31#32) % 32#32).toNat = _
  rw [BitVec.toNat_umod, hz]
  exact Nat.mod_eq_of_lt hl
theorem sh_umod (d : Int32) : ((d.toBitVec &&& 31#32) % 32).toNat = shD d := by
  show ((d.toBitVec &&& 31#32) % 32#32).toNat = _
  rw [BitVec.toNat_umod, sh_and]
  exact Nat.mod_eq_of_lt (shD_lt d)
theorem tb_iu (x d : Int32) : tb (x.toUInt32 >>> (d.toUInt32 &&& Int32.toUInt32 31)).toInt32 0 = hs x d := by
  show (x.toBitVec >>> ((d.toBitVec &&& 31#32) % 32)).getLsbD 0 = _
  rw [BitVec.ushiftRight_eq', BitVec.getLsbD_ushiftRight, sh_umod]
  rfl
theorem tb_is (x d : Int32) : tb (x >>> (d &&& 31)) 0 = hs x d := by
  show (x.toBitVec.sshiftRight' ((d.toBitVec &&& 31#32).smod 32)).getLsbD 0 = _
  rw [BitVec.getLsbD_sshiftRight', sh_smod, if_pos (by have := shD_lt d; omega)]
  simp [hs]
theorem hs_iu (x d : Int32) : ((x.toUInt32 >>> (d.toUInt32 &&& Int32.toUInt32 31)).toInt32 &&& 1) = b2 (hs x d = true) := by
  rw [i1_e, tb_iu]; rfl
theorem hs_is (x d : Int32) : ((x >>> (d &&& 31)) &&& 1) = b2 (hs x d = true) := by
  rw [i1_e, tb_is]; rfl
theorem hs_is0 {x d : Int32} : ((x >>> (d &&& 31)) &&& 1) = 0 ↔ ¬ hs x d = true := by rw [hs_is]; exact b2_0
theorem hs_is1 {x d : Int32} : ((x >>> (d &&& 31)) &&& 1) = 1 ↔ hs x d = true := by rw [hs_is]; exact b2_1
/-- a set with or without a number -/
noncomputable def xW (s d c : Int32) : Int32 := if c = 0 then s &&& ((1 <<< (d &&& 31)) ^^^ -1) else s ||| (1 <<< (d &&& 31))
theorem tb_shl (d : Int32) (n : Nat) : tb ((1 : Int32) <<< (d &&& 31)) n = decide (n = shD d) := by
  show ((1#32) <<< ((d.toBitVec &&& 31#32).smod 32)).getLsbD n = _
  rw [BitVec.shiftLeft_eq', BitVec.getLsbD_shiftLeft, sh_smod, BitVec.getLsbD_one]
  have := shD_lt d
  by_cases h1 : n = shD d
  · subst h1
    simp [shD_lt]
  · by_cases h2 : n < shD d
    · simp [h1, h2]
    · have : ¬ n - shD d = 0 := by omega
      simp [h1, this]
theorem tb_or (x y : Int32) (n : Nat) : tb (x ||| y) n = (tb x n || tb y n) := BitVec.getLsbD_or
theorem tb_and (x y : Int32) (n : Nat) : tb (x &&& y) n = (tb x n && tb y n) := BitVec.getLsbD_and
theorem tb_xor (x y : Int32) (n : Nat) : tb (x ^^^ y) n = (tb x n ^^ tb y n) := BitVec.getLsbD_xor
theorem tb_m1 (n : Nat) : tb (-1 : Int32) n = decide (n < 32) := by
  show (BitVec.allOnes 32).getLsbD n = _
  exact BitVec.getLsbD_allOnes
theorem tb_0 (n : Nat) : tb (0 : Int32) n = false := BitVec.getLsbD_zero
theorem tb_ge {x : Int32} {n : Nat} (h : 32 ≤ n) : tb x n = false := BitVec.getLsbD_of_ge _ _ h
theorem tb_ext {x y : Int32} (h : ∀ n, n < 32 → tb x n = tb y n) : x = y := Int32.toBitVec_inj.mp (BitVec.eq_of_getLsbD_eq h)
theorem tb_xW (s d c : Int32) (n : Nat) : tb (xW s d c) n = if n = shD d then decide (¬ c = 0) else tb s n := by
  unfold xW
  by_cases hc : c = 0
  · rw [if_pos hc, tb_and, tb_xor, tb_shl, tb_m1]
    by_cases h1 : n = shD d
    · rw [if_pos h1]
      have := shD_lt d
      simp [hc, h1, this]
    · rw [if_neg h1]
      by_cases h2 : n < 32
      · simp [h1, h2]
      · rw [tb_ge (x := s) (by omega)]; rfl
  · rw [if_neg hc, tb_or, tb_shl]
    by_cases h1 : n = shD d
    · rw [if_pos h1]
      simp [hc, h1]
    · rw [if_neg h1]
      simp [h1]
theorem shD_nat {n : Nat} (h : n < 32) : shD (Int32.ofNat n) = n := by
  show (BitVec.ofNat 32 n).toNat % 32 = n
  rw [BitVec.toNat_ofNat, Nat.mod_eq_of_lt (show n < 2 ^ 32 by omega), Nat.mod_eq_of_lt h]
theorem shD_clamp {d : Int32} (h0 : 0 ≤ d.toInt) (h : d.toInt < 32) : shD d = d.toNatClampNeg := by
  obtain ⟨h1, h2⟩ := i32_nn h0
  show d.toBitVec.toNat % 32 = d.toInt.toNat
  omega
theorem i32_clamp {d : Int32} (h0 : 0 ≤ d.toInt) : d = Int32.ofNat d.toNatClampNeg := by
  obtain ⟨h1, h2⟩ := i32_nn h0
  apply Int32.toBitVec_inj.mp
  show _ = BitVec.ofNat 32 d.toInt.toNat
  apply BitVec.eq_of_toNat_eq
  rw [BitVec.toNat_ofNat, h2, Int.toNat_natCast, Nat.mod_eq_of_lt]
  omega
theorem ofN_toInt {n : Nat} (h : n < 2147483648) : (Int32.ofNat n).toInt = (n : Int) := Int32.toInt_ofNat_of_lt (by omega)
theorem ofN_clamp {n : Nat} (h : n < 2147483648) : (Int32.ofNat n).toNatClampNeg = n := by
  show (Int32.ofNat n).toInt.toNat = n
  rw [ofN_toInt h]; rfl
theorem ofN_succ {n : Nat} (h : n < 2147483000) : Int32.ofNat n + 1 = Int32.ofNat (n + 1) := by
  apply Int32.toInt_inj.mp
  have h1 : (1 : Int32).toInt = 1 := rfl
  rw [i32_add (by rw [ofN_toInt (by omega), h1]; omega) (by rw [ofN_toInt (by omega), h1]; omega), ofN_toInt (by omega), ofN_toInt (by omega), h1]
  omega
/-- the number of ones, as the class counts them -/
noncomputable def bc32 (a0 : Int32) : Int32 := (((((((a0 - ((((a0).toUInt32 >>> (((1 : Int32)).toUInt32 &&& Int32.toUInt32 31)).toInt32) &&& (1431655765 : Int32))) &&& (858993459 : Int32)) + (((((a0 - ((((a0).toUInt32 >>> (((1 : Int32)).toUInt32 &&& Int32.toUInt32 31)).toInt32) &&& (1431655765 : Int32)))).toUInt32 >>> (((2 : Int32)).toUInt32 &&& Int32.toUInt32 31)).toInt32) &&& (858993459 : Int32))) + ((((((a0 - ((((a0).toUInt32 >>> (((1 : Int32)).toUInt32 &&& Int32.toUInt32 31)).toInt32) &&& (1431655765 : Int32))) &&& (858993459 : Int32)) + (((((a0 - ((((a0).toUInt32 >>> (((1 : Int32)).toUInt32 &&& Int32.toUInt32 31)).toInt32) &&& (1431655765 : Int32)))).toUInt32 >>> (((2 : Int32)).toUInt32 &&& Int32.toUInt32 31)).toInt32) &&& (858993459 : Int32)))).toUInt32 >>> (((4 : Int32)).toUInt32 &&& Int32.toUInt32 31)).toInt32)) &&& (252645135 : Int32)) + ((((((((a0 - ((((a0).toUInt32 >>> (((1 : Int32)).toUInt32 &&& Int32.toUInt32 31)).toInt32) &&& (1431655765 : Int32))) &&& (858993459 : Int32)) + (((((a0 - ((((a0).toUInt32 >>> (((1 : Int32)).toUInt32 &&& Int32.toUInt32 31)).toInt32) &&& (1431655765 : Int32)))).toUInt32 >>> (((2 : Int32)).toUInt32 &&& Int32.toUInt32 31)).toInt32) &&& (858993459 : Int32))) + ((((((a0 - ((((a0).toUInt32 >>> (((1 : Int32)).toUInt32 &&& Int32.toUInt32 31)).toInt32) &&& (1431655765 : Int32))) &&& (858993459 : Int32)) + (((((a0 - ((((a0).toUInt32 >>> (((1 : Int32)).toUInt32 &&& Int32.toUInt32 31)).toInt32) &&& (1431655765 : Int32)))).toUInt32 >>> (((2 : Int32)).toUInt32 &&& Int32.toUInt32 31)).toInt32) &&& (858993459 : Int32)))).toUInt32 >>> (((4 : Int32)).toUInt32 &&& Int32.toUInt32 31)).toInt32)) &&& (252645135 : Int32))).toUInt32 >>> (((8 : Int32)).toUInt32 &&& Int32.toUInt32 31)).toInt32)) + (((((((((a0 - ((((a0).toUInt32 >>> (((1 : Int32)).toUInt32 &&& Int32.toUInt32 31)).toInt32) &&& (1431655765 : Int32))) &&& (858993459 : Int32)) + (((((a0 - ((((a0).toUInt32 >>> (((1 : Int32)).toUInt32 &&& Int32.toUInt32 31)).toInt32) &&& (1431655765 : Int32)))).toUInt32 >>> (((2 : Int32)).toUInt32 &&& Int32.toUInt32 31)).toInt32) &&& (858993459 : Int32))) + ((((((a0 - ((((a0).toUInt32 >>> (((1 : Int32)).toUInt32 &&& Int32.toUInt32 31)).toInt32) &&& (1431655765 : Int32))) &&& (858993459 : Int32)) + (((((a0 - ((((a0).toUInt32 >>> (((1 : Int32)).toUInt32 &&& Int32.toUInt32 31)).toInt32) &&& (1431655765 : Int32)))).toUInt32 >>> (((2 : Int32)).toUInt32 &&& Int32.toUInt32 31)).toInt32) &&& (858993459 : Int32)))).toUInt32 >>> (((4 : Int32)).toUInt32 &&& Int32.toUInt32 31)).toInt32)) &&& (252645135 : Int32)) + ((((((((a0 - ((((a0).toUInt32 >>> (((1 : Int32)).toUInt32 &&& Int32.toUInt32 31)).toInt32) &&& (1431655765 : Int32))) &&& (858993459 : Int32)) + (((((a0 - ((((a0).toUInt32 >>> (((1 : Int32)).toUInt32 &&& Int32.toUInt32 31)).toInt32) &&& (1431655765 : Int32)))).toUInt32 >>> (((2 : Int32)).toUInt32 &&& Int32.toUInt32 31)).toInt32) &&& (858993459 : Int32))) + ((((((a0 - ((((a0).toUInt32 >>> (((1 : Int32)).toUInt32 &&& Int32.toUInt32 31)).toInt32) &&& (1431655765 : Int32))) &&& (858993459 : Int32)) + (((((a0 - ((((a0).toUInt32 >>> (((1 : Int32)).toUInt32 &&& Int32.toUInt32 31)).toInt32) &&& (1431655765 : Int32)))).toUInt32 >>> (((2 : Int32)).toUInt32 &&& Int32.toUInt32 31)).toInt32) &&& (858993459 : Int32)))).toUInt32 >>> (((4 : Int32)).toUInt32 &&& Int32.toUInt32 31)).toInt32)) &&& (252645135 : Int32))).toUInt32 >>> (((8 : Int32)).toUInt32 &&& Int32.toUInt32 31)).toInt32))).toUInt32 >>> (((16 : Int32)).toUInt32 &&& Int32.toUInt32 31)).toInt32)) &&& (63 : Int32)
/-- .. and as the model does -/
noncomputable def bcs (x : Int32) : Nat → Int32
  | 0 => 0
  | n + 1 => bcs x n + b2 (tb x n = true)
theorem kB_16 : (Int8.ofInt (16)).toInt32 = (16 : Int32) := by decide
theorem kB_31 : (Int8.ofInt (31)).toInt32 = (31 : Int32) := by decide
theorem kB_63 : (Int8.ofInt (63)).toInt32 = (63 : Int32) := by decide
theorem kB_8 : (Int8.ofInt (8)).toInt32 = (8 : Int32) := by decide
theorem kI_0 : Int32.ofInt (0) = (0 : Int32) := by decide
theorem kI_1 : Int32.ofInt (1) = (1 : Int32) := by decide
theorem kI_2 : Int32.ofInt (2) = (2 : Int32) := by decide
theorem kI_4 : Int32.ofInt (4) = (4 : Int32) := by decide
theorem kI_m1 : Int32.ofInt (-1) = (-1 : Int32) := by decide
theorem qg_15 {h : sH} {r : sR} {Q : sR → Prop} {a0 : Int32} {a1 : Int32} (g : qGo 15 [.int (a0), .int (a1)] h r)
    (p1 : ∀ (c1 : ((((a0).toUInt32 >>> ((a1).toUInt32 &&& Int32.toUInt32 31)).toInt32) &&& (1 : Int32)) = 0), Q (.inl (some (.int ((0 : Int32)))), h))
    (p2 : ∀ (c1 : ¬ ((((a0).toUInt32 >>> ((a1).toUInt32 &&& Int32.toUInt32 31)).toInt32) &&& (1 : Int32)) = 0), Q (.inl (some (.int ((1 : Int32)))), h)) : Q r := by
  refine qGo_w g (fun N => ?_)
  have hl0 : qLs (lv_args 0 [.int (a0), .int (a1)]) [some (.int (a0)), some (.int (a1))] := qLs_ar 0
  refine q_iload_n (show mE (mtv 15) 0 = some (.iload_n 0, 1, 0, 0) from rfl) (hl0 0 _ rfl) ?_
  refine q_iload_n (show mE (mtv 15) 1 = some (.iload_n 1, 1, 0, 0) from rfl) (hl0 1 _ rfl) ?_
  refine q_iushr (show mE (mtv 15) 2 = some (.iushr, 1, 0, 0) from rfl) ?_
  refine q_iconst (show mE (mtv 15) 3 = some (.iconst 1, 1, 0, 0) from rfl) kI_1 ?_
  refine q_iand (show mE (mtv 15) 4 = some (.iand, 1, 0, 0) from rfl) ?_
  refine q_if_eq (t := 12) (show mE (mtv 15) 5 = some (.ifCond .eq 7, 3, 0, 0) from rfl) rfl (fun c1 => ?_) (fun c1 => ?_)
  · refine q_iconst (show mE (mtv 15) 12 = some (.iconst 0, 1, 0, 0) from rfl) kI_0 ?_
    refine q_ireturn (show mE (mtv 15) 13 = some (.ireturn, 1, 0, 0) from rfl) ?_
    exact p1 c1
  · refine q_iconst (show mE (mtv 15) 8 = some (.iconst 1, 1, 0, 0) from rfl) kI_1 ?_
    refine q_goto (t := 13) (show mE (mtv 15) 9 = some (.goto 4, 3, 0, 0) from rfl) rfl ?_
    refine q_ireturn (show mE (mtv 15) 13 = some (.ireturn, 1, 0, 0) from rfl) ?_
    exact p2 c1
theorem qg_29 {h : sH} {r : sR} {Q : sR → Prop} {a0 : Int32} {a1 : Int32} {a2 : Int32} (g : qGo 29 [.int (a0), .int (a1), .int (a2)] h r)
    (p1 : ∀ (c1 : a2 = 0), Q (.inl (some (.int (a0 &&& (((1 : Int32) <<< (a1 &&& 31)) ^^^ (-1 : Int32))))), h))
    (p2 : ∀ (c1 : ¬ a2 = 0), Q (.inl (some (.int (a0 ||| ((1 : Int32) <<< (a1 &&& 31))))), h)) : Q r := by
  refine qGo_w g (fun N => ?_)
  have hl0 : qLs (lv_args 0 [.int (a0), .int (a1), .int (a2)]) [some (.int (a0)), some (.int (a1)), some (.int (a2))] := qLs_ar 0
  refine q_iload_n (show mE (mtv 29) 0 = some (.iload_n 2, 1, 0, 0) from rfl) (hl0 2 _ rfl) ?_
  refine q_if_eq (t := 12) (show mE (mtv 29) 1 = some (.ifCond .eq 11, 3, 0, 0) from rfl) rfl (fun c1 => ?_) (fun c1 => ?_)
  · refine q_iload_n (show mE (mtv 29) 12 = some (.iload_n 0, 1, 0, 0) from rfl) (hl0 0 _ rfl) ?_
    refine q_iconst (show mE (mtv 29) 13 = some (.iconst 1, 1, 0, 0) from rfl) kI_1 ?_
    refine q_iload_n (show mE (mtv 29) 14 = some (.iload_n 1, 1, 0, 0) from rfl) (hl0 1 _ rfl) ?_
    refine q_ishl (show mE (mtv 29) 15 = some (.ishl, 1, 0, 0) from rfl) ?_
    refine q_iconst (show mE (mtv 29) 16 = some (.iconst (-1), 1, 0, 0) from rfl) kI_m1 ?_
    refine q_ixor (show mE (mtv 29) 17 = some (.ixor, 1, 0, 0) from rfl) ?_
    refine q_iand (show mE (mtv 29) 18 = some (.iand, 1, 0, 0) from rfl) ?_
    refine q_ireturn (show mE (mtv 29) 19 = some (.ireturn, 1, 0, 0) from rfl) ?_
    exact p1 c1
  · refine q_iload_n (show mE (mtv 29) 4 = some (.iload_n 0, 1, 0, 0) from rfl) (hl0 0 _ rfl) ?_
    refine q_iconst (show mE (mtv 29) 5 = some (.iconst 1, 1, 0, 0) from rfl) kI_1 ?_
    refine q_iload_n (show mE (mtv 29) 6 = some (.iload_n 1, 1, 0, 0) from rfl) (hl0 1 _ rfl) ?_
    refine q_ishl (show mE (mtv 29) 7 = some (.ishl, 1, 0, 0) from rfl) ?_
    refine q_ior (show mE (mtv 29) 8 = some (.ior, 1, 0, 0) from rfl) ?_
    refine q_goto (t := 19) (show mE (mtv 29) 9 = some (.goto 10, 3, 0, 0) from rfl) rfl ?_
    refine q_ireturn (show mE (mtv 29) 19 = some (.ireturn, 1, 0, 0) from rfl) ?_
    exact p2 c1
theorem qg_47 {h : sH} {r : sR} {Q : sR → Prop} {a0 : Int32} {a1 : Int32} {a2 : Int32} (g : qGo 47 [.int (a0), .int (a1), .int (a2)] h r)
    (p1 : ∀ (c1 : a0 < a1), Q (.inl (some (.int ((0 : Int32)))), h))
    (p2 : ∀ (c1 : ¬ a0 < a1), ∀ (c2 : a2 < a0), Q (.inl (some (.int ((0 : Int32)))), h))
    (p3 : ∀ (c1 : ¬ a0 < a1), ∀ (c2 : ¬ a2 < a0), Q (.inl (some (.int ((1 : Int32)))), h)) : Q r := by
  refine qGo_w g (fun N => ?_)
  have hl0 : qLs (lv_args 0 [.int (a0), .int (a1), .int (a2)]) [some (.int (a0)), some (.int (a1)), some (.int (a2))] := qLs_ar 0
  refine q_iload_n (show mE (mtv 47) 0 = some (.iload_n 0, 1, 0, 0) from rfl) (hl0 0 _ rfl) ?_
  refine q_iload_n (show mE (mtv 47) 1 = some (.iload_n 1, 1, 0, 0) from rfl) (hl0 1 _ rfl) ?_
  refine q_ic_lt (t := 14) (show mE (mtv 47) 2 = some (.if_icmp .lt 12, 3, 0, 0) from rfl) rfl (fun c1 => ?_) (fun c1 => ?_)
  · refine q_iconst (show mE (mtv 47) 14 = some (.iconst 0, 1, 0, 0) from rfl) kI_0 ?_
    refine q_ireturn (show mE (mtv 47) 15 = some (.ireturn, 1, 0, 0) from rfl) ?_
    exact p1 c1
  · refine q_iload_n (show mE (mtv 47) 5 = some (.iload_n 0, 1, 0, 0) from rfl) (hl0 0 _ rfl) ?_
    refine q_iload_n (show mE (mtv 47) 6 = some (.iload_n 2, 1, 0, 0) from rfl) (hl0 2 _ rfl) ?_
    refine q_ic_gt (t := 14) (show mE (mtv 47) 7 = some (.if_icmp .gt 7, 3, 0, 0) from rfl) rfl (fun c2 => ?_) (fun c2 => ?_)
    · refine q_iconst (show mE (mtv 47) 14 = some (.iconst 0, 1, 0, 0) from rfl) kI_0 ?_
      refine q_ireturn (show mE (mtv 47) 15 = some (.ireturn, 1, 0, 0) from rfl) ?_
      exact p2 c1 c2
    · refine q_iconst (show mE (mtv 47) 10 = some (.iconst 1, 1, 0, 0) from rfl) kI_1 ?_
      refine q_goto (t := 15) (show mE (mtv 47) 11 = some (.goto 4, 3, 0, 0) from rfl) rfl ?_
      refine q_ireturn (show mE (mtv 47) 15 = some (.ireturn, 1, 0, 0) from rfl) ?_
      exact p3 c1 c2
theorem qg_211 {h : sH} {r : sR} {Q : sR → Prop} {a0 : Int32} {a1 : Int32} {a2 : Int32} (g : qGo 211 [.int (a0), .int (a1), .int (a2)] h r)
    (p1 : ∀ (c1 : a0 < a1), Q (.inl (some (.int ((0 : Int32)))), h))
    (p2 : ∀ (c1 : ¬ a0 < a1), ∀ (c2 : a2 < a0), Q (.inl (some (.int ((0 : Int32)))), h))
    (p3 : ∀ (c1 : ¬ a0 < a1), ∀ (c2 : ¬ a2 < a0), Q (.inl (some (.int ((1 : Int32)))), h)) : Q r := by
  refine qGo_w g (fun N => ?_)
  have hl0 : qLs (lv_args 0 [.int (a0), .int (a1), .int (a2)]) [some (.int (a0)), some (.int (a1)), some (.int (a2))] := qLs_ar 0
  refine q_iload_n (show mE (mtv 211) 0 = some (.iload_n 0, 1, 0, 0) from rfl) (hl0 0 _ rfl) ?_
  refine q_iload_n (show mE (mtv 211) 1 = some (.iload_n 1, 1, 0, 0) from rfl) (hl0 1 _ rfl) ?_
  refine q_ic_lt (t := 14) (show mE (mtv 211) 2 = some (.if_icmp .lt 12, 3, 0, 0) from rfl) rfl (fun c1 => ?_) (fun c1 => ?_)
  · refine q_iconst (show mE (mtv 211) 14 = some (.iconst 0, 1, 0, 0) from rfl) kI_0 ?_
    refine q_ireturn (show mE (mtv 211) 15 = some (.ireturn, 1, 0, 0) from rfl) ?_
    exact p1 c1
  · refine q_iload_n (show mE (mtv 211) 5 = some (.iload_n 0, 1, 0, 0) from rfl) (hl0 0 _ rfl) ?_
    refine q_iload_n (show mE (mtv 211) 6 = some (.iload_n 2, 1, 0, 0) from rfl) (hl0 2 _ rfl) ?_
    refine q_ic_gt (t := 14) (show mE (mtv 211) 7 = some (.if_icmp .gt 7, 3, 0, 0) from rfl) rfl (fun c2 => ?_) (fun c2 => ?_)
    · refine q_iconst (show mE (mtv 211) 14 = some (.iconst 0, 1, 0, 0) from rfl) kI_0 ?_
      refine q_ireturn (show mE (mtv 211) 15 = some (.ireturn, 1, 0, 0) from rfl) ?_
      exact p2 c1 c2
    · refine q_iconst (show mE (mtv 211) 10 = some (.iconst 1, 1, 0, 0) from rfl) kI_1 ?_
      refine q_goto (t := 15) (show mE (mtv 211) 11 = some (.goto 4, 3, 0, 0) from rfl) rfl ?_
      refine q_ireturn (show mE (mtv 211) 15 = some (.ireturn, 1, 0, 0) from rfl) ?_
      exact p3 c1 c2
theorem qg_68 {h : sH} {r : sR} {Q : sR → Prop} {a0 : Int32} (g : qGo 68 [.int (a0)] h r)
    (p1 : Q (.inl (some (.int ((((((((a0 - ((((a0).toUInt32 >>> (((1 : Int32)).toUInt32 &&& Int32.toUInt32 31)).toInt32) &&& (1431655765 : Int32))) &&& (858993459 : Int32)) + (((((a0 - ((((a0).toUInt32 >>> (((1 : Int32)).toUInt32 &&& Int32.toUInt32 31)).toInt32) &&& (1431655765 : Int32)))).toUInt32 >>> (((2 : Int32)).toUInt32 &&& Int32.toUInt32 31)).toInt32) &&& (858993459 : Int32))) + ((((((a0 - ((((a0).toUInt32 >>> (((1 : Int32)).toUInt32 &&& Int32.toUInt32 31)).toInt32) &&& (1431655765 : Int32))) &&& (858993459 : Int32)) + (((((a0 - ((((a0).toUInt32 >>> (((1 : Int32)).toUInt32 &&& Int32.toUInt32 31)).toInt32) &&& (1431655765 : Int32)))).toUInt32 >>> (((2 : Int32)).toUInt32 &&& Int32.toUInt32 31)).toInt32) &&& (858993459 : Int32)))).toUInt32 >>> (((4 : Int32)).toUInt32 &&& Int32.toUInt32 31)).toInt32)) &&& (252645135 : Int32)) + ((((((((a0 - ((((a0).toUInt32 >>> (((1 : Int32)).toUInt32 &&& Int32.toUInt32 31)).toInt32) &&& (1431655765 : Int32))) &&& (858993459 : Int32)) + (((((a0 - ((((a0).toUInt32 >>> (((1 : Int32)).toUInt32 &&& Int32.toUInt32 31)).toInt32) &&& (1431655765 : Int32)))).toUInt32 >>> (((2 : Int32)).toUInt32 &&& Int32.toUInt32 31)).toInt32) &&& (858993459 : Int32))) + ((((((a0 - ((((a0).toUInt32 >>> (((1 : Int32)).toUInt32 &&& Int32.toUInt32 31)).toInt32) &&& (1431655765 : Int32))) &&& (858993459 : Int32)) + (((((a0 - ((((a0).toUInt32 >>> (((1 : Int32)).toUInt32 &&& Int32.toUInt32 31)).toInt32) &&& (1431655765 : Int32)))).toUInt32 >>> (((2 : Int32)).toUInt32 &&& Int32.toUInt32 31)).toInt32) &&& (858993459 : Int32)))).toUInt32 >>> (((4 : Int32)).toUInt32 &&& Int32.toUInt32 31)).toInt32)) &&& (252645135 : Int32))).toUInt32 >>> (((8 : Int32)).toUInt32 &&& Int32.toUInt32 31)).toInt32)) + (((((((((a0 - ((((a0).toUInt32 >>> (((1 : Int32)).toUInt32 &&& Int32.toUInt32 31)).toInt32) &&& (1431655765 : Int32))) &&& (858993459 : Int32)) + (((((a0 - ((((a0).toUInt32 >>> (((1 : Int32)).toUInt32 &&& Int32.toUInt32 31)).toInt32) &&& (1431655765 : Int32)))).toUInt32 >>> (((2 : Int32)).toUInt32 &&& Int32.toUInt32 31)).toInt32) &&& (858993459 : Int32))) + ((((((a0 - ((((a0).toUInt32 >>> (((1 : Int32)).toUInt32 &&& Int32.toUInt32 31)).toInt32) &&& (1431655765 : Int32))) &&& (858993459 : Int32)) + (((((a0 - ((((a0).toUInt32 >>> (((1 : Int32)).toUInt32 &&& Int32.toUInt32 31)).toInt32) &&& (1431655765 : Int32)))).toUInt32 >>> (((2 : Int32)).toUInt32 &&& Int32.toUInt32 31)).toInt32) &&& (858993459 : Int32)))).toUInt32 >>> (((4 : Int32)).toUInt32 &&& Int32.toUInt32 31)).toInt32)) &&& (252645135 : Int32)) + ((((((((a0 - ((((a0).toUInt32 >>> (((1 : Int32)).toUInt32 &&& Int32.toUInt32 31)).toInt32) &&& (1431655765 : Int32))) &&& (858993459 : Int32)) + (((((a0 - ((((a0).toUInt32 >>> (((1 : Int32)).toUInt32 &&& Int32.toUInt32 31)).toInt32) &&& (1431655765 : Int32)))).toUInt32 >>> (((2 : Int32)).toUInt32 &&& Int32.toUInt32 31)).toInt32) &&& (858993459 : Int32))) + ((((((a0 - ((((a0).toUInt32 >>> (((1 : Int32)).toUInt32 &&& Int32.toUInt32 31)).toInt32) &&& (1431655765 : Int32))) &&& (858993459 : Int32)) + (((((a0 - ((((a0).toUInt32 >>> (((1 : Int32)).toUInt32 &&& Int32.toUInt32 31)).toInt32) &&& (1431655765 : Int32)))).toUInt32 >>> (((2 : Int32)).toUInt32 &&& Int32.toUInt32 31)).toInt32) &&& (858993459 : Int32)))).toUInt32 >>> (((4 : Int32)).toUInt32 &&& Int32.toUInt32 31)).toInt32)) &&& (252645135 : Int32))).toUInt32 >>> (((8 : Int32)).toUInt32 &&& Int32.toUInt32 31)).toInt32))).toUInt32 >>> (((16 : Int32)).toUInt32 &&& Int32.toUInt32 31)).toInt32)) &&& (63 : Int32)))), h)) : Q r := by
  refine qGo_w g (fun N => ?_)
  have hl0 : qLs (lv_args 0 [.int (a0)]) [some (.int (a0))] := qLs_ar 0
  refine q_iload_n (show mE (mtv 68) 0 = some (.iload_n 0, 1, 0, 0) from rfl) (hl0 0 _ rfl) ?_
  refine q_iload_n (show mE (mtv 68) 1 = some (.iload_n 0, 1, 0, 0) from rfl) (hl0 0 _ rfl) ?_
  refine q_iconst (show mE (mtv 68) 2 = some (.iconst 1, 1, 0, 0) from rfl) kI_1 ?_
  refine q_iushr (show mE (mtv 68) 3 = some (.iushr, 1, 0, 0) from rfl) ?_
  refine q_ldc_w (show mE (mtv 68) 4 = some (.ldc_w 265, 3, 1431655765, 0) from rfl) rfl ?_
  refine q_iand (show mE (mtv 68) 7 = some (.iand, 1, 0, 0) from rfl) ?_
  refine q_isub (show mE (mtv 68) 8 = some (.isub, 1, 0, 0) from rfl) ?_
  refine q_istore_n (show mE (mtv 68) 9 = some (.istore_n 0, 1, 0, 0) from rfl) (Nat.le_of_ble_eq_true rfl) hl0 (fun lv1 (hl2 : qLs lv1 [some (.int (a0 - ((((a0).toUInt32 >>> (((1 : Int32)).toUInt32 &&& Int32.toUInt32 31)).toInt32) &&& (1431655765 : Int32))))]) => ?_)
  refine q_iload_n (show mE (mtv 68) 10 = some (.iload_n 0, 1, 0, 0) from rfl) (hl2 0 _ rfl) ?_
  refine q_ldc_w (show mE (mtv 68) 11 = some (.ldc_w 266, 3, 858993459, 0) from rfl) rfl ?_
  refine q_iand (show mE (mtv 68) 14 = some (.iand, 1, 0, 0) from rfl) ?_
  refine q_iload_n (show mE (mtv 68) 15 = some (.iload_n 0, 1, 0, 0) from rfl) (hl2 0 _ rfl) ?_
  refine q_iconst (show mE (mtv 68) 16 = some (.iconst 2, 1, 0, 0) from rfl) kI_2 ?_
  refine q_iushr (show mE (mtv 68) 17 = some (.iushr, 1, 0, 0) from rfl) ?_
  refine q_ldc_w (show mE (mtv 68) 18 = some (.ldc_w 266, 3, 858993459, 0) from rfl) rfl ?_
  refine q_iand (show mE (mtv 68) 21 = some (.iand, 1, 0, 0) from rfl) ?_
  refine q_iadd (show mE (mtv 68) 22 = some (.iadd, 1, 0, 0) from rfl) ?_
  refine q_istore_n (show mE (mtv 68) 23 = some (.istore_n 0, 1, 0, 0) from rfl) (Nat.le_of_ble_eq_true rfl) hl2 (fun lv3 (hl4 : qLs lv3 [some (.int (((a0 - ((((a0).toUInt32 >>> (((1 : Int32)).toUInt32 &&& Int32.toUInt32 31)).toInt32) &&& (1431655765 : Int32))) &&& (858993459 : Int32)) + (((((a0 - ((((a0).toUInt32 >>> (((1 : Int32)).toUInt32 &&& Int32.toUInt32 31)).toInt32) &&& (1431655765 : Int32)))).toUInt32 >>> (((2 : Int32)).toUInt32 &&& Int32.toUInt32 31)).toInt32) &&& (858993459 : Int32))))]) => ?_)
  refine q_iload_n (show mE (mtv 68) 24 = some (.iload_n 0, 1, 0, 0) from rfl) (hl4 0 _ rfl) ?_
  refine q_iload_n (show mE (mtv 68) 25 = some (.iload_n 0, 1, 0, 0) from rfl) (hl4 0 _ rfl) ?_
  refine q_iconst (show mE (mtv 68) 26 = some (.iconst 4, 1, 0, 0) from rfl) kI_4 ?_
  refine q_iushr (show mE (mtv 68) 27 = some (.iushr, 1, 0, 0) from rfl) ?_
  refine q_iadd (show mE (mtv 68) 28 = some (.iadd, 1, 0, 0) from rfl) ?_
  refine q_ldc_w (show mE (mtv 68) 29 = some (.ldc_w 267, 3, 252645135, 0) from rfl) rfl ?_
  refine q_iand (show mE (mtv 68) 32 = some (.iand, 1, 0, 0) from rfl) ?_
  refine q_istore_n (show mE (mtv 68) 33 = some (.istore_n 0, 1, 0, 0) from rfl) (Nat.le_of_ble_eq_true rfl) hl4 (fun lv5 (hl6 : qLs lv5 [some (.int (((((a0 - ((((a0).toUInt32 >>> (((1 : Int32)).toUInt32 &&& Int32.toUInt32 31)).toInt32) &&& (1431655765 : Int32))) &&& (858993459 : Int32)) + (((((a0 - ((((a0).toUInt32 >>> (((1 : Int32)).toUInt32 &&& Int32.toUInt32 31)).toInt32) &&& (1431655765 : Int32)))).toUInt32 >>> (((2 : Int32)).toUInt32 &&& Int32.toUInt32 31)).toInt32) &&& (858993459 : Int32))) + ((((((a0 - ((((a0).toUInt32 >>> (((1 : Int32)).toUInt32 &&& Int32.toUInt32 31)).toInt32) &&& (1431655765 : Int32))) &&& (858993459 : Int32)) + (((((a0 - ((((a0).toUInt32 >>> (((1 : Int32)).toUInt32 &&& Int32.toUInt32 31)).toInt32) &&& (1431655765 : Int32)))).toUInt32 >>> (((2 : Int32)).toUInt32 &&& Int32.toUInt32 31)).toInt32) &&& (858993459 : Int32)))).toUInt32 >>> (((4 : Int32)).toUInt32 &&& Int32.toUInt32 31)).toInt32)) &&& (252645135 : Int32)))]) => ?_)
  refine q_iload_n (show mE (mtv 68) 34 = some (.iload_n 0, 1, 0, 0) from rfl) (hl6 0 _ rfl) ?_
  refine q_iload_n (show mE (mtv 68) 35 = some (.iload_n 0, 1, 0, 0) from rfl) (hl6 0 _ rfl) ?_
  refine q_bipush (show mE (mtv 68) 36 = some (.bipush 8, 2, 0, 0) from rfl) kB_8 ?_
  refine q_iushr (show mE (mtv 68) 38 = some (.iushr, 1, 0, 0) from rfl) ?_
  refine q_iadd (show mE (mtv 68) 39 = some (.iadd, 1, 0, 0) from rfl) ?_
  refine q_istore_n (show mE (mtv 68) 40 = some (.istore_n 0, 1, 0, 0) from rfl) (Nat.le_of_ble_eq_true rfl) hl6 (fun lv7 (hl8 : qLs lv7 [some (.int ((((((a0 - ((((a0).toUInt32 >>> (((1 : Int32)).toUInt32 &&& Int32.toUInt32 31)).toInt32) &&& (1431655765 : Int32))) &&& (858993459 : Int32)) + (((((a0 - ((((a0).toUInt32 >>> (((1 : Int32)).toUInt32 &&& Int32.toUInt32 31)).toInt32) &&& (1431655765 : Int32)))).toUInt32 >>> (((2 : Int32)).toUInt32 &&& Int32.toUInt32 31)).toInt32) &&& (858993459 : Int32))) + ((((((a0 - ((((a0).toUInt32 >>> (((1 : Int32)).toUInt32 &&& Int32.toUInt32 31)).toInt32) &&& (1431655765 : Int32))) &&& (858993459 : Int32)) + (((((a0 - ((((a0).toUInt32 >>> (((1 : Int32)).toUInt32 &&& Int32.toUInt32 31)).toInt32) &&& (1431655765 : Int32)))).toUInt32 >>> (((2 : Int32)).toUInt32 &&& Int32.toUInt32 31)).toInt32) &&& (858993459 : Int32)))).toUInt32 >>> (((4 : Int32)).toUInt32 &&& Int32.toUInt32 31)).toInt32)) &&& (252645135 : Int32)) + ((((((((a0 - ((((a0).toUInt32 >>> (((1 : Int32)).toUInt32 &&& Int32.toUInt32 31)).toInt32) &&& (1431655765 : Int32))) &&& (858993459 : Int32)) + (((((a0 - ((((a0).toUInt32 >>> (((1 : Int32)).toUInt32 &&& Int32.toUInt32 31)).toInt32) &&& (1431655765 : Int32)))).toUInt32 >>> (((2 : Int32)).toUInt32 &&& Int32.toUInt32 31)).toInt32) &&& (858993459 : Int32))) + ((((((a0 - ((((a0).toUInt32 >>> (((1 : Int32)).toUInt32 &&& Int32.toUInt32 31)).toInt32) &&& (1431655765 : Int32))) &&& (858993459 : Int32)) + (((((a0 - ((((a0).toUInt32 >>> (((1 : Int32)).toUInt32 &&& Int32.toUInt32 31)).toInt32) &&& (1431655765 : Int32)))).toUInt32 >>> (((2 : Int32)).toUInt32 &&& Int32.toUInt32 31)).toInt32) &&& (858993459 : Int32)))).toUInt32 >>> (((4 : Int32)).toUInt32 &&& Int32.toUInt32 31)).toInt32)) &&& (252645135 : Int32))).toUInt32 >>> (((8 : Int32)).toUInt32 &&& Int32.toUInt32 31)).toInt32)))]) => ?_)
  refine q_iload_n (show mE (mtv 68) 41 = some (.iload_n 0, 1, 0, 0) from rfl) (hl8 0 _ rfl) ?_
  refine q_iload_n (show mE (mtv 68) 42 = some (.iload_n 0, 1, 0, 0) from rfl) (hl8 0 _ rfl) ?_
  refine q_bipush (show mE (mtv 68) 43 = some (.bipush 16, 2, 0, 0) from rfl) kB_16 ?_
  refine q_iushr (show mE (mtv 68) 45 = some (.iushr, 1, 0, 0) from rfl) ?_
  refine q_iadd (show mE (mtv 68) 46 = some (.iadd, 1, 0, 0) from rfl) ?_
  refine q_istore_n (show mE (mtv 68) 47 = some (.istore_n 0, 1, 0, 0) from rfl) (Nat.le_of_ble_eq_true rfl) hl8 (fun lv9 (hl10 : qLs lv9 [some (.int (((((((a0 - ((((a0).toUInt32 >>> (((1 : Int32)).toUInt32 &&& Int32.toUInt32 31)).toInt32) &&& (1431655765 : Int32))) &&& (858993459 : Int32)) + (((((a0 - ((((a0).toUInt32 >>> (((1 : Int32)).toUInt32 &&& Int32.toUInt32 31)).toInt32) &&& (1431655765 : Int32)))).toUInt32 >>> (((2 : Int32)).toUInt32 &&& Int32.toUInt32 31)).toInt32) &&& (858993459 : Int32))) + ((((((a0 - ((((a0).toUInt32 >>> (((1 : Int32)).toUInt32 &&& Int32.toUInt32 31)).toInt32) &&& (1431655765 : Int32))) &&& (858993459 : Int32)) + (((((a0 - ((((a0).toUInt32 >>> (((1 : Int32)).toUInt32 &&& Int32.toUInt32 31)).toInt32) &&& (1431655765 : Int32)))).toUInt32 >>> (((2 : Int32)).toUInt32 &&& Int32.toUInt32 31)).toInt32) &&& (858993459 : Int32)))).toUInt32 >>> (((4 : Int32)).toUInt32 &&& Int32.toUInt32 31)).toInt32)) &&& (252645135 : Int32)) + ((((((((a0 - ((((a0).toUInt32 >>> (((1 : Int32)).toUInt32 &&& Int32.toUInt32 31)).toInt32) &&& (1431655765 : Int32))) &&& (858993459 : Int32)) + (((((a0 - ((((a0).toUInt32 >>> (((1 : Int32)).toUInt32 &&& Int32.toUInt32 31)).toInt32) &&& (1431655765 : Int32)))).toUInt32 >>> (((2 : Int32)).toUInt32 &&& Int32.toUInt32 31)).toInt32) &&& (858993459 : Int32))) + ((((((a0 - ((((a0).toUInt32 >>> (((1 : Int32)).toUInt32 &&& Int32.toUInt32 31)).toInt32) &&& (1431655765 : Int32))) &&& (858993459 : Int32)) + (((((a0 - ((((a0).toUInt32 >>> (((1 : Int32)).toUInt32 &&& Int32.toUInt32 31)).toInt32) &&& (1431655765 : Int32)))).toUInt32 >>> (((2 : Int32)).toUInt32 &&& Int32.toUInt32 31)).toInt32) &&& (858993459 : Int32)))).toUInt32 >>> (((4 : Int32)).toUInt32 &&& Int32.toUInt32 31)).toInt32)) &&& (252645135 : Int32))).toUInt32 >>> (((8 : Int32)).toUInt32 &&& Int32.toUInt32 31)).toInt32)) + (((((((((a0 - ((((a0).toUInt32 >>> (((1 : Int32)).toUInt32 &&& Int32.toUInt32 31)).toInt32) &&& (1431655765 : Int32))) &&& (858993459 : Int32)) + (((((a0 - ((((a0).toUInt32 >>> (((1 : Int32)).toUInt32 &&& Int32.toUInt32 31)).toInt32) &&& (1431655765 : Int32)))).toUInt32 >>> (((2 : Int32)).toUInt32 &&& Int32.toUInt32 31)).toInt32) &&& (858993459 : Int32))) + ((((((a0 - ((((a0).toUInt32 >>> (((1 : Int32)).toUInt32 &&& Int32.toUInt32 31)).toInt32) &&& (1431655765 : Int32))) &&& (858993459 : Int32)) + (((((a0 - ((((a0).toUInt32 >>> (((1 : Int32)).toUInt32 &&& Int32.toUInt32 31)).toInt32) &&& (1431655765 : Int32)))).toUInt32 >>> (((2 : Int32)).toUInt32 &&& Int32.toUInt32 31)).toInt32) &&& (858993459 : Int32)))).toUInt32 >>> (((4 : Int32)).toUInt32 &&& Int32.toUInt32 31)).toInt32)) &&& (252645135 : Int32)) + ((((((((a0 - ((((a0).toUInt32 >>> (((1 : Int32)).toUInt32 &&& Int32.toUInt32 31)).toInt32) &&& (1431655765 : Int32))) &&& (858993459 : Int32)) + (((((a0 - ((((a0).toUInt32 >>> (((1 : Int32)).toUInt32 &&& Int32.toUInt32 31)).toInt32) &&& (1431655765 : Int32)))).toUInt32 >>> (((2 : Int32)).toUInt32 &&& Int32.toUInt32 31)).toInt32) &&& (858993459 : Int32))) + ((((((a0 - ((((a0).toUInt32 >>> (((1 : Int32)).toUInt32 &&& Int32.toUInt32 31)).toInt32) &&& (1431655765 : Int32))) &&& (858993459 : Int32)) + (((((a0 - ((((a0).toUInt32 >>> (((1 : Int32)).toUInt32 &&& Int32.toUInt32 31)).toInt32) &&& (1431655765 : Int32)))).toUInt32 >>> (((2 : Int32)).toUInt32 &&& Int32.toUInt32 31)).toInt32) &&& (858993459 : Int32)))).toUInt32 >>> (((4 : Int32)).toUInt32 &&& Int32.toUInt32 31)).toInt32)) &&& (252645135 : Int32))).toUInt32 >>> (((8 : Int32)).toUInt32 &&& Int32.toUInt32 31)).toInt32))).toUInt32 >>> (((16 : Int32)).toUInt32 &&& Int32.toUInt32 31)).toInt32)))]) => ?_)
  refine q_iload_n (show mE (mtv 68) 48 = some (.iload_n 0, 1, 0, 0) from rfl) (hl10 0 _ rfl) ?_
  refine q_bipush (show mE (mtv 68) 49 = some (.bipush 63, 2, 0, 0) from rfl) kB_63 ?_
  refine q_iand (show mE (mtv 68) 51 = some (.iand, 1, 0, 0) from rfl) ?_
  refine q_ireturn (show mE (mtv 68) 52 = some (.ireturn, 1, 0, 0) from rfl) ?_
  exact p1
theorem sp_15 {h : sH} {r : sR} {a b : Int32} (g : qGo 15 [.int a, .int b] h r) : r = (.inl (some (.int (b2 (hs a b = true)))), h) := qg_15 (Q := fun r => r = _) g
  (fun c => by rw [hs_iu] at c; rw [b2_f (b2_0.mp c)])
  (fun c => by rw [hs_iu] at c; rw [b2_t (Decidable.of_not_not (fun q => c (b2_0.mpr q)))])
theorem sp_29 {h : sH} {r : sR} {a b c : Int32} (g : qGo 29 [.int a, .int b, .int c] h r) : r = (.inl (some (.int (xW a b c))), h) := qg_29 (Q := fun r => r = _) g
  (fun hc => by unfold xW; rw [if_pos hc])
  (fun hc => by unfold xW; rw [if_neg hc])
theorem sp_47 {h : sH} {r : sR} {a b c : Int32} (g : qGo 47 [.int a, .int b, .int c] h r) : r = (.inl (some (.int (b2 (b ≤ a ∧ a ≤ c)))), h) := qg_47 (Q := fun r => r = _) g
  (fun h1 => by rw [b2_f (fun q => Int32.not_le.mpr h1 q.1)])
  (fun h1 h2 => by rw [b2_f (fun q => Int32.not_le.mpr h2 q.2)])
  (fun h1 h2 => by rw [b2_t ⟨Int32.not_lt.mp h1, Int32.not_lt.mp h2⟩])
theorem sp_211 {h : sH} {r : sR} {a b c : Int32} (g : qGo 211 [.int a, .int b, .int c] h r) : r = (.inl (some (.int (b2 (b ≤ a ∧ a ≤ c)))), h) := qg_211 (Q := fun r => r = _) g
  (fun h1 => by rw [b2_f (fun q => Int32.not_le.mpr h1 q.1)])
  (fun h1 h2 => by rw [b2_f (fun q => Int32.not_le.mpr h2 q.2)])
  (fun h1 h2 => by rw [b2_t ⟨Int32.not_lt.mp h1, Int32.not_lt.mp h2⟩])
theorem sp_68 {h : sH} {r : sR} {a : Int32} (g : qGo 68 [.int a] h r) : r = (.inl (some (.int (bc32 a))), h) := qg_68 (Q := fun r => r = _) g rfl
theorem qg_230 {h : sH} {r : sR} {Q : sR → Prop} {a0 : Int32} (g : qGo 230 [.int (a0)] h r)
    (p1 : ∀ N lv, qLs lv [some (.int (a0)), some (.int ((0 : Int32))), some (.int ((0 : Int32)))] → qW 230 N 4 lv [] h Q) : Q r := by
  refine qGo_w g (fun N => ?_)
  have hl0 : qLs (lv_args 0 [.int (a0)]) [some (.int (a0)), none, none] := qLs_ar 2
  refine q_iconst (show mE (mtv 230) 0 = some (.iconst 0, 1, 0, 0) from rfl) kI_0 ?_
  refine q_istore_n (show mE (mtv 230) 1 = some (.istore_n 1, 1, 0, 0) from rfl) (Nat.le_of_ble_eq_true rfl) hl0 (fun lv1 (hl2 : qLs lv1 [some (.int (a0)), some (.int ((0 : Int32))), none]) => ?_)
  refine q_iconst (show mE (mtv 230) 2 = some (.iconst 0, 1, 0, 0) from rfl) kI_0 ?_
  refine q_istore_n (show mE (mtv 230) 3 = some (.istore_n 2, 1, 0, 0) from rfl) (Nat.le_of_ble_eq_true rfl) hl2 (fun lv3 (hl4 : qLs lv3 [some (.int (a0)), some (.int ((0 : Int32))), some (.int ((0 : Int32)))]) => ?_)
  exact p1 _ lv3 (qLs_wk hl4 (⟨rfl, rfl, rfl, trivial⟩))
theorem qg_230_4 {N : Nat} {lv : sL} {h : sH} {Q : sR → Prop} {x : Int32} {c : Int32} {k : Int32} (hl : qLs lv [some (.int (x)), some (.int (c)), some (.int (k))])
    (p1 : ∀ (c1 : (31 : Int32) ≤ k), Q (.inl (some (.int (c))), h))
    (p2 : ∀ (c1 : ¬ (31 : Int32) ≤ k), ∀ lv, qLs lv [some (.int (x)), some (.int (c + (b2 (hs x k = true)))), some (.int (k + (1 : Int32)))] → qW 230 N 4 lv [] h Q) : qW 230 (N + 1) 4 lv [] h Q := by
  refine q1_iload_n (show mE (mtv 230) 4 = some (.iload_n 2, 1, 0, 0) from rfl) (hl 2 _ rfl) ?_
  refine q_bipush (show mE (mtv 230) 5 = some (.bipush 31, 2, 0, 0) from rfl) kB_31 ?_
  refine q_ic_ge (t := 24) (show mE (mtv 230) 7 = some (.if_icmp .ge 17, 3, 0, 0) from rfl) rfl (fun c1 => ?_) (fun c1 => ?_)
  · refine q_iload_n (show mE (mtv 230) 24 = some (.iload_n 1, 1, 0, 0) from rfl) (hl 1 _ rfl) ?_
    refine q_ireturn (show mE (mtv 230) 25 = some (.ireturn, 1, 0, 0) from rfl) ?_
    exact p1 c1
  · refine q_iload_n (show mE (mtv 230) 10 = some (.iload_n 1, 1, 0, 0) from rfl) (hl 1 _ rfl) ?_
    refine q_iload_n (show mE (mtv 230) 11 = some (.iload_n 0, 1, 0, 0) from rfl) (hl 0 _ rfl) ?_
    refine q_iload_n (show mE (mtv 230) 12 = some (.iload_n 2, 1, 0, 0) from rfl) (hl 2 _ rfl) ?_
    refine q_ishr (show mE (mtv 230) 13 = some (.ishr, 1, 0, 0) from rfl) ?_
    refine q_iconst (show mE (mtv 230) 14 = some (.iconst 1, 1, 0, 0) from rfl) kI_1 ?_
    refine q_iand (show mE (mtv 230) 15 = some (.iand, 1, 0, 0) from rfl) ?_
    rw [hs_is]
    refine q_iadd (show mE (mtv 230) 16 = some (.iadd, 1, 0, 0) from rfl) ?_
    refine q_istore_n (show mE (mtv 230) 17 = some (.istore_n 1, 1, 0, 0) from rfl) (Nat.le_of_ble_eq_true rfl) hl (fun lv2 (hl3 : qLs lv2 [some (.int (x)), some (.int (c + (b2 (hs x k = true)))), some (.int (k))]) => ?_)
    refine q_iinc (show mE (mtv 230) 18 = some (.iinc 2 1, 3, 0, 0) from rfl) (Nat.le_of_ble_eq_true rfl) hl3 (hl3 2 _ rfl) kI_1 (fun lv4 (hl5 : qLs lv4 [some (.int (x)), some (.int (c + (b2 (hs x k = true)))), some (.int (k + (1 : Int32)))]) => ?_)
    refine q_goto (t := 4) (show mE (mtv 230) 21 = some (.goto (-17), 3, 0, 0) from rfl) rfl ?_
    exact p2 c1 lv4 (qLs_wk hl5 (⟨rfl, rfl, rfl, trivial⟩))
theorem sp_230 {h : sH} {r : sR} {x : Int32} (g : qGo 230 [.int x] h r) : r = (.inl (some (.int (bcs x 31))), h) := by
  refine qg_230 (Q := fun r => r = _) g (fun N lv hl => ?_)
  have key : ∀ (N : Nat) (k : Nat) (lv : sL), k ≤ 31 → qLs lv [some (.int x), some (.int (bcs x k)), some (.int (Int32.ofNat k))] → qW 230 N 4 lv [] h (fun r => r = (.inl (some (.int (bcs x 31))), h)) := by
    intro N
    induction N with
    | zero => intro k lv _ _; exact qW_0
    | succ N ih =>
      intro k lv hk hl
      refine qg_230_4 hl (fun c1 => ?_) (fun c1 lv' hl' => ?_)
      · have e : k = 31 := by
          rw [Int32.le_iff_toInt_le, ofN_toInt (by omega)] at c1
          have : (31 : Int32).toInt = 31 := rfl
          omega
        rw [e]
      · have hlt : k < 31 := by
          rw [Int32.le_iff_toInt_le, ofN_toInt (by omega)] at c1
          have : (31 : Int32).toInt = 31 := rfl
          omega
        refine ih (k + 1) lv' (by omega) ?_
        rw [ofN_succ (by omega)] at hl'
        have e : hs x (Int32.ofNat k) = tb x k := by unfold hs tb; rw [shD_nat (by omega)]
        rw [e] at hl'
        exact hl'
  exact key N 0 lv (by omega) hl
end
section

/-! part 43: loops over gates -/
theorem lp_end {c : Int32} {k : Nat} (hk : k ≤ c.toNatClampNeg) (h : c ≤ Int32.ofNat k) : k = c.toNatClampNeg := by
  have r := i32_rng c
  have e : c.toNatClampNeg = c.toInt.toNat := rfl
  rw [Int32.le_iff_toInt_le, ofN_toInt (by omega)] at h
  omega
theorem lp_go {c : Int32} {k : Nat} (hk : k ≤ c.toNatClampNeg) (h : ¬ c ≤ Int32.ofNat k) : k < c.toNatClampNeg ∧ k < 2147483647 ∧ c.toInt = (c.toNatClampNeg : Int) := by
  have r := i32_rng c
  have e : c.toNatClampNeg = c.toInt.toNat := rfl
  rw [Int32.le_iff_toInt_le, ofN_toInt (by omega)] at h
  omega
theorem sIn_k {k n : Nat} (hk : k < 2147483648) (b : sIn (Int32.ofNat k) n = true) : k < n := by
  have := sIn_lt b
  rwa [ofN_clamp hk] at this
/-- the gates that are open, as a set -/
noncomputable def ogN (I : Nat → Nat → Int32) : Nat → Int32
  | 0 => 0
  | k + 1 => xW (ogN I k) (Int32.ofNat k) (I (65 + k) 2)
theorem qg_194 {h : sH} {r : sR} {Q : sR → Prop} (g : qGo 194 [.ref (0)] h r)
    (p1 : ∀ N lv, qLs lv [some (.ref (0)), some (.int ((0 : Int32))), some (.int ((0 : Int32)))] → qW 194 N 4 lv [] h Q) : Q r := by
  refine qGo_w g (fun N => ?_)
  have hl0 : qLs (lv_args 0 [.ref (0)]) [some (.ref (0)), none, none] := qLs_ar 2
  refine q_iconst (show mE (mtv 194) 0 = some (.iconst 0, 1, 0, 0) from rfl) kI_0 ?_
  refine q_istore_n (show mE (mtv 194) 1 = some (.istore_n 1, 1, 0, 0) from rfl) (Nat.le_of_ble_eq_true rfl) hl0 (fun lv1 (hl2 : qLs lv1 [some (.ref (0)), some (.int ((0 : Int32))), none]) => ?_)
  refine q_iconst (show mE (mtv 194) 2 = some (.iconst 0, 1, 0, 0) from rfl) kI_0 ?_
  refine q_istore_n (show mE (mtv 194) 3 = some (.istore_n 2, 1, 0, 0) from rfl) (Nat.le_of_ble_eq_true rfl) hl2 (fun lv3 (hl4 : qLs lv3 [some (.ref (0)), some (.int ((0 : Int32))), some (.int ((0 : Int32)))]) => ?_)
  exact p1 _ lv3 (qLs_wk hl4 (⟨rfl, rfl, rfl, trivial⟩))
theorem qg_194_4 {N : Nat} {lv : sL} {h : sH} {Q : sR → Prop} {s : Int32} {i : Int32} {I : Nat → Nat → Int32} {L : Nat → Nat → Int64} {R : Nat → Nat} (th : qH h I L R) (hl : qLs lv [some (.ref (0)), some (.int (s)), some (.int (i))])
    (p1 : ∀ (c1 : (I 0 14) ≤ i), Q (.inl (some (.int (s))), h))
    (p2 : ∀ (c1 : ¬ (I 0 14) ≤ i), ∀ (b2 : sIn i 8 = true), ∀ (z3 : I (65 + (i).toNatClampNeg) 2 = 0 ∨ I (65 + (i).toNatClampNeg) 2 = 1), ∀ lv, qLs lv [some (.ref (0)), some (.int (xW s i (I (65 + (i).toNatClampNeg) 2))), some (.int (i + (1 : Int32)))] → qW 194 N 4 lv [] h Q) : qW 194 (N + 1) 4 lv [] h Q := by
  refine q1_iload_n (show mE (mtv 194) 4 = some (.iload_n 2, 1, 0, 0) from rfl) (hl 2 _ rfl) ?_
  refine q_aload_n (show mE (mtv 194) 5 = some (.aload_n 0, 1, 0, 0) from rfl) (hl 0 _ rfl) ?_
  refine q_getI th (show mE (mtv 194) 6 = some (.getfield 436, 3, 8, 14) from rfl) (by decide) rfl ?_
  refine q_ic_ge (t := 33) (show mE (mtv 194) 9 = some (.if_icmp .ge 24, 3, 0, 0) from rfl) rfl (fun c1 => ?_) (fun c1 => ?_)
  · refine q_iload_n (show mE (mtv 194) 33 = some (.iload_n 1, 1, 0, 0) from rfl) (hl 1 _ rfl) ?_
    refine q_ireturn (show mE (mtv 194) 34 = some (.ireturn, 1, 0, 0) from rfl) ?_
    exact p1 c1
  · refine q_iload_n (show mE (mtv 194) 12 = some (.iload_n 1, 1, 0, 0) from rfl) (hl 1 _ rfl) ?_
    refine q_iload_n (show mE (mtv 194) 13 = some (.iload_n 2, 1, 0, 0) from rfl) (hl 2 _ rfl) ?_
    refine q_aload_n (show mE (mtv 194) 14 = some (.aload_n 0, 1, 0, 0) from rfl) (hl 0 _ rfl) ?_
    refine q_getR (m := 17) th (show mE (mtv 194) 15 = some (.getfield 53, 3, 8, 7) from rfl) (by decide) rfl rfl ?_
    refine q_iload_n (show mE (mtv 194) 18 = some (.iload_n 2, 1, 0, 0) from rfl) (hl 2 _ rfl) ?_
    refine q_aaload (n := 8) (t := 3) (m := 65) th (show mE (mtv 194) 19 = some (.aaload, 1, 0, 0) from rfl) (by decide) rfl (fun _ _ => rfl) (fun b2 => ?_)
    refine q_getB th (show mE (mtv 194) 20 = some (.getfield 500, 3, 2, 2) from rfl) (qB b2 (by decide)) rfl (fun z3 => ?_)
    refine q_staticP (show mE (mtv 194) 23 = some (.invokestatic 188, 3, 29, 0) from rfl) (by decide) rfl rfl rfl (fun _ g => sp_29 g) ?_
    refine q_istore_n (show mE (mtv 194) 26 = some (.istore_n 1, 1, 0, 0) from rfl) (Nat.le_of_ble_eq_true rfl) hl (fun lv4 (hl5 : qLs lv4 [some (.ref (0)), some (.int (xW s i (I (65 + (i).toNatClampNeg) 2))), some (.int (i))]) => ?_)
    refine q_iinc (show mE (mtv 194) 27 = some (.iinc 2 1, 3, 0, 0) from rfl) (Nat.le_of_ble_eq_true rfl) hl5 (hl5 2 _ rfl) kI_1 (fun lv6 (hl7 : qLs lv6 [some (.ref (0)), some (.int (xW s i (I (65 + (i).toNatClampNeg) 2))), some (.int (i + (1 : Int32)))]) => ?_)
    refine q_goto (t := 4) (show mE (mtv 194) 30 = some (.goto (-26), 3, 0, 0) from rfl) rfl ?_
    exact p2 c1 b2 z3 lv6 (qLs_wk hl7 (⟨rfl, rfl, rfl, trivial⟩))
theorem sp_194 {h : sH} {r : sR} {I : Nat → Nat → Int32} {L : Nat → Nat → Int64} {R : Nat → Nat} (th : qH h I L R) (g : qGo 194 [.ref 0] h r) : r = (.inl (some (.int (ogN I (I 0 14).toNatClampNeg))), h) := by
  refine qg_194 (Q := fun r => r = _) g (fun N lv hl => ?_)
  have key : ∀ (N : Nat) (k : Nat) (lv : sL), k ≤ (I 0 14).toNatClampNeg → qLs lv [some (.ref 0), some (.int (ogN I k)), some (.int (Int32.ofNat k))] → qW 194 N 4 lv [] h (fun r => r = (.inl (some (.int (ogN I (I 0 14).toNatClampNeg))), h)) := by
    intro N
    induction N with
    | zero => intro k lv _ _; exact qW_0
    | succ N ih =>
      intro k lv hk hl
      refine qg_194_4 th hl (fun c1 => ?_) (fun c1 b2 z3 lv' hl' => ?_)
      · rw [← lp_end hk c1]
      · obtain ⟨h1, h2, -⟩ := lp_go hk c1
        refine ih (k + 1) lv' (by omega) ?_
        rw [ofN_succ (by have := sIn_k (by omega) b2; omega), ofN_clamp (by omega)] at hl'
        exact hl'
  exact key N 0 lv (Nat.zero_le _) hl
theorem qg_297 {h : sH} {r : sR} {Q : sR → Prop} {a0 : Int32} (g : qGo 297 [.ref (85), .int (a0)] h r)
    (p1 : ∀ N lv, qLs lv [some (.ref (85)), some (.int (a0)), some (.int ((0 : Int32)))] → qW 297 N 2 lv [] h Q) : Q r := by
  refine qGo_w g (fun N => ?_)
  have hl0 : qLs (lv_args 0 [.ref (85), .int (a0)]) [some (.ref (85)), some (.int (a0)), none] := qLs_ar 1
  refine q_iconst (show mE (mtv 297) 0 = some (.iconst 0, 1, 0, 0) from rfl) kI_0 ?_
  refine q_istore_n (show mE (mtv 297) 1 = some (.istore_n 2, 1, 0, 0) from rfl) (Nat.le_of_ble_eq_true rfl) hl0 (fun lv1 (hl2 : qLs lv1 [some (.ref (85)), some (.int (a0)), some (.int ((0 : Int32)))]) => ?_)
  exact p1 _ lv1 (qLs_wk hl2 (⟨rfl, rfl, rfl, trivial⟩))
theorem qg_297_2 {N : Nat} {lv : sL} {h : sH} {Q : sR → Prop} {g : Int32} {i : Int32} {I : Nat → Nat → Int32} {L : Nat → Nat → Int64} {R : Nat → Nat} (th : qH h I L R) (hl : qLs lv [some (.ref (85)), some (.int (g)), some (.int (i))])
    (p1 : ∀ (c1 : (I 85 38) ≤ i), Q (.inl (some (.int ((0 : Int32)))), h))
    (p2 : ∀ (c1 : ¬ (I 85 38) ≤ i), ∀ (b2 : sIn i 8 = true), ∀ (c3 : (I 93 ((i).toNatClampNeg)) = 0), ∀ lv, qLs lv [some (.ref (85)), some (.int (g)), some (.int (i + (1 : Int32)))] → qW 297 N 2 lv [] h Q)
    (p3 : ∀ (c1 : ¬ (I 85 38) ≤ i), ∀ (b2 : sIn i 8 = true), ∀ (c3 : ¬ (I 93 ((i).toNatClampNeg)) = 0), ∀ (b6 : sIn g 8 = true), ∀ (c7 : ¬ (hs (I 110 ((g).toNatClampNeg)) i = true)), ∀ lv, qLs lv [some (.ref (85)), some (.int (g)), some (.int (i + (1 : Int32)))] → qW 297 N 2 lv [] h Q)
    (p4 : ∀ (c1 : ¬ (I 85 38) ≤ i), ∀ (b2 : sIn i 8 = true), ∀ (c3 : ¬ (I 93 ((i).toNatClampNeg)) = 0), ∀ (b6 : sIn g 8 = true), ∀ (c7 : hs (I 110 ((g).toNatClampNeg)) i = true), Q (.inl (some (.int ((1 : Int32)))), h)) : qW 297 (N + 1) 2 lv [] h Q := by
  refine q1_iload_n (show mE (mtv 297) 2 = some (.iload_n 2, 1, 0, 0) from rfl) (hl 2 _ rfl) ?_
  refine q_aload_n (show mE (mtv 297) 3 = some (.aload_n 0, 1, 0, 0) from rfl) (hl 0 _ rfl) ?_
  refine q_getI th (show mE (mtv 297) 4 = some (.getfield 126, 3, 9, 38) from rfl) (by decide) rfl ?_
  refine q_ic_ge (t := 41) (show mE (mtv 297) 7 = some (.if_icmp .ge 34, 3, 0, 0) from rfl) rfl (fun c1 => ?_) (fun c1 => ?_)
  · refine q_iconst (show mE (mtv 297) 41 = some (.iconst 0, 1, 0, 0) from rfl) kI_0 ?_
    refine q_ireturn (show mE (mtv 297) 42 = some (.ireturn, 1, 0, 0) from rfl) ?_
    exact p1 c1
  · refine q_aload_n (show mE (mtv 297) 10 = some (.aload_n 0, 1, 0, 0) from rfl) (hl 0 _ rfl) ?_
    refine q_getR (m := 93) th (show mE (mtv 297) 11 = some (.getfield 32, 3, 9, 7) from rfl) (by decide) rfl rfl ?_
    refine q_iload_n (show mE (mtv 297) 14 = some (.iload_n 2, 1, 0, 0) from rfl) (hl 2 _ rfl) ?_
    refine q_baload (n := 8) th (show mE (mtv 297) 15 = some (.baload, 1, 0, 0) from rfl) (by decide) rfl (fun b2 => ?_)
    refine q_if_eq (t := 35) (show mE (mtv 297) 16 = some (.ifCond .eq 19, 3, 0, 0) from rfl) rfl (fun c3 => ?_) (fun c3 => ?_)
    · refine q_iinc (show mE (mtv 297) 35 = some (.iinc 2 1, 3, 0, 0) from rfl) (Nat.le_of_ble_eq_true rfl) hl (hl 2 _ rfl) kI_1 (fun lv4 (hl5 : qLs lv4 [some (.ref (85)), some (.int (g)), some (.int (i + (1 : Int32)))]) => ?_)
      refine q_goto (t := 2) (show mE (mtv 297) 38 = some (.goto (-36), 3, 0, 0) from rfl) rfl ?_
      exact p2 c1 b2 c3 lv4 (qLs_wk hl5 (⟨rfl, rfl, rfl, trivial⟩))
    · refine q_aload_n (show mE (mtv 297) 19 = some (.aload_n 0, 1, 0, 0) from rfl) (hl 0 _ rfl) ?_
      refine q_getR (m := 110) th (show mE (mtv 297) 20 = some (.getfield 83, 3, 9, 24) from rfl) (by decide) rfl rfl ?_
      refine q_iload_n (show mE (mtv 297) 23 = some (.iload_n 1, 1, 0, 0) from rfl) (hl 1 _ rfl) ?_
      refine q_iaload (n := 8) th (show mE (mtv 297) 24 = some (.iaload, 1, 0, 0) from rfl) (by decide) rfl (fun b6 => ?_)
      refine q_iload_n (show mE (mtv 297) 25 = some (.iload_n 2, 1, 0, 0) from rfl) (hl 2 _ rfl) ?_
      refine q_ishr (show mE (mtv 297) 26 = some (.ishr, 1, 0, 0) from rfl) ?_
      refine q_iconst (show mE (mtv 297) 27 = some (.iconst 1, 1, 0, 0) from rfl) kI_1 ?_
      refine q_iand (show mE (mtv 297) 28 = some (.iand, 1, 0, 0) from rfl) ?_
      rw [hs_is]
      refine q_iconst (show mE (mtv 297) 29 = some (.iconst 1, 1, 0, 0) from rfl) kI_1 ?_
      refine q_icb_ne (t := 35) (show mE (mtv 297) 30 = some (.if_icmp .ne 5, 3, 0, 0) from rfl) rfl (fun c7 => ?_) (fun c7 => ?_)
      · refine q_iinc (show mE (mtv 297) 35 = some (.iinc 2 1, 3, 0, 0) from rfl) (Nat.le_of_ble_eq_true rfl) hl (hl 2 _ rfl) kI_1 (fun lv8 (hl9 : qLs lv8 [some (.ref (85)), some (.int (g)), some (.int (i + (1 : Int32)))]) => ?_)
        refine q_goto (t := 2) (show mE (mtv 297) 38 = some (.goto (-36), 3, 0, 0) from rfl) rfl ?_
        exact p3 c1 b2 c3 b6 c7 lv8 (qLs_wk hl9 (⟨rfl, rfl, rfl, trivial⟩))
      · refine q_iconst (show mE (mtv 297) 33 = some (.iconst 1, 1, 0, 0) from rfl) kI_1 ?_
        refine q_ireturn (show mE (mtv 297) 34 = some (.ireturn, 1, 0, 0) from rfl) ?_
        exact p4 c1 b2 c3 b6 c7
noncomputable def heldB (I : Nat → Nat → Int32) (g : Nat) (o : Nat) : Bool := decide (¬ I 93 o = 0) && hs (I 110 g) (Int32.ofNat o)
noncomputable def heldN (I : Nat → Nat → Int32) (g n : Nat) : Bool := (List.range n).any (heldB I g)
theorem heldN_f {I : Nat → Nat → Int32} {g n : Nat} (h : ∀ o, o < n → heldB I g o = false) : heldN I g n = false := by
  unfold heldN
  rw [List.any_eq_false]
  intro o ho
  rw [h o (List.mem_range.mp ho)]
  exact Bool.false_ne_true
theorem heldN_t {I : Nat → Nat → Int32} {g n o : Nat} (ho : o < n) (h : heldB I g o = true) : heldN I g n = true := List.any_eq_true.mpr ⟨o, List.mem_range.mpr ho, h⟩
theorem sp_297 {h : sH} {r : sR} {I : Nat → Nat → Int32} {L : Nat → Nat → Int64} {R : Nat → Nat} (th : qH h I L R) {a : Int32} (g : qGo 297 [.ref 85, .int a] h r) : r = (.inl (some (.int (b2 (heldN I a.toNatClampNeg (I 85 38).toNatClampNeg = true)))), h) := by
  refine qg_297 (Q := fun r => r = _) g (fun N lv hl => ?_)
  have key : ∀ (N : Nat) (k : Nat) (lv : sL), k ≤ (I 85 38).toNatClampNeg → (∀ o, o < k → heldB I a.toNatClampNeg o = false) → qLs lv [some (.ref 85), some (.int a), some (.int (Int32.ofNat k))] → qW 297 N 2 lv [] h (fun r => r = (.inl (some (.int (b2 (heldN I a.toNatClampNeg (I 85 38).toNatClampNeg = true)))), h)) := by
    intro N
    induction N with
    | zero => intro k lv _ _ _; exact qW_0
    | succ N ih =>
      intro k lv hk hf hl
      have nx : ∀ lv', ¬ (I 85 38) ≤ Int32.ofNat k → sIn (Int32.ofNat k) 8 = true → heldB I a.toNatClampNeg k = false → qLs lv' [some (.ref 85), some (.int a), some (.int (Int32.ofNat k + 1))] → qW 297 N 2 lv' [] h (fun r => r = (.inl (some (.int (b2 (heldN I a.toNatClampNeg (I 85 38).toNatClampNeg = true)))), h)) := fun lv' c1 b2 hb hl' => by
        obtain ⟨h1, h2, -⟩ := lp_go hk c1
        refine ih (k + 1) lv' (by omega) (fun o ho => ?_) ?_
        · rcases (show o < k ∨ o = k by omega) with e | e
          · exact hf o e
          · rw [e]; exact hb
        · rw [ofN_succ (by have := sIn_k (by omega) b2; omega)] at hl'
          exact hl'
      refine qg_297_2 th hl (fun c1 => ?_) (fun c1 b2 c3 lv' hl' => ?_) (fun c1 b2 c3 b6 c7 lv' hl' => ?_) (fun c1 b2 c3 b6 c7 => ?_)
      · rw [lp_end hk c1] at hf
        rw [b2_f (by rw [heldN_f hf]; exact Bool.false_ne_true)]
      · refine nx lv' c1 b2 ?_ hl'
        obtain ⟨h1, h2, -⟩ := lp_go hk c1
        rw [ofN_clamp (by omega)] at c3
        unfold heldB
        rw [decide_eq_false (fun q => q c3)]; rfl
      · refine nx lv' c1 b2 ?_ hl'
        unfold heldB
        rw [Bool.and_eq_false_iff]
        exact Or.inr (Bool.eq_false_iff.mpr c7)
      · obtain ⟨h1, h2, -⟩ := lp_go hk c1
        rw [ofN_clamp (by omega)] at c3
        rw [b2_t (heldN_t h1 (by unfold heldB; rw [decide_eq_true c3, c7]; rfl))]
  exact key N 0 lv (Nat.zero_le _) (fun o ho => absurd ho (Nat.not_lt_zero _)) hl
theorem qg_298_92 {N : Nat} {lv : sL} {h : sH} {Q : sR → Prop} {c : Int32} {i : Int32} {I : Nat → Nat → Int32} {L : Nat → Nat → Int64} {R : Nat → Nat} (th : qH h I L R) (hl : qLs lv [some (.ref (85)), none, none, none, some (.int (c)), some (.int (i))])
    (p1 : ∀ (c1 : (I 85 38) ≤ i), Q (.inl (some (.int (c))), h))
    (p2 : ∀ (c1 : ¬ (I 85 38) ≤ i), ∀ (b2 : sIn i 8 = true), ∀ (c3 : (I 93 ((i).toNatClampNeg)) = 0), ∀ lv, qLs lv [some (.ref (85)), none, none, none, some (.int (c + (0 : Int32))), some (.int (i + (1 : Int32)))] → qW 298 N 92 lv [] h Q)
    (p3 : ∀ (c1 : ¬ (I 85 38) ≤ i), ∀ (b2 : sIn i 8 = true), ∀ (c3 : ¬ (I 93 ((i).toNatClampNeg)) = 0), ∀ lv, qLs lv [some (.ref (85)), none, none, none, some (.int (c + (1 : Int32))), some (.int (i + (1 : Int32)))] → qW 298 N 92 lv [] h Q) : qW 298 (N + 1) 92 lv [] h Q := by
  refine q1_iload (show mE (mtv 298) 92 = some (.iload 5, 2, 0, 0) from rfl) (hl 5 _ rfl) ?_
  refine q_aload_n (show mE (mtv 298) 94 = some (.aload_n 0, 1, 0, 0) from rfl) (hl 0 _ rfl) ?_
  refine q_getI th (show mE (mtv 298) 95 = some (.getfield 126, 3, 9, 38) from rfl) (by decide) rfl ?_
  refine q_ic_ge (t := 127) (show mE (mtv 298) 98 = some (.if_icmp .ge 29, 3, 0, 0) from rfl) rfl (fun c1 => ?_) (fun c1 => ?_)
  · refine q_iload (show mE (mtv 298) 127 = some (.iload 4, 2, 0, 0) from rfl) (hl 4 _ rfl) ?_
    refine q_ireturn (show mE (mtv 298) 129 = some (.ireturn, 1, 0, 0) from rfl) ?_
    exact p1 c1
  · refine q_iload (show mE (mtv 298) 101 = some (.iload 4, 2, 0, 0) from rfl) (hl 4 _ rfl) ?_
    refine q_aload_n (show mE (mtv 298) 103 = some (.aload_n 0, 1, 0, 0) from rfl) (hl 0 _ rfl) ?_
    refine q_getR (m := 93) th (show mE (mtv 298) 104 = some (.getfield 32, 3, 9, 7) from rfl) (by decide) rfl rfl ?_
    refine q_iload (show mE (mtv 298) 107 = some (.iload 5, 2, 0, 0) from rfl) (hl 5 _ rfl) ?_
    refine q_baload (n := 8) th (show mE (mtv 298) 109 = some (.baload, 1, 0, 0) from rfl) (by decide) rfl (fun b2 => ?_)
    refine q_if_eq (t := 117) (show mE (mtv 298) 110 = some (.ifCond .eq 7, 3, 0, 0) from rfl) rfl (fun c3 => ?_) (fun c3 => ?_)
    · refine q_iconst (show mE (mtv 298) 117 = some (.iconst 0, 1, 0, 0) from rfl) kI_0 ?_
      refine q_iadd (show mE (mtv 298) 118 = some (.iadd, 1, 0, 0) from rfl) ?_
      refine q_istore (show mE (mtv 298) 119 = some (.istore 4, 2, 0, 0) from rfl) (Nat.le_of_ble_eq_true rfl) hl (fun lv4 (hl5 : qLs lv4 [some (.ref (85)), none, none, none, some (.int (c + (0 : Int32))), some (.int (i))]) => ?_)
      refine q_iinc (show mE (mtv 298) 121 = some (.iinc 5 1, 3, 0, 0) from rfl) (Nat.le_of_ble_eq_true rfl) hl5 (hl5 5 _ rfl) kI_1 (fun lv6 (hl7 : qLs lv6 [some (.ref (85)), none, none, none, some (.int (c + (0 : Int32))), some (.int (i + (1 : Int32)))]) => ?_)
      refine q_goto (t := 92) (show mE (mtv 298) 124 = some (.goto (-32), 3, 0, 0) from rfl) rfl ?_
      exact p2 c1 b2 c3 lv6 (qLs_wk hl7 (⟨rfl, rfl, rfl, trivial⟩))
    · refine q_iconst (show mE (mtv 298) 113 = some (.iconst 1, 1, 0, 0) from rfl) kI_1 ?_
      refine q_goto (t := 118) (show mE (mtv 298) 114 = some (.goto 4, 3, 0, 0) from rfl) rfl ?_
      refine q_iadd (show mE (mtv 298) 118 = some (.iadd, 1, 0, 0) from rfl) ?_
      refine q_istore (show mE (mtv 298) 119 = some (.istore 4, 2, 0, 0) from rfl) (Nat.le_of_ble_eq_true rfl) hl (fun lv8 (hl9 : qLs lv8 [some (.ref (85)), none, none, none, some (.int (c + (1 : Int32))), some (.int (i))]) => ?_)
      refine q_iinc (show mE (mtv 298) 121 = some (.iinc 5 1, 3, 0, 0) from rfl) (Nat.le_of_ble_eq_true rfl) hl9 (hl9 5 _ rfl) kI_1 (fun lv10 (hl11 : qLs lv10 [some (.ref (85)), none, none, none, some (.int (c + (1 : Int32))), some (.int (i + (1 : Int32)))]) => ?_)
      refine q_goto (t := 92) (show mE (mtv 298) 124 = some (.goto (-32), 3, 0, 0) from rfl) rfl ?_
      exact p3 c1 b2 c3 lv10 (qLs_wk hl11 (⟨rfl, rfl, rfl, trivial⟩))
/-- how many gates are open, as the model counts -/
noncomputable def cgN (I : Nat → Nat → Int32) : Nat → Int32
  | 0 => 0
  | k + 1 => cgN I k + b2 (¬ I 93 k = 0)
theorem lp_298 {h : sH} {I : Nat → Nat → Int32} {L : Nat → Nat → Int64} {R : Nat → Nat} {Q : sR → Prop} (th : qH h I L R) (kq : Q (.inl (some (.int (cgN I (I 85 38).toNatClampNeg))), h)) : ∀ (N : Nat) (k : Nat) (lv : sL), k ≤ (I 85 38).toNatClampNeg → qLs lv [some (.ref 85), none, none, none, some (.int (cgN I k)), some (.int (Int32.ofNat k))] → qW 298 N 92 lv [] h Q := by
  intro N
  induction N with
  | zero => intro k lv _ _; exact qW_0
  | succ N ih =>
    intro k lv hk hl
    have nx : ∀ (lv' : sL) (z : Int32), ¬ (I 85 38) ≤ Int32.ofNat k → sIn (Int32.ofNat k) 8 = true → b2 (¬ I 93 k = 0) = z → qLs lv' [some (.ref 85), none, none, none, some (.int (cgN I k + z)), some (.int (Int32.ofNat k + 1))] → qW 298 N 92 lv' [] h Q := fun lv' z c1 b2 hb hl' => by
      obtain ⟨h1, h2, -⟩ := lp_go hk c1
      subst hb
      refine ih (k + 1) lv' (by omega) ?_
      rw [ofN_succ (by have := sIn_k (by omega) b2; omega)] at hl'
      exact hl'
    refine qg_298_92 th hl (fun c1 => ?_) (fun c1 b2 c3 lv' hl' => ?_) (fun c1 b2 c3 lv' hl' => ?_)
    · rw [lp_end hk c1]; exact kq
    · obtain ⟨h1, h2, -⟩ := lp_go hk c1
      rw [ofN_clamp (by omega)] at c3
      exact nx lv' _ c1 b2 (b2_f (fun q => q c3)) hl'
    · obtain ⟨h1, h2, -⟩ := lp_go hk c1
      rw [ofN_clamp (by omega)] at c3
      exact nx lv' _ c1 b2 (b2_t c3) hl'
theorem qg_193 {h : sH} {r : sR} {Q : sR → Prop} {a0 : Nat} {a1 : Int32} {I : Nat → Nat → Int32} {L : Nat → Nat → Int64} {R : Nat → Nat} (th : qH h I L R) (ha0 : a0 < 119) (g : qGo 193 [.ref (0), .ref (a0), .int (a1)] h r)
    (p1 : ∀ (c1 : a1 < 0), Q (.inl (some (.int ((0 : Int32)))), h))
    (p2 : ∀ (c1 : ¬ a1 < 0), ∀ (c2 : a1 < (I 0 13)), ∀ (b3 : sIn a1 8 = true), ∀ (c6 : (I (57 + (a1).toNatClampNeg) 3) = (I a0 0)), Q (.inl (some (.int ((0 : Int32)))), h))
    (p3 : ∀ (c1 : ¬ a1 < 0), ∀ (c2 : a1 < (I 0 13)), ∀ (b3 : sIn a1 8 = true), ∀ (c6 : ¬ (I (57 + (a1).toNatClampNeg) 3) = (I a0 0)), ∀ (c7 : (I (57 + (a1).toNatClampNeg) 3) = (I a0 1)), Q (.inl (some (.int ((0 : Int32)))), h))
    (p4 : ∀ (c1 : ¬ a1 < 0), ∀ (c2 : a1 < (I 0 13)), ∀ (b3 : sIn a1 8 = true), ∀ (c6 : ¬ (I (57 + (a1).toNatClampNeg) 3) = (I a0 0)), ∀ (c7 : ¬ (I (57 + (a1).toNatClampNeg) 3) = (I a0 1)), Q (.inl (some (.int ((1 : Int32)))), h))
    (p5 : ∀ (c1 : ¬ a1 < 0), ∀ (c2 : ¬ a1 < (I 0 13)), Q (.inl (some (.int ((0 : Int32)))), h)) : Q r := by
  refine qGo_w g (fun N => ?_)
  have hl0 : qLs (lv_args 0 [.ref (0), .ref (a0), .int (a1)]) [some (.ref (0)), some (.ref (a0)), some (.int (a1)), none] := qLs_ar 1
  refine q_iload_n (show mE (mtv 193) 0 = some (.iload_n 2, 1, 0, 0) from rfl) (hl0 2 _ rfl) ?_
  refine q_if_lt (t := 12) (show mE (mtv 193) 1 = some (.ifCond .lt 11, 3, 0, 0) from rfl) rfl (fun c1 => ?_) (fun c1 => ?_)
  · refine q_iconst (show mE (mtv 193) 12 = some (.iconst 0, 1, 0, 0) from rfl) kI_0 ?_
    refine q_ireturn (show mE (mtv 193) 13 = some (.ireturn, 1, 0, 0) from rfl) ?_
    exact p1 c1
  · refine q_iload_n (show mE (mtv 193) 4 = some (.iload_n 2, 1, 0, 0) from rfl) (hl0 2 _ rfl) ?_
    refine q_aload_n (show mE (mtv 193) 5 = some (.aload_n 0, 1, 0, 0) from rfl) (hl0 0 _ rfl) ?_
    refine q_getI th (show mE (mtv 193) 6 = some (.getfield 396, 3, 8, 13) from rfl) (by decide) rfl ?_
    refine q_ic_lt (t := 14) (show mE (mtv 193) 9 = some (.if_icmp .lt 5, 3, 0, 0) from rfl) rfl (fun c2 => ?_) (fun c2 => ?_)
    · refine q_aload_n (show mE (mtv 193) 14 = some (.aload_n 0, 1, 0, 0) from rfl) (hl0 0 _ rfl) ?_
      refine q_getR (m := 16) th (show mE (mtv 193) 15 = some (.getfield 47, 3, 8, 6) from rfl) (by decide) rfl rfl ?_
      refine q_iload_n (show mE (mtv 193) 18 = some (.iload_n 2, 1, 0, 0) from rfl) (hl0 2 _ rfl) ?_
      refine q_aaload (n := 8) (t := 6) (m := 57) th (show mE (mtv 193) 19 = some (.aaload, 1, 0, 0) from rfl) (by decide) rfl (fun _ _ => rfl) (fun b3 => ?_)
      refine q_getI th (show mE (mtv 193) 20 = some (.getfield 492, 3, 5, 3) from rfl) (qB b3 (by decide)) rfl ?_
      refine q_istore_n (show mE (mtv 193) 23 = some (.istore_n 3, 1, 0, 0) from rfl) (Nat.le_of_ble_eq_true rfl) hl0 (fun lv4 (hl5 : qLs lv4 [some (.ref (0)), some (.ref (a0)), some (.int (a1)), some (.int (I (57 + (a1).toNatClampNeg) 3))]) => ?_)
      refine q_iload_n (show mE (mtv 193) 24 = some (.iload_n 3, 1, 0, 0) from rfl) (hl5 3 _ rfl) ?_
      refine q_aload_n (show mE (mtv 193) 25 = some (.aload_n 1, 1, 0, 0) from rfl) (hl5 1 _ rfl) ?_
      refine q_getI th (show mE (mtv 193) 26 = some (.getfield 441, 3, 2, 0) from rfl) ha0 rfl ?_
      refine q_ic_eq (t := 44) (show mE (mtv 193) 29 = some (.if_icmp .eq 15, 3, 0, 0) from rfl) rfl (fun c6 => ?_) (fun c6 => ?_)
      · refine q_iconst (show mE (mtv 193) 44 = some (.iconst 0, 1, 0, 0) from rfl) kI_0 ?_
        refine q_ireturn (show mE (mtv 193) 45 = some (.ireturn, 1, 0, 0) from rfl) ?_
        exact p2 c1 c2 b3 c6
      · refine q_iload_n (show mE (mtv 193) 32 = some (.iload_n 3, 1, 0, 0) from rfl) (hl5 3 _ rfl) ?_
        refine q_aload_n (show mE (mtv 193) 33 = some (.aload_n 1, 1, 0, 0) from rfl) (hl5 1 _ rfl) ?_
        refine q_getI th (show mE (mtv 193) 34 = some (.getfield 444, 3, 2, 1) from rfl) ha0 rfl ?_
        refine q_ic_eq (t := 44) (show mE (mtv 193) 37 = some (.if_icmp .eq 7, 3, 0, 0) from rfl) rfl (fun c7 => ?_) (fun c7 => ?_)
        · refine q_iconst (show mE (mtv 193) 44 = some (.iconst 0, 1, 0, 0) from rfl) kI_0 ?_
          refine q_ireturn (show mE (mtv 193) 45 = some (.ireturn, 1, 0, 0) from rfl) ?_
          exact p3 c1 c2 b3 c6 c7
        · refine q_iconst (show mE (mtv 193) 40 = some (.iconst 1, 1, 0, 0) from rfl) kI_1 ?_
          refine q_goto (t := 45) (show mE (mtv 193) 41 = some (.goto 4, 3, 0, 0) from rfl) rfl ?_
          refine q_ireturn (show mE (mtv 193) 45 = some (.ireturn, 1, 0, 0) from rfl) ?_
          exact p4 c1 c2 b3 c6 c7
    · refine q_iconst (show mE (mtv 193) 12 = some (.iconst 0, 1, 0, 0) from rfl) kI_0 ?_
      refine q_ireturn (show mE (mtv 193) 13 = some (.ireturn, 1, 0, 0) from rfl) ?_
      exact p5 c1 c2
/-- whether a guard is at neither side of a gate, as the class asks -/
noncomputable def lackB (I : Nat → Nat → Int32) (a : Nat) (g : Int32) : Bool := decide (¬ g < 0) && (decide (g < I 0 13) && (decide (¬ I (57 + g.toNatClampNeg) 3 = I a 0) && decide (¬ I (57 + g.toNatClampNeg) 3 = I a 1)))
theorem sp_193 {h : sH} {r : sR} {I : Nat → Nat → Int32} {L : Nat → Nat → Int64} {R : Nat → Nat} (th : qH h I L R) {a0 : Nat} {a1 : Int32} (ha0 : a0 < 119) (g : qGo 193 [.ref 0, .ref a0, .int a1] h r) : r = (.inl (some (.int (b2 (lackB I a0 a1 = true)))), h) := by
  have nb : ∀ {x : Bool}, x = false → b2 (x = true) = 0 := fun e => b2_f (by rw [e]; decide)
  refine qg_193 (Q := fun r => r = _) th ha0 g (fun c1 => ?_) (fun c1 c2 b3 c6 => ?_) (fun c1 c2 b3 c6 c7 => ?_) (fun c1 c2 b3 c6 c7 => ?_) (fun c1 c2 => ?_)
  · rw [nb (by unfold lackB; rw [decide_eq_false (fun q => q c1)]; rfl)]
  · rw [nb (by unfold lackB; rw [decide_eq_true c1, decide_eq_true c2, decide_eq_false (fun q => q c6)]; rfl)]
  · rw [nb (by unfold lackB; rw [decide_eq_true c1, decide_eq_true c2, decide_eq_true c6, decide_eq_false (fun q => q c7)]; rfl)]
  · rw [b2_t (by unfold lackB; rw [decide_eq_true c1, decide_eq_true c2, decide_eq_true c6, decide_eq_true c7]; rfl)]
  · rw [nb (by unfold lackB; rw [decide_eq_true c1, decide_eq_false c2]; rfl)]
theorem qg_296 {h : sH} {r : sR} {Q : sR → Prop} {a0 : Int32} {a1 : Int32} {I : Nat → Nat → Int32} {L : Nat → Nat → Int64} {R : Nat → Nat} (th : qH h I L R) (g : qGo 296 [.ref (85), .int (a0), .int (a1)] h r)
    (p1 : ∀ (b1 : sIn a1 8 = true), ∀ (c4 : (I 100 ((a1).toNatClampNeg)) = (-1 : Int32)), Q (.inl (some (.int ((0 : Int32)))), h))
    (p2 : ∀ (b1 : sIn a1 8 = true), ∀ (c4 : ¬ (I 100 ((a1).toNatClampNeg)) = (-1 : Int32)), ∀ (b5 : sIn (I 100 ((a1).toNatClampNeg)) 8 = true), ∀ (b6 : sIn a0 8 = true), ∀ (c7 : (I 107 ((I 100 ((a1).toNatClampNeg)).toNatClampNeg)) = (I 108 ((a0).toNatClampNeg))), Q (.inl (some (.int ((0 : Int32)))), h))
    (p3 : ∀ (b1 : sIn a1 8 = true), ∀ (c4 : ¬ (I 100 ((a1).toNatClampNeg)) = (-1 : Int32)), ∀ (b5 : sIn (I 100 ((a1).toNatClampNeg)) 8 = true), ∀ (b6 : sIn a0 8 = true), ∀ (c7 : ¬ (I 107 ((I 100 ((a1).toNatClampNeg)).toNatClampNeg)) = (I 108 ((a0).toNatClampNeg))), ∀ (c10 : (I 107 ((I 100 ((a1).toNatClampNeg)).toNatClampNeg)) = (I 109 ((a0).toNatClampNeg))), Q (.inl (some (.int ((0 : Int32)))), h))
    (p4 : ∀ (b1 : sIn a1 8 = true), ∀ (c4 : ¬ (I 100 ((a1).toNatClampNeg)) = (-1 : Int32)), ∀ (b5 : sIn (I 100 ((a1).toNatClampNeg)) 8 = true), ∀ (b6 : sIn a0 8 = true), ∀ (c7 : ¬ (I 107 ((I 100 ((a1).toNatClampNeg)).toNatClampNeg)) = (I 108 ((a0).toNatClampNeg))), ∀ (c10 : ¬ (I 107 ((I 100 ((a1).toNatClampNeg)).toNatClampNeg)) = (I 109 ((a0).toNatClampNeg))), Q (.inl (some (.int ((1 : Int32)))), h)) : Q r := by
  refine qGo_w g (fun N => ?_)
  have hl0 : qLs (lv_args 0 [.ref (85), .int (a0), .int (a1)]) [some (.ref (85)), some (.int (a0)), some (.int (a1)), none] := qLs_ar 1
  refine q_aload_n (show mE (mtv 296) 0 = some (.aload_n 0, 1, 0, 0) from rfl) (hl0 0 _ rfl) ?_
  refine q_getR (m := 100) th (show mE (mtv 296) 1 = some (.getfield 53, 3, 9, 14) from rfl) (by decide) rfl rfl ?_
  refine q_iload_n (show mE (mtv 296) 4 = some (.iload_n 2, 1, 0, 0) from rfl) (hl0 2 _ rfl) ?_
  refine q_iaload (n := 8) th (show mE (mtv 296) 5 = some (.iaload, 1, 0, 0) from rfl) (by decide) rfl (fun b1 => ?_)
  refine q_istore_n (show mE (mtv 296) 6 = some (.istore_n 3, 1, 0, 0) from rfl) (Nat.le_of_ble_eq_true rfl) hl0 (fun lv2 (hl3 : qLs lv2 [some (.ref (85)), some (.int (a0)), some (.int (a1)), some (.int (I 100 ((a1).toNatClampNeg)))]) => ?_)
  refine q_iload_n (show mE (mtv 296) 7 = some (.iload_n 3, 1, 0, 0) from rfl) (hl3 3 _ rfl) ?_
  refine q_iconst (show mE (mtv 296) 8 = some (.iconst (-1), 1, 0, 0) from rfl) kI_m1 ?_
  refine q_ic_eq (t := 46) (show mE (mtv 296) 9 = some (.if_icmp .eq 37, 3, 0, 0) from rfl) rfl (fun c4 => ?_) (fun c4 => ?_)
  · refine q_iconst (show mE (mtv 296) 46 = some (.iconst 0, 1, 0, 0) from rfl) kI_0 ?_
    refine q_ireturn (show mE (mtv 296) 47 = some (.ireturn, 1, 0, 0) from rfl) ?_
    exact p1 b1 c4
  · refine q_aload_n (show mE (mtv 296) 12 = some (.aload_n 0, 1, 0, 0) from rfl) (hl3 0 _ rfl) ?_
    refine q_getR (m := 107) th (show mE (mtv 296) 13 = some (.getfield 74, 3, 9, 21) from rfl) (by decide) rfl rfl ?_
    refine q_iload_n (show mE (mtv 296) 16 = some (.iload_n 3, 1, 0, 0) from rfl) (hl3 3 _ rfl) ?_
    refine q_iaload (n := 8) th (show mE (mtv 296) 17 = some (.iaload, 1, 0, 0) from rfl) (by decide) rfl (fun b5 => ?_)
    refine q_aload_n (show mE (mtv 296) 18 = some (.aload_n 0, 1, 0, 0) from rfl) (hl3 0 _ rfl) ?_
    refine q_getR (m := 108) th (show mE (mtv 296) 19 = some (.getfield 77, 3, 9, 22) from rfl) (by decide) rfl rfl ?_
    refine q_iload_n (show mE (mtv 296) 22 = some (.iload_n 1, 1, 0, 0) from rfl) (hl3 1 _ rfl) ?_
    refine q_iaload (n := 8) th (show mE (mtv 296) 23 = some (.iaload, 1, 0, 0) from rfl) (by decide) rfl (fun b6 => ?_)
    refine q_ic_eq (t := 46) (show mE (mtv 296) 24 = some (.if_icmp .eq 22, 3, 0, 0) from rfl) rfl (fun c7 => ?_) (fun c7 => ?_)
    · refine q_iconst (show mE (mtv 296) 46 = some (.iconst 0, 1, 0, 0) from rfl) kI_0 ?_
      refine q_ireturn (show mE (mtv 296) 47 = some (.ireturn, 1, 0, 0) from rfl) ?_
      exact p2 b1 c4 b5 b6 c7
    · refine q_aload_n (show mE (mtv 296) 27 = some (.aload_n 0, 1, 0, 0) from rfl) (hl3 0 _ rfl) ?_
      refine q_getR (m := 107) th (show mE (mtv 296) 28 = some (.getfield 74, 3, 9, 21) from rfl) (by decide) rfl rfl ?_
      refine q_iload_n (show mE (mtv 296) 31 = some (.iload_n 3, 1, 0, 0) from rfl) (hl3 3 _ rfl) ?_
      refine q_iaload (n := 8) th (show mE (mtv 296) 32 = some (.iaload, 1, 0, 0) from rfl) (by decide) rfl (fun b8 => ?_)
      refine q_aload_n (show mE (mtv 296) 33 = some (.aload_n 0, 1, 0, 0) from rfl) (hl3 0 _ rfl) ?_
      refine q_getR (m := 109) th (show mE (mtv 296) 34 = some (.getfield 80, 3, 9, 23) from rfl) (by decide) rfl rfl ?_
      refine q_iload_n (show mE (mtv 296) 37 = some (.iload_n 1, 1, 0, 0) from rfl) (hl3 1 _ rfl) ?_
      refine q_iaload (n := 8) th (show mE (mtv 296) 38 = some (.iaload, 1, 0, 0) from rfl) (by decide) rfl (fun b9 => ?_)
      refine q_ic_eq (t := 46) (show mE (mtv 296) 39 = some (.if_icmp .eq 7, 3, 0, 0) from rfl) rfl (fun c10 => ?_) (fun c10 => ?_)
      · refine q_iconst (show mE (mtv 296) 46 = some (.iconst 0, 1, 0, 0) from rfl) kI_0 ?_
        refine q_ireturn (show mE (mtv 296) 47 = some (.ireturn, 1, 0, 0) from rfl) ?_
        exact p3 b1 c4 b5 b6 c7 c10
      · refine q_iconst (show mE (mtv 296) 42 = some (.iconst 1, 1, 0, 0) from rfl) kI_1 ?_
        refine q_goto (t := 47) (show mE (mtv 296) 43 = some (.goto 4, 3, 0, 0) from rfl) rfl ?_
        refine q_ireturn (show mE (mtv 296) 47 = some (.ireturn, 1, 0, 0) from rfl) ?_
        exact p4 b1 c4 b5 b6 c7 c10
noncomputable def aloneB (I : Nat → Nat → Int32) (g p : Nat) : Bool := decide (¬ I 100 p = -1) && (decide (¬ I 107 (I 100 p).toNatClampNeg = I 108 g) && decide (¬ I 107 (I 100 p).toNatClampNeg = I 109 g))
theorem sp_296 {h : sH} {r : sR} {I : Nat → Nat → Int32} {L : Nat → Nat → Int64} {R : Nat → Nat} (th : qH h I L R) {a0 a1 : Int32} (g : qGo 296 [.ref 85, .int a0, .int a1] h r) : r = (.inl (some (.int (b2 (aloneB I a0.toNatClampNeg a1.toNatClampNeg = true)))), h) := by
  have nb : ∀ {x : Bool}, x = false → b2 (x = true) = 0 := fun e => b2_f (by rw [e]; decide)
  refine qg_296 (Q := fun r => r = _) th g (fun b1 c4 => ?_) (fun b1 c4 b5 b6 c7 => ?_) (fun b1 c4 b5 b6 c7 c10 => ?_) (fun b1 c4 b5 b6 c7 c10 => ?_)
  · rw [nb (by unfold aloneB; rw [decide_eq_false (fun q => q c4)]; rfl)]
  · rw [nb (by unfold aloneB; rw [decide_eq_true c4, decide_eq_false (fun q => q c7)]; rfl)]
  · rw [nb (by unfold aloneB; rw [decide_eq_true c4, decide_eq_true c7, decide_eq_false (fun q => q c10)]; rfl)]
  · rw [b2_t (by unfold aloneB; rw [decide_eq_true c4, decide_eq_true c7, decide_eq_true c10]; rfl)]
theorem alone_lack {Im Ic : Nat → Nat → Int32} {g p a : Nat} {x : Int32} (hx : Im 100 p = x) (hr : -1 ≤ x.toInt ∧ x.toInt < (Ic 0 13).toInt) (h8 : (Ic 0 13).toInt ≤ 8) (h7 : ∀ k, k < 8 → Im 107 k = Ic (57 + k) 3) (h0 : Im 108 g = Ic a 0) (h1 : Im 109 g = Ic a 1) : b2 (aloneB Im g p = true) = b2 (lackB Ic a x = true) := by
  unfold aloneB lackB
  rw [hx, h0, h1]
  have km : (-1 : Int32).toInt = -1 := by decide
  have k0 : (0 : Int32).toInt = 0 := rfl
  by_cases e : x = -1
  · have e1 : ¬ ¬ x < 0 := fun q => q (by rw [e]; decide)
    rw [decide_eq_false (show ¬ ¬ x = -1 from fun q => q e), decide_eq_false e1]
    rfl
  · have e2 : 0 ≤ x.toInt := by
      have : ¬ x.toInt = -1 := fun q => e (Int32.toInt_inj.mp (q.trans km.symm))
      omega
    have e1 : ¬ x < 0 := by rw [Int32.lt_iff_toInt_lt]; omega
    have e3 : x < Ic 0 13 := by rw [Int32.lt_iff_toInt_lt]; omega
    have e4 : x.toNatClampNeg = x.toInt.toNat := rfl
    rw [decide_eq_true e, decide_eq_true e1, decide_eq_true e3, h7 _ (show x.toNatClampNeg < 8 by omega)]
    rfl
end
section
/-! part 44: persons, gates, cards: what both sides hold alike, and each call of theirs -/
noncomputable def RGs (I : Nat → Nat → Int32) : Prop := I 85 37 = I 0 13 ∧ I 85 38 = I 0 14 ∧ I 85 39 = I 0 15 ∧ I 85 41 = I 0 18 ∧ I 85 40 = I 0 19 ∧ I 85 45 = I 0 11 ∧ I 85 47 = I 0 16 ∧ I 85 43 = I 1 4
noncomputable def RGp (I : Nat → Nat → Int32) : Prop := ∀ p, p < 8 → I 94 p = I (57 + p) 0 ∧ I 99 p = I (57 + p) 1 ∧ I 100 p = I (57 + p) 2 ∧ I 107 p = I (57 + p) 3
noncomputable def RGg (I : Nat → Nat → Int32) : Prop := ∀ p, p < 8 → I 108 p = I (65 + p) 0 ∧ I 109 p = I (65 + p) 1 ∧ I 93 p = I (65 + p) 2 ∧ I 110 p = I (65 + p) 3 ∧ I 111 p = I (65 + p) 4
noncomputable def RGc (I : Nat → Nat → Int32) : Prop := ∀ p, p < 12 → I 112 p = I (73 + p) 0 ∧ I 113 p = I (73 + p) 1 ∧ I 114 p = I (73 + p) 2 ∧ I 115 p = I (73 + p) 3 ∧ I 116 p = I (73 + p) 4
noncomputable def RGi (I : Nat → Nat → Int32) : Prop := ∀ p, p < 8 → -1 ≤ (I (57 + p) 2).toInt ∧ (I (57 + p) 2).toInt < (I 0 13).toInt
noncomputable def RGr (I : Nat → Nat → Int32) : Prop := ∀ p, p < 12 → I 101 p = I (45 + p) 0 ∧ I 102 p = I (45 + p) 1 ∧ I 103 p = I (45 + p) 2
noncomputable def RG (I : Nat → Nat → Int32) : Prop := RGs I ∧ RGp I ∧ RGg I ∧ RGc I ∧ RGi I ∧ RGr I
noncomputable def inR (x : Int32) (a b : Int) : Prop := a ≤ x.toInt ∧ x.toInt ≤ b
noncomputable def BG (I : Nat → Nat → Int32) : Prop := inR (I 0 13) 0 8 ∧ inR (I 0 14) 0 8 ∧ inR (I 0 15) 0 12 ∧ inR (I 0 11) 0 12 ∧ inR (I 0 19) 0 4095 ∧ (∀ p, p < 8 → inR (I (65 + p) 3) 0 255 ∧ inR (I (65 + p) 4) 0 4095) ∧ ∀ p, p < 12 → inR (I (73 + p) 0) 0 7 ∧ inR (I (73 + p) 1) 0 255 ∧ inR (I (73 + p) 2) 0 255 ∧ inR (I (73 + p) 3) 0 4095
theorem RG_t {I : Nat → Nat → Int32} (k : Int32) (h : RG I) : RG (upI I 85 42 k) := by
  obtain ⟨⟨h1, h2, h3, h4, h5, h6, h7, h8⟩, hp, hg, hc, hi, hr⟩ := h
  refine ⟨⟨?_, ?_, ?_, ?_, ?_, ?_, ?_, ?_⟩, fun p q => ?_, fun p q => ?_, fun p q => ?_, fun p q => ?_, fun p q => ?_⟩ <;> simp (disch := omega) only [upI_ne]
  · exact h1
  · exact h2
  · exact h3
  · exact h4
  · exact h5
  · exact h6
  · exact h7
  · exact h8
  · exact hp p q
  · exact hg p q
  · exact hc p q
  · exact hi p q
  · exact hr p q
/-- what is wanted of a call's two runs -/
noncomputable def opE (rW rM : Option Value ⊕ Nat) (h2 : sH) (RR : (Nat → Nat → Int32) → (Nat → Nat → Int64) → (Nat → Nat) → Prop) : Prop := ∃ (k v : Int32) (I2 : Nat → Nat → Int32) (L2 : Nat → Nat → Int64) (R2 : Nat → Nat), rW = .inl (some (.int k)) ∧ rM = .inl (some (.int v)) ∧ qH h2 I2 L2 R2 ∧ I2 85 42 = k ∧ (k = 0 → L2 117 0 = v.toInt64) ∧ RR I2 L2 R2
/-- .. of a call that is made without a wrapper -/
noncomputable def opD (rW rM : Option Value ⊕ Nat) (h2 : sH) (RR : (Nat → Nat → Int32) → (Nat → Nat → Int64) → (Nat → Nat) → Prop) : Prop := ∃ (v : Int32) (I2 : Nat → Nat → Int32) (L2 : Nat → Nat → Int64) (R2 : Nat → Nat), rW = .inl (some (.int v)) ∧ rM = .inl (some (.int v)) ∧ qH h2 I2 L2 R2 ∧ RR I2 L2 R2
theorem i32_sub1 {x : Int32} (h : 0 ≤ x.toInt) : (x - 1).toInt = x.toInt - 1 := by
  have h1 : (1 : Int32).toInt = 1 := rfl
  have h2 := i32_rng x
  rw [i32_sub (by omega) (by omega), h1]
theorem i32_add1 {x : Int32} (h : x.toInt ≤ 4096) : (x + 1).toInt = x.toInt + 1 := by
  have h1 : (1 : Int32).toInt = 1 := rfl
  have h2 := i32_rng x
  rw [i32_add (by omega) (by omega), h1]
theorem i32_p1m1 (x : Int32) : x + 1 - 1 = x := Int32.add_sub_cancel x 1
theorem clampB {x : Int32} {n : Nat} (h : inR x 0 n) : x.toNatClampNeg ≤ n := by
  unfold inR at h
  have e : x.toNatClampNeg = x.toInt.toNat := rfl
  omega
theorem tb_ogN (I : Nat → Nat → Int32) : ∀ (m k : Nat), m ≤ 32 → tb (ogN I m) k = (decide (k < m) && decide (¬ I (65 + k) 2 = 0))
  | 0, k, _ => by
    rw [decide_eq_false (Nat.not_lt_zero k)]
    exact tb_0 k
  | m + 1, k, hm => by
    show tb (xW (ogN I m) (Int32.ofNat m) (I (65 + m) 2)) k = _
    rw [tb_xW, shD_nat (by omega), tb_ogN I m k (by omega)]
    by_cases h1 : k = m
    · subst h1
      rw [if_pos rfl, decide_eq_true (Nat.lt_succ_self k), Bool.true_and]
    · rw [if_neg h1]
      by_cases h2 : k < m
      · rw [decide_eq_true h2, decide_eq_true (show k < m + 1 by omega)]
      · rw [decide_eq_false h2, decide_eq_false (show ¬ k < m + 1 by omega)]
theorem and_0 {x y : Int32} : (x &&& y) = 0 ↔ ∀ k, k < 32 → ¬ (tb x k = true ∧ tb y k = true) := by
  constructor
  · intro h k hk h2
    have := congrArg (fun z => tb z k) h
    simp only [tb_and, tb_0, h2.1, h2.2] at this
    cases this
  · intro h
    apply tb_ext
    intro k hk
    rw [tb_and, tb_0]
    have := h k hk
    cases h1 : tb x k <;> cases h2 : tb y k <;> first | rfl | exact absurd ⟨h1, h2⟩ this
theorem held_og {Im Ic : Nat → Nat → Int32} {g n m : Nat} {x : Int32} (hn : n = m) (hm : m ≤ 8) (h1 : ∀ k, k < 8 → Im 93 k = Ic (65 + k) 2) (h2 : Im 110 g = x) : b2 (heldN Im g n = true) = b2 (¬ (x &&& ogN Ic m) = 0) := by
  subst hn
  have key : heldN Im g n = true ↔ ¬ (x &&& ogN Ic n) = 0 := by
    rw [and_0]
    constructor
    · intro h hf
      unfold heldN at h
      obtain ⟨o, ho, hb⟩ := List.any_eq_true.mp h
      have ho := List.mem_range.mp ho
      unfold heldB at hb
      rw [Bool.and_eq_true, decide_eq_true_eq, h1 o (by omega), h2] at hb
      refine hf o (by omega) ⟨?_, ?_⟩
      · have := hb.2
        unfold hs at this
        rw [shD_nat (by omega)] at this
        exact this
      · rw [tb_ogN Ic n o (by omega), decide_eq_true ho, decide_eq_true hb.1]; rfl
    · intro h
      apply Decidable.of_not_not
      intro hc
      refine h (fun k hk hb => hc ?_)
      rw [tb_ogN Ic n k (by omega), Bool.and_eq_true, decide_eq_true_eq, decide_eq_true_eq] at hb
      obtain ⟨b1, b2, b3⟩ := hb
      refine heldN_t b2 ?_
      unfold heldB
      rw [Bool.and_eq_true, decide_eq_true_eq, h1 k (by omega), h2]
      refine ⟨b3, ?_⟩
      unfold hs
      rw [shD_nat (by omega)]
      exact b1
  by_cases h : heldN Im g n = true
  · rw [b2_t h, b2_t (key.mp h)]
  · rw [b2_f h, b2_f (fun q => h (key.mpr q))]
noncomputable def nSub (a b : Nat) : Nat := (4294967296 - b + a) % 4294967296
noncomputable def nAdd (a b : Nat) : Nat := (a + b) % 4294967296
noncomputable def nJn (x : Int32) : Nat := x.toBitVec.toNat
theorem nJn_sub (x y : Int32) : nJn (x - y) = nSub (nJn x) (nJn y) := BitVec.toNat_sub x.toBitVec y.toBitVec
theorem nJn_add (x y : Int32) : nJn (x + y) = nAdd (nJn x) (nJn y) := BitVec.toNat_add x.toBitVec y.toBitVec
theorem nJn_and (x y : Int32) : nJn (x &&& y) = Nat.land (nJn x) (nJn y) := rfl
theorem nJn_shr (x : Int32) {c : Int32} {k : Nat} (h : (c.toBitVec &&& 31#32) % 32 = BitVec.ofNat 32 k) (hk : k < 32) : nJn (x.toUInt32 >>> (c.toUInt32 &&& Int32.toUInt32 31)).toInt32 = nJn x >>> k := by
  show (x.toBitVec >>> ((c.toBitVec &&& 31#32) % 32)).toNat = _
  rw [h, BitVec.ushiftRight_eq', BitVec.toNat_ushiftRight, BitVec.toNat_ofNat, Nat.mod_eq_of_lt (show k < 2 ^ 32 by omega)]
  rfl
noncomputable def bc1 (n : Nat) : Nat := nSub n (Nat.land (n >>> 1) 1431655765)
noncomputable def bc2 (n : Nat) : Nat := nAdd (Nat.land n 858993459) (Nat.land (n >>> 2) 858993459)
noncomputable def bc3 (n : Nat) : Nat := Nat.land (nAdd n (n >>> 4)) 252645135
noncomputable def bc4 (n : Nat) : Nat := nAdd n (n >>> 8)
noncomputable def bc5 (n : Nat) : Nat := Nat.land (nAdd n (n >>> 16)) 63
noncomputable def bcN (n : Nat) : Nat := bc5 (bc4 (bc3 (bc2 (bc1 n))))
theorem nJn_bc (x : Int32) : nJn (bc32 x) = bcN (nJn x) := by
  unfold bc32
  simp only [nJn_and, nJn_add, nJn_sub, nJn_shr _ (c := 1) (k := 1) (by decide) (by decide), nJn_shr _ (c := 2) (k := 2) (by decide) (by decide), nJn_shr _ (c := 4) (k := 4) (by decide) (by decide), nJn_shr _ (c := 8) (k := 8) (by decide) (by decide), nJn_shr _ (c := 16) (k := 16) (by decide) (by decide)]
  rfl
/-- the ones among the first j bits -/
noncomputable def pcN (n : Nat) : Nat → Nat
  | 0 => 0
  | j + 1 => pcN n j + n / 2 ^ j % 2
theorem pcN_le (n : Nat) : ∀ j, pcN n j ≤ j
  | 0 => Nat.le_refl _
  | j + 1 => by
    have h1 := pcN_le n j
    have h2 := Nat.mod_lt (n / 2 ^ j) (show 2 > 0 by decide)
    show pcN n j + n / 2 ^ j % 2 ≤ j + 1
    omega
theorem nJn_b2 (x : Int32) (j : Nat) : nJn (b2 (tb x j = true)) = nJn x / 2 ^ j % 2 := by
  have e : tb x j = decide (nJn x / 2 ^ j % 2 = 1) := Nat.testBit_eq_decide_div_mod_eq
  have h2 := Nat.mod_lt (nJn x / 2 ^ j) (show 2 > 0 by decide)
  by_cases h : nJn x / 2 ^ j % 2 = 1
  · rw [b2_t (by rw [e]; exact decide_eq_true h), h]; rfl
  · rw [b2_f (by rw [e, decide_eq_false h]; decide), show nJn x / 2 ^ j % 2 = 0 by omega]; rfl
theorem nJn_bcs (x : Int32) : ∀ j, j ≤ 32 → nJn (bcs x j) = pcN (nJn x) j
  | 0, _ => rfl
  | j + 1, hj => by
    show nJn (bcs x j + b2 (tb x j = true)) = _
    rw [nJn_add, nJn_b2, nJn_bcs x j (by omega)]
    have h1 := pcN_le (nJn x) j
    have h2 := Nat.mod_lt (nJn x / 2 ^ j) (show 2 > 0 by decide)
    exact Nat.mod_eq_of_lt (by omega)
theorem pcN_st {n m : Nat} (h : n < 2 ^ m) : ∀ i, pcN n (m + i) = pcN n m
  | 0 => rfl
  | i + 1 => by
    show pcN n (m + i) + n / 2 ^ (m + i) % 2 = _
    rw [pcN_st h i, Nat.div_eq_of_lt (Nat.lt_of_lt_of_le h (Nat.pow_le_pow_right (by decide) (Nat.le_add_right m i)))]
    rfl
noncomputable def bcB (n : Nat) : Bool := Nat.rec (motive := fun _ => Bool) true (fun k ih => bif Nat.beq (bcN k) (pcN k 12) then ih else false) n
theorem bcB_s : ∀ {n k : Nat}, bcB n = true → k < n → bcN k = pcN k 12
  | 0, k, _, hk => absurd hk (Nat.not_lt_zero k)
  | n + 1, k, h, hk => by
    have h : (bif Nat.beq (bcN n) (pcN n 12) then bcB n else false) = true := h
    obtain ⟨h1, h2⟩ := eBif h
    rcases (show k < n ∨ k = n by omega) with e | e
    · exact bcB_s h2 e
    · rw [e]; exact eBeq h1
set_option maxRecDepth 100000 in
theorem bc_nat : bcB 4096 = true := by decide +kernel
theorem nJn_inj {x y : Int32} (h : nJn x = nJn y) : x = y := Int32.toBitVec_inj.mp (BitVec.eq_of_toNat_eq h)
theorem bc_eq {x : Int32} (h : 0 ≤ x.toInt ∧ x.toInt ≤ 4095) : bc32 x = bcs x 31 := by
  apply nJn_inj
  have h1 := (i32_nn h.1).2
  have h2 : nJn x < 4096 := by
    show x.toBitVec.toNat < 4096
    omega
  rw [nJn_bc, nJn_bcs x 31 (by decide), bcB_s bc_nat h2]
  exact (pcN_st (m := 12) h2 19).symm
theorem tb_small {x : Int32} {m : Nat} (hm : m < 31) (h : ∀ k, m ≤ k → tb x k = false) : 0 ≤ x.toInt ∧ x.toInt < ((2 ^ m : Nat) : Int) := by
  have h1 : x.toBitVec.toNat < 2 ^ m := Nat.lt_pow_two_of_testBit _ (fun i hi => h i hi)
  have h2 : 2 ^ m ≤ 2 ^ 30 := Nat.pow_le_pow_right (by decide) (by omega)
  have e : x.toInt = (x.toBitVec.toNat : Int) := BitVec.toInt_eq_toNat_of_lt (x := x.toBitVec) (by omega)
  omega
theorem og_cg {Im Ic : Nat → Nat → Int32} {n m : Nat} (hn : n = m) (hm : m ≤ 8) (h1 : ∀ k, k < 8 → Im 93 k = Ic (65 + k) 2) : bc32 (ogN Ic m) = cgN Im n := by
  subst hn
  have hb := tb_small (x := ogN Ic n) (m := 8) (by decide) (fun k hk => by rw [tb_ogN Ic n k (by omega), decide_eq_false (by omega)]; rfl)
  rw [bc_eq (by omega)]
  have lo : ∀ j, j ≤ n → bcs (ogN Ic n) j = cgN Im j := by
    intro j
    induction j with
    | zero => intro _; rfl
    | succ j ih =>
      intro hj
      show bcs (ogN Ic n) j + b2 (tb (ogN Ic n) j = true) = cgN Im j + b2 (¬ Im 93 j = 0)
      rw [ih (by omega)]
      congr 1
      have e : tb (ogN Ic n) j = true ↔ ¬ Im 93 j = 0 := by
        rw [tb_ogN Ic n j (by omega), decide_eq_true (show j < n by omega), Bool.true_and, decide_eq_true_eq, h1 j (by omega)]
      by_cases q : Im 93 j = 0
      · rw [b2_f (fun z => e.mp z q), b2_f (fun z => z q)]
      · rw [b2_t (e.mpr q), b2_t q]
  have hi : ∀ j, bcs (ogN Ic n) (n + j) = cgN Im n := by
    intro j
    induction j with
    | zero => exact lo n (Nat.le_refl _)
    | succ j ih =>
      show bcs (ogN Ic n) (n + j) + b2 (tb (ogN Ic n) (n + j) = true) = _
      rw [ih, tb_ogN Ic n (n + j) (by omega), decide_eq_false (show ¬ n + j < n by omega), Bool.false_and, b2_f (by decide)]
      exact Int32.add_zero _
  have := hi (31 - n)
  rwa [show n + (31 - n) = 31 by omega] at this
end
