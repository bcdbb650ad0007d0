/-! PARTIAL READING (part 40: words and rows): what holds of every run of a method that comes to an end; that it does so, and within what bounds, say the contracts of part 32 -/
/-! the heap as numbers: ints, longs, the doors' places -/
def vI (h : sH) (a f : Nat) : Int32 := match h[a]? with
  | some c => iOf ((sVs c).getD f .null)
  | none => 0
def vL (h : sH) (a f : Nat) : Int64 := match h[a]? with
  | some c => lOf ((sVs c).getD f .null)
  | none => 0
def nOf (v : Value) : Nat := match v with
  | .ref k => k
  | _ => 0
def vR (h : sH) (j : Nat) : Nat := match h[13]? with
  | some c => nOf ((sVs c).getD j .null)
  | none => 0
def vD (h : sH) : UInt64 := match h[118]? with
  | some c => dOf ((sVs c).getD 0 .null)
  | none => 0
/-! the heap's shape: 0 an object, its class, its fields; 1 an array, its kind, its length -/
def tShF (a : Nat) : Nat × Nat × Nat :=
  if a < 19 then (match a with
    | 0 => (0, 8, 20)
    | 1 => (0, 4, 7)
    | 2 => (1, 4, 6)
    | 9 => (0, 7, 9)
    | 10 => (1, 2, 180)
    | 11 => (1, 2, 10)
    | 12 => (1, 8, 16)
    | 13 => (1, 6, 10)
    | 14 => (1, 11, 12)
    | 15 => (1, 2, 4)
    | 16 => (1, 10, 8)
    | 17 => (1, 7, 8)
    | 18 => (1, 5, 12)
    | _ => (1, 0, 6))
  else if a < 35 then (0, 3, 6) else if a < 45 then (0, 1, 3) else if a < 57 then (0, 6, 3) else if a < 65 then (0, 5, 4) else if a < 73 then (0, 2, 5) else if a < 85 then (0, 0, 5) else (match a with
    | 85 => (0, 9, 48)
    | 86 => (1, 0, 96)
    | 87 => (1, 0, 6)
    | 91 => (1, 0, 6)
    | 92 => (1, 1, 16)
    | 93 => (1, 1, 8)
    | 94 => (1, 1, 8)
    | 97 => (1, 0, 10)
    | 98 => (1, 0, 10)
    | 99 => (1, 0, 8)
    | 100 => (1, 0, 8)
    | 101 => (1, 0, 12)
    | 102 => (1, 0, 12)
    | 103 => (1, 0, 12)
    | 104 => (1, 0, 4)
    | 105 => (1, 0, 24)
    | 106 => (1, 0, 6)
    | 107 => (1, 0, 8)
    | 108 => (1, 0, 8)
    | 109 => (1, 0, 8)
    | 110 => (1, 0, 8)
    | 111 => (1, 0, 8)
    | 112 => (1, 0, 12)
    | 113 => (1, 0, 12)
    | 114 => (1, 0, 12)
    | 115 => (1, 0, 12)
    | 116 => (1, 0, 12)
    | 117 => (1, 2, 1)
    | 118 => (1, 3, 1)
    | _ => (1, 0, 16))
/-- the places to which a reference may lead -/
def tRf (a j : Nat) : Nat × Nat :=
  if a = 0 then (if j = 0 then (1, 1) else if j = 1 then (9, 9) else (10 + j, 10 + j))
  else if a = 1 then (2, 2) else if a = 2 then (3 + j, 3 + j) else if a = 9 then (10 + j, 10 + j) else if a = 12 then (19 + j, 19 + j) else if a = 13 then (35, 44)
  else if a = 14 then (45 + j, 45 + j) else if a = 16 then (57 + j, 57 + j) else if a = 17 then (65 + j, 65 + j) else if a = 18 then (73 + j, 73 + j) else if a = 85 then (86 + j, 86 + j) else (0, 0)
def tVk (ty : FieldType) (rf : Nat × Nat) (v : Value) : Prop := match ty with
  | .int => ∃ x, v = .int x
  | .boolean => v = .int 0 ∨ v = .int 1
  | .long => ∃ x, v = .long x
  | .double => ∃ x, v = .double x
  | .object _ => ∃ k, v = .ref k ∧ rf.1 ≤ k ∧ k ≤ rf.2
  | .array _ => ∃ k, v = .ref k ∧ rf.1 ≤ k ∧ k ≤ rf.2
  | _ => False
def tTy (c : sC) (j : Nat) : FieldType := match c with
  | .inr q => sFt q.1 j
  | .inl q => sTy q.1
def tHd (c : sC) : Nat × Nat × Nat := match c with
  | .inr q => (0, q.1, q.2.length)
  | .inl q => (1, q.1, q.2.length)
def tCell (a : Nat) (c : sC) : Prop := tShF a = tHd c ∧ ∀ (j : Nat) (v : Value), (sVs c)[j]? = some v → tVk (tTy c j) (tRf a j) v
def tInv (h : sH) : Prop := 119 ≤ h.length ∧ (∀ (a : Nat) (c : sC), a < 119 → h[a]? = some c → tCell a c) ∧ ∀ (a : Nat) (c : sC), 119 ≤ a → h[a]? = some c → eGb c
/-- the heap, as numbers -/
def qH (h : sH) (I : Nat → Nat → Int32) (L : Nat → Nat → Int64) (R : Nat → Nat) : Prop := tInv h ∧ vI h = I ∧ vL h = L ∧ vR h = R
theorem qH_of {h : sH} (ht : tInv h) : qH h (vI h) (vL h) (vR h) := ⟨ht, rfl, rfl, rfl⟩
def upI (I : Nat → Nat → Int32) (a f : Nat) (x : Int32) : Nat → Nat → Int32 := fun b g => if b = a ∧ g = f then x else I b g
def upL (L : Nat → Nat → Int64) (a f : Nat) (x : Int64) : Nat → Nat → Int64 := fun b g => if b = a ∧ g = f then x else L b g
def upR (R : Nat → Nat) (f x : Nat) : Nat → Nat := fun g => if g = f then x else R g
/-! writing -/
def tPut (c : sC) (j : Nat) (v : Value) : sC := match c with
  | .inr q => .inr (q.1, q.2.set j v)
  | .inl q => .inl (q.1, q.2.set j v)
theorem sVs_put {c : sC} {j : Nat} {v : Value} : sVs (tPut c j v) = (sVs c).set j v := by cases c <;> rfl
theorem tHd_put {c : sC} {j : Nat} {v : Value} : tHd (tPut c j v) = tHd c := by
  cases c <;> (simp only [tPut, tHd, List.length_set])
theorem tTy_put {c : sC} {j k : Nat} {v : Value} : tTy (tPut c j v) k = tTy c k := by cases c <;> rfl
theorem tInv_put {h : sH} {a j : Nat} {c : sC} {v : Value} (ht : tInv h) (hc : h[a]? = some c) (hv : tVk (tTy c j) (tRf a j) v) (hg : 119 ≤ a → ∃ x, v = .int x) : tInv (h.set a (tPut c j v)) := by
  obtain ⟨t1, t2, t3⟩ := ht
  have hl : a < h.length := (List.getElem?_eq_some_iff.mp hc).1
  refine ⟨by rw [List.length_set]; exact t1, fun b d hb hd => ?_, fun b d hb hd => ?_⟩
  · by_cases e : a = b
    · subst e
      rw [List.getElem?_set_self hl] at hd
      cases hd
      obtain ⟨g1, g2⟩ := t2 a c hb hc
      refine ⟨by rw [tHd_put]; exact g1, fun k w hk => ?_⟩
      rw [tTy_put]
      rw [sVs_put] at hk
      by_cases ek : j = k
      · subst ek
        rw [List.getElem?_set_self (by have := (List.getElem?_eq_some_iff.mp hk).1; rw [List.length_set] at this; exact this)] at hk
        cases hk
        exact hv
      · rw [List.getElem?_set_ne ek] at hk
        exact g2 k w hk
    · rw [List.getElem?_set_ne e] at hd
      exact t2 b d hb hd
  · by_cases e : a = b
    · subst e
      rw [List.getElem?_set_self hl] at hd
      cases hd
      obtain ⟨w, rfl, h2, h3⟩ := t3 a c hb hc
      obtain ⟨x, rfl⟩ := hg hb
      refine ⟨w.set j (.int x), rfl, by rw [List.length_set]; exact h2, fun u hu => ?_⟩
      rcases List.mem_or_eq_of_mem_set hu with q | q
      · exact h3 u q
      · exact ⟨x, q⟩
    · rw [List.getElem?_set_ne e] at hd
      exact t3 b d hb hd
theorem vI_put {h : sH} {a j : Nat} {c : sC} {v : Value} (hc : h[a]? = some c) (hj : j < (sVs c).length) : vI (h.set a (tPut c j v)) = upI (vI h) a j (iOf v) := by
  have hl : a < h.length := (List.getElem?_eq_some_iff.mp hc).1
  funext b g
  unfold upI
  by_cases e : a = b
  · subst e
    unfold vI
    rw [List.getElem?_set_self hl, hc]
    dsimp only
    rw [sVs_put, getD_set hj]
    by_cases eg : g = j
    · rw [if_pos eg, if_pos ⟨rfl, eg⟩]
    · rw [if_neg eg, if_neg (fun q => eg q.2)]
  · unfold vI
    rw [List.getElem?_set_ne e, if_neg (fun q => e q.1.symm)]
theorem vL_put {h : sH} {a j : Nat} {c : sC} {v : Value} (hc : h[a]? = some c) (hj : j < (sVs c).length) : vL (h.set a (tPut c j v)) = upL (vL h) a j (lOf v) := by
  have hl : a < h.length := (List.getElem?_eq_some_iff.mp hc).1
  funext b g
  unfold upL
  by_cases e : a = b
  · subst e
    unfold vL
    rw [List.getElem?_set_self hl, hc]
    dsimp only
    rw [sVs_put, getD_set hj]
    by_cases eg : g = j
    · rw [if_pos eg, if_pos ⟨rfl, eg⟩]
    · rw [if_neg eg, if_neg (fun q => eg q.2)]
  · unfold vL
    rw [List.getElem?_set_ne e, if_neg (fun q => e q.1.symm)]
theorem vR_put {h : sH} {a j : Nat} {c : sC} {v : Value} (hc : h[a]? = some c) (hj : j < (sVs c).length) : vR (h.set a (tPut c j v)) = if a = 13 then upR (vR h) j (nOf v) else vR h := by
  have hl : a < h.length := (List.getElem?_eq_some_iff.mp hc).1
  by_cases e : a = 13
  · subst e
    rw [if_pos rfl]
    funext g
    unfold vR upR
    rw [List.getElem?_set_self hl, hc]
    dsimp only
    rw [sVs_put, getD_set hj]
    by_cases eg : g = j
    · rw [if_pos eg, if_pos eg]
    · rw [if_neg eg, if_neg eg]
  · rw [if_neg e]
    funext g
    unfold vR
    rw [List.getElem?_set_ne e]
theorem upI_eq {I : Nat → Nat → Int32} {a f : Nat} {x : Int32} (h : I a f = x) : upI I a f x = I := by
  funext b g
  unfold upI
  split
  · next e => rw [e.1, e.2, h]
  · rfl
theorem upL_eq {L : Nat → Nat → Int64} {a f : Nat} {x : Int64} (h : L a f = x) : upL L a f x = L := by
  funext b g
  unfold upL
  split
  · next e => rw [e.1, e.2, h]
  · rfl
theorem vI_at {h : sH} {a j : Nat} {c : sC} {v : Value} (hc : h[a]? = some c) (hv : (sVs c)[j]? = some v) : vI h a j = iOf v := by
  unfold vI
  rw [hc]
  dsimp only
  rw [List.getD_eq_getElem?_getD, hv]
  rfl
theorem vL_at {h : sH} {a j : Nat} {c : sC} {v : Value} (hc : h[a]? = some c) (hv : (sVs c)[j]? = some v) : vL h a j = lOf v := by
  unfold vL
  rw [hc]
  dsimp only
  rw [List.getD_eq_getElem?_getD, hv]
  rfl
theorem tVk_ty {ty : FieldType} {rf : Nat × Nat} {v : Value} (h : tVk ty rf v) (hk : ty = .int ∨ ty = .boolean) : ∃ x, v = .int x := by
  rcases hk with rfl | rfl
  · exact h
  · rcases (show v = .int 0 ∨ v = .int 1 from h) with rfl | rfl <;> exact ⟨_, rfl⟩
/-- an int is written where an int stood -/
theorem qH_pI {h : sH} {I : Nat → Nat → Int32} {L : Nat → Nat → Int64} {R : Nat → Nat} {a j : Nat} {c : sC} {v : Value} {x : Int32} (th : qH h I L R) (hc : h[a]? = some c) (hv : (sVs c)[j]? = some v) (hi : ∃ y, v = .int y) (ht : a < 119 → tVk (tTy c j) (tRf a j) (.int x)) (h13 : a < 119 → tVk (tTy c j) (tRf a j) v) : qH (h.set a (tPut c j (.int x))) (upI I a j x) L R := by
  obtain ⟨t, rfl, rfl, rfl⟩ := th
  have hj : j < (sVs c).length := (List.getElem?_eq_some_iff.mp hv).1
  obtain ⟨y, rfl⟩ := hi
  have n13 : a ≠ 13 := fun e => by
    subst e
    obtain ⟨g1, g2⟩ := t.2.1 13 c (by decide) hc
    have g3 := g2 j _ hv
    have e0 : tTy c j = .object (sNm 1) := by
      cases c with
      | inr q => exact absurd (congrArg Prod.fst g1) (by show ¬ (1 : Nat) = 0; decide)
      | inl q =>
        have e2 : (6 : Nat) = q.1 := congrArg (fun z : Nat × Nat × Nat => z.2.1) g1
        show sTy q.1 = _
        rw [← e2]; rfl
    rw [e0] at g3
    obtain ⟨k, hk, -⟩ := g3
    cases hk
  have tv : tInv (h.set a (tPut c j (.int x))) := by
    by_cases ha : a < 119
    · exact tInv_put t hc (ht ha) (fun e => absurd ha (by omega))
    · obtain ⟨t1, t2, t3⟩ := t
      have hl : a < h.length := (List.getElem?_eq_some_iff.mp hc).1
      refine ⟨by rw [List.length_set]; exact t1, fun b d hb hd => ?_, fun b d hb hd => ?_⟩
      · rw [List.getElem?_set_ne (by omega)] at hd; exact t2 b d hb hd
      · by_cases e : a = b
        · subst e
          rw [List.getElem?_set_self hl] at hd
          cases hd
          obtain ⟨w, rfl, h2, h3⟩ := t3 a c hb hc
          refine ⟨w.set j (.int x), rfl, by rw [List.length_set]; exact h2, fun u hu => ?_⟩
          rcases List.mem_or_eq_of_mem_set hu with q | q
          · exact h3 u q
          · exact ⟨x, q⟩
        · rw [List.getElem?_set_ne e] at hd
          exact t3 b d hb hd
  refine ⟨tv, vI_put hc hj, ?_, ?_⟩
  · rw [vL_put hc hj]
    exact upL_eq (by rw [vL_at hc hv]; rfl)
  · rw [vR_put hc hj, if_neg n13]
theorem qH_pL {h : sH} {I : Nat → Nat → Int32} {L : Nat → Nat → Int64} {R : Nat → Nat} {a j : Nat} {c : sC} {v : Value} {x : Int64} (th : qH h I L R) (ha : a < 119) (h13 : a ≠ 13) (hc : h[a]? = some c) (hv : (sVs c)[j]? = some v) (hi : ∃ y, v = .long y) (ht : tVk (tTy c j) (tRf a j) (.long x)) : qH (h.set a (tPut c j (.long x))) I (upL L a j x) R := by
  obtain ⟨t, rfl, rfl, rfl⟩ := th
  have hj : j < (sVs c).length := (List.getElem?_eq_some_iff.mp hv).1
  obtain ⟨y, rfl⟩ := hi
  refine ⟨tInv_put t hc ht (fun e => absurd ha (by omega)), ?_, vL_put hc hj, ?_⟩
  · rw [vI_put hc hj]
    exact upI_eq (by rw [vI_at hc hv]; rfl)
  · rw [vR_put hc hj, if_neg h13]
/-! runs -/
def qW (K N pc : Nat) (lv : sL) (st : List Value) (h : sH) (Q : sR → Prop) : Prop := ∀ n D cl sl r, n < N → sRun mtv (sGo1 mtv eFu D) (mtv K) none n (pc, lv, st, h, cl, sl) = some r → Q r
def qGo (K : Nat) (as : List Value) (h : sH) (r : sR) : Prop := ∃ D, sGo1 mtv eFu D K as h = some r
/-- what goes on behind a call that is gone into -/
def qK (K N pc : Nat) (lv : sL) (rest : List Value) (Q : sR → Prop) : sR → Prop := fun r => match r with
  | (.inl v, h1) => qW K N (pc + 3) lv (v.toList ++ rest) h1 Q
  | (.inr E, h1) => Q (.inr E, h1)
def qLs (lv : sL) (A : List (Option Value)) : Prop := ∀ (j : Nat) (v : Value), A[j]? = some (some v) → sLk j lv = some v
def qSt (j : Nat) (v : Value) : List (Option Value) → List (Option Value)
  | [] => []
  | a :: l => match j with
    | 0 => some v :: l
    | 1 => (match a with
      | some w => (bif Nat.beq w.category 2 then none else some w)
      | none => none) :: qSt 0 v l
    | j + 2 => a :: qSt (j + 1) v l
def qSt2 (j : Nat) (v : Value) : List (Option Value) → List (Option Value)
  | [] => []
  | a :: l => match j with
    | 0 => some v :: (match l with
      | [] => []
      | _ :: r => none :: r)
    | 1 => (match a with
      | some w => (bif Nat.beq w.category 2 then none else some w)
      | none => none) :: qSt2 0 v l
    | j + 2 => a :: qSt2 (j + 1) v l
theorem qSt_n {j : Nat} {v : Value} : qSt j v [] = [] := by
  unfold qSt; rfl
theorem qSt2_n {j : Nat} {v : Value} : qSt2 j v [] = [] := by
  unfold qSt2; rfl
theorem qSt_g {v w : Value} : ∀ {A : List (Option Value)} {j k : Nat}, (qSt j v A)[k]? = some (some w) → (k = j ∧ w = v) ∨ (k ≠ j ∧ A[k]? = some (some w) ∧ (k + 1 = j → w.category = 1))
  | [], j, k, h => by
    rw [qSt_n, List.getElem?_nil] at h
    cases h
  | a :: l, 0, 0, h => by cases h; exact Or.inl ⟨rfl, rfl⟩
  | a :: l, 0, k + 1, h => Or.inr ⟨by omega, h, by omega⟩
  | a :: l, 1, 0, h => by
    cases a with
    | none => cases h
    | some u =>
      have h : (some (bif Nat.beq u.category 2 then none else some u) : Option (Option Value)) = some (some w) := h
      cases g : Nat.beq u.category 2 with
      | true => rw [g] at h; cases h
      | false =>
        rw [g] at h
        cases h
        refine Or.inr ⟨by omega, rfl, fun _ => ?_⟩
        cases w <;> first | rfl | cases g
  | a :: l, 1, k + 1, h => by
    rcases qSt_g (A := l) (j := 0) (k := k) h with ⟨e, e2⟩ | ⟨e, e2, e3⟩
    · exact Or.inl ⟨by omega, e2⟩
    · exact Or.inr ⟨by omega, e2, by omega⟩
  | a :: l, j + 2, 0, h => Or.inr ⟨by omega, h, by omega⟩
  | a :: l, j + 2, k + 1, h => by
    rcases qSt_g (A := l) (j := j + 1) (k := k) h with ⟨e, e2⟩ | ⟨e, e2, e3⟩
    · exact Or.inl ⟨by omega, e2⟩
    · exact Or.inr ⟨by omega, e2, fun q => e3 (by omega)⟩
theorem qSt2_g {v w : Value} : ∀ {A : List (Option Value)} {j k : Nat}, (qSt2 j v A)[k]? = some (some w) → (k = j ∧ w = v) ∨ (k ≠ j ∧ k ≠ j + 1 ∧ A[k]? = some (some w) ∧ (k + 1 = j → w.category = 1))
  | [], j, k, h => by
    rw [qSt2_n, List.getElem?_nil] at h
    cases h
  | a :: l, 0, 0, h => by cases h; exact Or.inl ⟨rfl, rfl⟩
  | [a], 0, k + 1, h => by cases h
  | a :: b :: l, 0, 1, h => by cases h
  | a :: b :: l, 0, k + 2, h => Or.inr ⟨by omega, by omega, h, by omega⟩
  | a :: l, 1, 0, h => by
    cases a with
    | none => cases h
    | some u =>
      have h : (some (bif Nat.beq u.category 2 then none else some u) : Option (Option Value)) = some (some w) := h
      cases g : Nat.beq u.category 2 with
      | true => rw [g] at h; cases h
      | false =>
        rw [g] at h
        cases h
        refine Or.inr ⟨by omega, by omega, rfl, fun _ => ?_⟩
        cases w <;> first | rfl | cases g
  | a :: l, 1, k + 1, h => by
    rcases qSt2_g (A := l) (j := 0) (k := k) h with ⟨e, e2⟩ | ⟨e, e4, e2, e3⟩
    · exact Or.inl ⟨by omega, e2⟩
    · exact Or.inr ⟨by omega, by omega, e2, by omega⟩
  | a :: l, j + 2, 0, h => Or.inr ⟨by omega, by omega, h, by omega⟩
  | a :: l, j + 2, k + 1, h => by
    rcases qSt2_g (A := l) (j := j + 1) (k := k) h with ⟨e, e2⟩ | ⟨e, e4, e2, e3⟩
    · exact Or.inl ⟨by omega, e2⟩
    · exact Or.inr ⟨by omega, by omega, e2, fun q => e3 (by omega)⟩
theorem qLs_s1 {lv : sL} {A : List (Option Value)} {j : Nat} {v : Value} (hl : qLs lv A) : qLs (sS1 j v lv) (qSt j v A) := by
  intro k w hk
  rcases qSt_g hk with ⟨e, e2⟩ | ⟨e, e2, e3⟩
  · rw [e, e2]; exact sLk_s1
  · unfold sS1 sLk
    rw [if_neg (fun q => e q.symm)]
    refine sLk_fil (hl k w e2) ?_
    dsimp only
    have e4 : (k == j) = false := beq_false_of_ne e
    rw [e4]
    by_cases e5 : k + 1 = j
    · rw [e3 e5]
      cases (k + 1 == j) <;> rfl
    · have e6 : (k + 1 == j) = false := beq_false_of_ne e5
      rw [e6]; rfl
theorem qLs_s2 {lv : sL} {A : List (Option Value)} {j : Nat} {v : Value} (hl : qLs lv A) : qLs (sS2 j v lv) (qSt2 j v A) := by
  intro k w hk
  rcases qSt2_g hk with ⟨e, e2⟩ | ⟨e, e9, e2, e3⟩
  · rw [e, e2]; unfold sS2 sLk; exact if_pos rfl
  · unfold sS2 sLk
    rw [if_neg (fun q => e q.symm)]
    refine sLk_fil (hl k w e2) ?_
    dsimp only
    have e4 : (k == j) = false := beq_false_of_ne e
    have e7 : (k == j + 1) = false := beq_false_of_ne e9
    rw [e4, e7]
    by_cases e5 : k + 1 = j
    · rw [e3 e5]
      cases (k + 1 == j) <;> rfl
    · have e6 : (k + 1 == j) = false := beq_false_of_ne e5
      rw [e6]; rfl
/-- the locals with which a method begins -/
def qAr : List Value → List (Option Value)
  | [] => []
  | v :: vs => some v :: (bif Nat.beq v.category 2 then none :: qAr vs else qAr vs)
theorem qAr_s : ∀ {vs : List Value} {i j : Nat} {v : Value}, (qAr vs)[j]? = some (some v) → sLk (i + j) (lv_args i vs) = some v
  | [], i, j, v, h => by cases h
  | u :: vs, i, 0, v, h => by
    cases h
    unfold lv_args sLk
    exact if_pos (by omega)
  | u :: vs, i, j + 1, v, h => by
    unfold lv_args sLk
    rw [if_neg (by omega)]
    have h : (bif Nat.beq u.category 2 then none :: qAr vs else qAr vs)[j]? = some (some v) := h
    by_cases g : u.category = 2
    · rw [if_pos g]
      rw [show Nat.beq u.category 2 = true by rw [g]; rfl] at h
      cases j with
      | zero => cases h
      | succ j =>
        have := qAr_s (vs := vs) (i := i + 2) (j := j) h
        rw [show i + (j + 1 + 1) = i + 2 + j by omega]; exact this
    · rw [if_neg g]
      rw [show Nat.beq u.category 2 = false by cases q : Nat.beq u.category 2 with
        | true => exact absurd (Nat.eq_of_beq_eq_true q) g
        | false => rfl] at h
      have := qAr_s (vs := vs) (i := i + 1) (j := j) h
      rw [show i + (j + 1) = i + 1 + j by omega]; exact this
theorem qLs_ar {vs : List Value} (n : Nat) : qLs (lv_args 0 vs) (qAr vs ++ List.replicate n none) := by
  intro j v hj
  by_cases h : j < (qAr vs).length
  · rw [List.getElem?_append_left h] at hj
    have := qAr_s (i := 0) hj
    rwa [Nat.zero_add] at this
  · rw [List.getElem?_append_right (by omega)] at hj
    have := List.eq_of_mem_replicate (List.mem_of_getElem? hj)
    cases this
def qSub : List (Option Value) → List (Option Value) → Prop
  | [], _ => True
  | none :: l, _ :: r => qSub l r
  | some v :: l, some w :: r => v = w ∧ qSub l r
  | _, _ => False
theorem qSub_s : ∀ {A B : List (Option Value)}, qSub A B → ∀ (j : Nat) (v : Value), A[j]? = some (some v) → B[j]? = some (some v)
  | [], B, _, j, v, h => by cases h
  | none :: l, [], h, _, _, _ => False.elim h
  | none :: l, b :: r, h, 0, v, hj => by cases hj
  | none :: l, b :: r, h, j + 1, v, hj => qSub_s (A := l) (B := r) h j v hj
  | some u :: l, [], h, _, _, _ => False.elim h
  | some u :: l, none :: r, h, _, _, _ => False.elim h
  | some u :: l, some w :: r, h, 0, v, hj => by cases hj; rw [h.1]; rfl
  | some u :: l, some w :: r, h, j + 1, v, hj => qSub_s (A := l) (B := r) h.2 j v hj
theorem qLs_wk {lv : sL} {A B : List (Option Value)} (hl : qLs lv B) (h : qSub A B) : qLs lv A := fun j v hj => hl j v (qSub_s h j v hj)
theorem qW_le {K N N' pc : Nat} {lv : sL} {st : List Value} {h : sH} {Q : sR → Prop} (hN : N ≤ N') (k : qW K N' pc lv st h Q) : qW K N pc lv st h Q := fun n D cl sl r hn hr => k n D cl sl r (by omega) hr
theorem qW_0 {K pc : Nat} {lv : sL} {st : List Value} {h : sH} {Q : sR → Prop} : qW K 0 pc lv st h Q := fun _ _ _ _ _ hn _ => absurd hn (Nat.not_lt_zero _)
theorem qGo_w {K : Nat} {as : List Value} {h : sH} {r : sR} {Q : sR → Prop} (g : qGo K as h r) (k : ∀ N, qW K N 0 (lv_args 0 as) [] h Q) : Q r := by
  obtain ⟨D, g⟩ := g
  cases D with
  | zero => cases g
  | succ D =>
    rw [sGo1_s] at g
    split at g
    · exact k _ _ _ _ _ _ (Nat.lt_succ_self _) g
    · cases g
theorem qGo_eq {K : Nat} {as : List Value} {h : sH} {r : sR} (g : qGo K as h r) : r = (r.1, r.2) := rfl
