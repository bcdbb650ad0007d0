/-! instructions of the heap -/
def sIn (i : Int32) (n : Nat) : Bool := !(decide (i < 0) || decide (n ≤ i.toNatClampNeg))
theorem sIn_ok {i : Int32} {n : Nat} (h : sIn i n = true) : vp_in i n := by
  simp only [sIn, Bool.not_eq_true', Bool.or_eq_false_iff, decide_eq_false_iff_not] at h
  exact fun q => q.elim h.1 h.2
/-- an instruction that reads or writes the heap, or a constant -/
def sHp (xs : Option (List Int32)) (i : Instr) (a1 a2 pc : Nat) (l : sL) (st : List Value) (h : sH) : Option (Nat × sL × List Value × sH) := match i with
  | .getfield _ => match st with
    | .ref a :: r => match h[a]? with
      | some (.inr q) => if q.1 = a1 then (match q.2[a2]? with
        | some v => some (pc + 3, l, v :: r, h)
        | none => none) else none
      | _ => none
    | _ => none
  | .putfield _ => match st with
    | v :: .ref a :: r => match h[a]? with
      | some (.inr q) => if q.1 = a1 ∧ a2 < q.2.length ∧ sFit (sFt a1 a2) v = true then some (pc + 3, l, r, h.set a (.inr (a1, q.2.set a2 v))) else none
      | _ => none
    | _ => none
  | .iaload => match st with
    | .int i :: .ref a :: r => match h[a]? with
      | some (.inl (0, w)) => if sIn i w.length = true then some (pc + 1, l, .int (iOf (w.getD i.toNatClampNeg .null)) :: r, h) else none
      | _ => none
    | .int i :: .retAddr _ :: r => match xs with
      | some ys => if sIn i ys.length = true then some (pc + 1, l, .int (ys.getD i.toNatClampNeg 0) :: r, h) else none
      | none => none
    | _ => none
  | .baload => match st with
    | .int i :: .ref a :: r => match h[a]? with
      | some (.inl (1, w)) => if sIn i w.length = true then some (pc + 1, l, .int (iOf (w.getD i.toNatClampNeg .null)) :: r, h) else none
      | _ => none
    | _ => none
  | .laload => match st with
    | .int i :: .ref a :: r => match h[a]? with
      | some (.inl (2, w)) => if sIn i w.length = true then some (pc + 1, l, .long (lOf (w.getD i.toNatClampNeg .null)) :: r, h) else none
      | _ => none
    | _ => none
  | .daload => match st with
    | .int i :: .ref a :: r => match h[a]? with
      | some (.inl (3, w)) => if sIn i w.length = true then some (pc + 1, l, .double (dOf (w.getD i.toNatClampNeg .null)) :: r, h) else none
      | _ => none
    | _ => none
  | .aaload => match st with
    | .int i :: .ref a :: r => match h[a]? with
      | some (.inl (t + 4, w)) => if sIn i w.length = true ∧ t + 4 ∈ sTl then some (pc + 1, l, rOf (w.getD i.toNatClampNeg .null) :: r, h) else none
      | _ => none
    | _ => none
  | .iastore => match st with
    | .int x :: .int i :: .ref a :: r => match h[a]? with
      | some (.inl (0, w)) => if sIn i w.length = true then some (pc + 1, l, r, h.set a (.inl (0, w.set i.toNatClampNeg (.int x)))) else none
      | _ => none
    | _ => none
  | .bastore => match st with
    | .int x :: .int i :: .ref a :: r => match h[a]? with
      | some (.inl (1, w)) => if sIn i w.length = true ∧ (x = 0 ∨ x = 1) then some (pc + 1, l, r, h.set a (.inl (1, w.set i.toNatClampNeg (.int x)))) else none
      | _ => none
    | _ => none
  | .lastore => match st with
    | .long x :: .int i :: .ref a :: r => match h[a]? with
      | some (.inl (2, w)) => if sIn i w.length = true then some (pc + 1, l, r, h.set a (.inl (2, w.set i.toNatClampNeg (.long x)))) else none
      | _ => none
    | _ => none
  | .dastore => match st with
    | .double x :: .int i :: .ref a :: r => match h[a]? with
      | some (.inl (3, w)) => if sIn i w.length = true then some (pc + 1, l, r, h.set a (.inl (3, w.set i.toNatClampNeg (.double x)))) else none
      | _ => none
    | _ => none
  | .aastore => match st with
    | .ref x :: .int i :: .ref a :: r => match h[a]? with
      | some (.inl (t + 5, w)) => match h[x]? with
        | some (.inr q) => if sIn i w.length = true ∧ t + 5 ∈ sTl ∧ q.1 = t ∧ t < 10 then some (pc + 1, l, r, h.set a (.inl (t + 5, w.set i.toNatClampNeg (.ref x)))) else none
        | _ => none
      | _ => none
    | _ => none
  | .arraylength => match st with
    | .ref a :: r => match h[a]? with
      | some (.inl q) => if q.1 ∈ sTl then some (pc + 1, l, .int (Int32.ofNat q.2.length) :: r, h) else none
      | _ => none
    | .retAddr _ :: r => match xs with
      | some ys => some (pc + 1, l, .int (Int32.ofNat ys.length) :: r, h)
      | none => none
    | _ => none
  | .ldc _ => some (pc + 2, l, .int (Int32.ofNat a1) :: st, h)
  | .ldc_w _ => some (pc + 3, l, .int (Int32.ofNat a1) :: st, h)
  | .ldc2_w _ => some (pc + 3, l, .long (Int64.ofNat a1) :: st, h)
  | _ => none
/-- the words that it needs -/
def sHw (ws : List Cond) (own : String) (isI : Bool) (i : Instr) (a1 a2 : Nat) : Bool := match i with
  | .getfield ix => decide (a1 < 10) && (decide (a2 < sNf a1) && decide (Cond.fieldLink own ix (sT4 a1 a2).1 (sT4 a1 a2).2.1 (sT4 a1 a2).2.2.1 ∈ ws))
  | .putfield ix => decide (a1 < 10) && (decide (a2 < sNf a1) && (decide (Cond.fieldLink own ix (sT4 a1 a2).1 (sT4 a1 a2).2.1 (sT4 a1 a2).2.2.1 ∈ ws) && (decide ((sT4 a1 a2).2.2.2 = false) || (isI && decide ((sT4 a1 a2).1 = own)))))
  | .ldc ix => decide (Cond.constant own ix (Int32.ofNat a1) ∈ ws)
  | .ldc_w ix => decide (Cond.constant own ix (Int32.ofNat a1) ∈ ws)
  | .ldc2_w ix => decide (Cond.constantLong own ix (Int64.ofNat a1) ∈ ws)
  | _ => true
theorem sVs_set {w : List Value} {n j : Nat} {v : Value} (hw : ∀ u ∈ w, sOk n u) (hv : sOk n v) : ∀ u ∈ w.set j v, sOk n u := fun u hu => (List.mem_or_eq_of_mem_set hu).elim (hw u) (fun e => by rw [e]; exact hv)
theorem sGet_ok {n k : Nat} {h : sH} {c : sC} (hw : sOkH n h) (hk : h[k]? = some c) : sOkC n c := hw c (List.mem_of_getElem? hk)
theorem getD_set {w : List Value} {j : Nat} {v : Value} (hj : j < w.length) (k : Nat) : (w.set j v).getD k .null = if k = j then v else w.getD k .null := by
  simp only [List.getD_eq_getElem?_getD]
  by_cases e : k = j
  · subst e; rw [if_pos rfl, List.getElem?_set_self hj]; rfl
  · rw [if_neg e, List.getElem?_set_ne (Ne.symm e)]
theorem sIn_lt {i : Int32} {n : Nat} (h : sIn i n = true) : i.toNatClampNeg < n := Nat.not_le.mp fun q => sIn_ok h (Or.inr q)
theorem sCt0_set {ad : Nat → Nat} {w : List Value} {j : Nat} {x : Int32} (hj : j < w.length) : (w.length, (Sum.inl (upd (fun k => iOf (w.getD k .null)) j x) : (Nat → Int32) ⊕ _)) = (sCt ad 0 (w.set j (.int x)) : vp_A) := by
  show _ = ((w.set j (.int x)).length, Sum.inl (fun k => iOf ((w.set j (.int x)).getD k .null)))
  rw [List.length_set]
  congr 2
  funext k
  rw [getD_set hj]
  unfold upd
  split <;> rfl
theorem sCt1_set {ad : Nat → Nat} {w : List Value} {j : Nat} {x : Int32} (hj : j < w.length) : (w.length, (Sum.inl (upd (fun k => iOf (w.getD k .null)) j x) : (Nat → Int32) ⊕ _)) = (sCt ad 1 (w.set j (.int x)) : vp_A) := by
  show _ = ((w.set j (.int x)).length, Sum.inl (fun k => iOf ((w.set j (.int x)).getD k .null)))
  rw [List.length_set]
  congr 2
  funext k
  rw [getD_set hj]
  unfold upd
  split <;> rfl
theorem sCt2_set {ad : Nat → Nat} {w : List Value} {j : Nat} {x : Int64} (hj : j < w.length) : (w.length, (Sum.inr (Sum.inl (vp_updL (fun k => lOf (w.getD k .null)) j x)) : (Nat → Int32) ⊕ _)) = (sCt ad 2 (w.set j (.long x)) : vp_A) := by
  show _ = ((w.set j (.long x)).length, Sum.inr (Sum.inl (fun k => lOf ((w.set j (.long x)).getD k .null))))
  rw [List.length_set]
  congr 3
  funext k
  rw [getD_set hj]
  unfold vp_updL
  split <;> rfl
theorem sCt3_set {ad : Nat → Nat} {w : List Value} {j : Nat} {x : UInt64} (hj : j < w.length) : (w.length, (Sum.inr (Sum.inr (Sum.inr (Sum.inl (vf_upd (fun k => dOf (w.getD k .null)) j x)))) : (Nat → Int32) ⊕ _)) = (sCt ad 3 (w.set j (.double x)) : vp_A) := by
  show _ = ((w.set j (.double x)).length, Sum.inr (Sum.inr (Sum.inr (Sum.inl (fun k => dOf ((w.set j (.double x)).getD k .null))))))
  rw [List.length_set]
  congr 5
  funext k
  rw [getD_set hj]
  unfold vf_upd
  split <;> rfl
theorem sCt4_set {ad : Nat → Nat} {w : List Value} {j t x : Nat} (hj : j < w.length) : (w.length, (Sum.inr (Sum.inr (Sum.inr (Sum.inr (va_up (fun k => rAd ad (w.getD k .null)) j (some (ad x)))))) : (Nat → Int32) ⊕ _)) = (sCt ad (t + 4) (w.set j (.ref x)) : vp_A) := by
  show _ = ((w.set j (.ref x)).length, Sum.inr (Sum.inr (Sum.inr (Sum.inr (fun k => rAd ad ((w.set j (.ref x)).getD k .null))))))
  rw [List.length_set]
  congr 5
  funext k
  rw [getD_set hj]
  unfold va_up
  split <;> rfl
