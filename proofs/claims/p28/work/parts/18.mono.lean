/-! a method's words among the claim's -/
def sLe (G H : sG) : Prop := (∀ w ∈ gB G, w ∈ gB H) ∧ (∀ w ∈ gN G, w ∈ gN H) ∧ (∀ q ∈ gS G, q ∈ gS H) ∧ (∀ q ∈ gC G, q ∈ gC H)
theorem sHw_mono {ws ws' : List Cond} (h : ∀ w ∈ ws, w ∈ ws') {own : String} {isI : Bool} {i : Instr} {a1 a2 : Nat} (hw : sHw ws own isI i a1 a2 = true) : sHw ws' own isI i a1 a2 = true := by
  cases i with
  | getfield ix =>
    simp only [sHw, Bool.and_eq_true, decide_eq_true_eq] at hw ⊢
    exact ⟨hw.1, hw.2.1, h _ hw.2.2⟩
  | putfield ix =>
    simp only [sHw, Bool.and_eq_true, decide_eq_true_eq] at hw ⊢
    exact ⟨hw.1, hw.2.1, h _ hw.2.2.1, hw.2.2.2⟩
  | ldc ix =>
    simp only [sHw, decide_eq_true_eq] at hw ⊢
    exact h _ hw
  | ldc_w ix =>
    simp only [sHw, decide_eq_true_eq] at hw ⊢
    exact h _ hw
  | ldc2_w ix =>
    simp only [sHw, decide_eq_true_eq] at hw ⊢
    exact h _ hw
  | _ => rfl
theorem sAw_mono {ws ws' : List Cond} (h : ∀ w ∈ ws, w ∈ ws') {own : String} {i : Instr} {a1 : Nat} (hw : sAw ws own i a1 = true) : sAw ws' own i a1 = true := by
  cases i with
  | new ix =>
    simp only [sAw, Bool.and_eq_true, decide_eq_true_eq] at hw ⊢
    exact ⟨h _ hw.1, h _ hw.2.1, h _ hw.2.2⟩
  | newarray t =>
    simp only [sAw, decide_eq_true_eq] at hw ⊢
    exact h _ hw
  | anewarray ix =>
    simp only [sAw, decide_eq_true_eq] at hw ⊢
    exact h _ hw
  | multianewarray ix d =>
    simp only [sAw, Bool.and_eq_true, decide_eq_true_eq] at hw ⊢
    exact ⟨h _ hw.1, h _ hw.2⟩
  | _ => rfl
theorem sThr_mono {G H : sG} (h : sLe G H) {own : String} {cc : ByteArray} {pc ik : Nat} {E : String} (hw : sThr G own cc pc ik E = true) : sThr H own cc pc ik E = true := by
  have hany : ∀ is : Nat, (gS G).any (fun q => decide (q.1 = own) && decide (q.2.1 = is)) = true → (gS H).any (fun q => decide (q.1 = own) && decide (q.2.1 = is)) = true := by
    intro is hi
    obtain ⟨q, hq, hq2⟩ := List.any_eq_true.mp hi
    exact List.any_eq_true.mpr ⟨q, h.2.2.1 q hq, hq2⟩
  unfold sThr at hw ⊢
  simp only [Bool.and_eq_true, decide_eq_true_eq] at hw ⊢
  obtain ⟨h0, h1, h2, h3, h4⟩ := hw
  refine ⟨h0, h.1 _ h1, h.1 _ h2, h3, ?_⟩
  split at h4
  · next is hd4 =>
    simp only [Bool.and_eq_true, decide_eq_true_eq] at h4 ⊢
    refine ⟨⟨h4.1.1, hany _ h4.1.2⟩, ?_⟩
    have h5 := h4.2
    split at h5
    · simp only [Bool.and_eq_true, decide_eq_true_eq] at h5 ⊢
      exact ⟨h5.1, h.1 _ h5.2⟩
    · cases h5
  · next is hd4 =>
    simp only [Bool.and_eq_true] at h4 ⊢
    refine ⟨hany _ h4.1, ?_⟩
    have h5 := h4.2
    split at h5
    · simp only [Bool.and_eq_true, decide_eq_true_eq] at h5 ⊢
      exact ⟨h5.1, h.1 _ h5.2⟩
    · cases h5
  · cases h4
theorem sCw_mono {G H : sG} (h : sLe G H) {mt : Nat → sM} {own : String} {cc : ByteArray} {pc : Nat} {tbl : sT} {i : Instr} {a1 a2 : Nat} (hw : sCw G mt own cc pc tbl i a1 a2 = true) : sCw H mt own cc pc tbl i a1 a2 = true := by
  cases i with
  | invokestatic ix =>
    unfold sCw at hw ⊢
    dsimp only at hw ⊢
    split at hw
    · next h1 =>
      rw [if_pos h1]
      unfold sMw at hw ⊢
      split at hw
      · simp only [Bool.and_eq_true, decide_eq_true_eq] at hw ⊢
        exact ⟨h.1 _ hw.1, h.1 _ hw.2.1, h.1 _ hw.2.2.1, h.1 _ hw.2.2.2⟩
      · simp only [Bool.and_eq_true, decide_eq_true_eq] at hw ⊢
        exact ⟨h.1 _ hw.1, h.1 _ hw.2.1, h.1 _ hw.2.2.1, h.1 _ hw.2.2.2⟩
      · simp only [Bool.and_eq_true, decide_eq_true_eq] at hw ⊢
        exact ⟨h.1 _ hw.1, h.1 _ hw.2.1, h.1 _ hw.2.2.1, h.1 _ hw.2.2.2⟩
      · cases hw
    · next h1 =>
      rw [if_neg h1]
      simp only [Bool.and_eq_true, Bool.or_eq_true, decide_eq_true_eq] at hw ⊢
      exact ⟨h.1 _ hw.1, hw.2.elim (fun q => Or.inl (h.1 _ q)) (fun q => Or.inr ⟨h.2.1 _ q.1, q.2⟩)⟩
  | invokevirtual ix =>
    simp only [sCw, Bool.and_eq_true, decide_eq_true_eq] at hw ⊢
    exact ⟨hw.1, h.1 _ hw.2.1, h.1 _ hw.2.2.1, h.1 _ hw.2.2.2.1, hw.2.2.2.2⟩
  | invokespecial ix =>
    unfold sCw at hw ⊢
    dsimp only at hw ⊢
    split at hw
    · next h1 =>
      rw [if_pos h1]
      simp only [Bool.and_eq_true, decide_eq_true_eq] at hw ⊢
      exact ⟨h.1 _ hw.1, h.1 _ hw.2.1, h.1 _ hw.2.2⟩
    · next h1 =>
      rw [if_neg h1]
      simp only [Bool.and_eq_true, Bool.or_eq_true, decide_eq_true_eq] at hw ⊢
      exact ⟨hw.1, h.1 _ hw.2.1, hw.2.2.1, hw.2.2.2.1, hw.2.2.2.2.elim (fun q => Or.inl (h.1 _ q)) (fun q => Or.inr (h.2.1 _ q))⟩
  | new ix =>
    unfold sCw at hw ⊢
    dsimp only at hw ⊢
    split at hw
    · next h1 =>
      rw [if_pos h1]
      simp only [Bool.and_eq_true] at hw ⊢
      exact ⟨hw.1, sThr_mono h hw.2⟩
    · next h1 => rw [if_neg h1]
  | _ => rfl
theorem sEok_mono {G H : sG} (h : sLe G H) {mt : Nat → sM} {own : String} {isI : Bool} {cc : ByteArray} {tbl : sT} {pc : Nat} {e : sE} (hw : sEok G mt own isI cc tbl pc e = true) : sEok H mt own isI cc tbl pc e = true := by
  simp only [sEok, Bool.and_eq_true, Bool.or_eq_true] at hw ⊢
  exact ⟨hw.1, hw.2.1, sHw_mono h.1 hw.2.2.1, sCw_mono h hw.2.2.2.1, hw.2.2.2.2.elim Or.inl (fun q => Or.inr (sAw_mono h.1 q))⟩
theorem sMok_mono {G H : sG} (h : sLe G H) {M : sM} (hw : sMok G M = true) : sMok H M = true := by
  simp only [sMok, Bool.and_eq_true, decide_eq_true_eq] at hw ⊢
  exact ⟨hw.1, hw.2.1, hw.2.2.1, hw.2.2.2.1, h.1 _ hw.2.2.2.2.1, h.1 _ hw.2.2.2.2.2.1, hw.2.2.2.2.2.2⟩
theorem sTok_mono {G H : sG} (h : sLe G H) {M : sM} (hw : sTok G M = true) : sTok H M = true := by
  refine List.all_eq_true.mpr fun q hq => ?_
  have h1 := List.all_eq_true.mp hw q hq
  split at h1
  · simp only [Bool.and_eq_true, Bool.or_eq_true, decide_eq_true_eq, List.all_eq_true] at h1 ⊢
    exact ⟨h1.1, h1.2.1, h.1 _ h1.2.2.1, h.2.1 _ h1.2.2.2.1, fun k hk => (h1.2.2.2.2 k hk).elim Or.inl (fun z => Or.inr (h.2.2.2 _ z))⟩
  · cases h1
def sM1 (G : sG) (mt : Nat → sM) (n : Nat) (M : sM) : Bool := sMok G M && ((List.range n).all (fun pc => match mE M pc with
  | none => true
  | some e => sEok G mt (mY M).cls (decide ((mY M).name = "<init>")) (mB M) (mT M) pc e) && sTok G M)
def sPk (M : sM) : Prop := sMok sGv M = true ∧ (∀ pc e, mE M pc = some e → sEok sGv mtv (mY M).cls (decide ((mY M).name = "<init>")) (mB M) (mT M) pc e = true) ∧ sTok sGv M = true
theorem sPk_of {G : sG} {n : Nat} {M : sM} {f : Nat → Option sE} (h : sLe G sGv) (hn : mE M = sC0 n f) (hw : sM1 G mtv n M = true) : sPk M := by
  simp only [sM1, Bool.and_eq_true] at hw
  refine ⟨sMok_mono h hw.1, fun pc e he => ?_, sTok_mono h hw.2.2⟩
  have h1 := List.all_eq_true.mp hw.2.1 pc (List.mem_range.mpr (sC0_lt (n := n) (f := f) (by rw [← hn]; exact he)))
  rw [he] at h1
  exact sEok_mono h h1
