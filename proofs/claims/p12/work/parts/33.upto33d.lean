/-! some parts, joined -/
section
/-! the start of the law's loop: both objects are made -/
noncomputable def hp0 : sH := [.inr (8, [.ref 1, .ref 9, .ref 12, .ref 13, .ref 14, .ref 15, .ref 16, .ref 17, .ref 18, .int (0), .int (0), .int (0), .int (0), .int (0), .int (0), .int (0), .int (1), .int (-1), .int (0), .int (0)]), .inr (4, [.ref 2, .int (5), .int (5), .int (3), .int (0), .long (0), .int (0)]), .inl (4, [.ref 3, .ref 4, .ref 5, .ref 6, .ref 7, .ref 8]), .inl (0, [.int (0), .int (0), .int (0), .int (0), .int (0), .int (0)]), .inl (0, [.int (0), .int (0), .int (0), .int (0), .int (0), .int (0)]), .inl (0, [.int (0), .int (0), .int (0), .int (0), .int (0), .int (0)]), .inl (0, [.int (0), .int (0), .int (0), .int (0), .int (0), .int (0)]), .inl (0, [.int (0), .int (0), .int (0), .int (0), .int (0), .int (0)]), .inl (0, [.int (0), .int (0), .int (0), .int (0), .int (0), .int (0)]), .inr (7, [.ref 10, .ref 11, .int (0), .int (0), .int (0), .int (0), .int (0), .int (0), .long (0)]), .inl (2, [.long (0), .long (0), .long (0), .long (0), .long (0), .long (0), .long (0), .long (0), .long (0), .long (0), .long (0), .long (0), .long (0), .long (0), .long (0), .long (0), .long (0), .long (0), .long (0), .long (0), .long (0), .long (0), .long (0), .long (0), .long (0), .long (0), .long (0), .long (0), .long (0), .long (0), .long (0), .long (0), .long (0), .long (0), .long (0), .long (0), .long (0), .long (0), .long (0), .long (0), .long (0), .long (0), .long (0), .long (0), .long (0), .long (0), .long (0), .long (0), .long (0), .long (0), .long (0), .long (0), .long (0), .long (0), .long (0), .long (0), .long (0), .long (0), .long (0), .long (0), .long (0), .long (0), .long (0), .long (0), .long (0), .long (0), .long (0), .long (0), .long (0), .long (0), .long (0), .long (0), .long (0), .long (0), .long (0), .long (0), .long (0), .long (0), .long (0), .long (0), .long (0), .long (0), .long (0), .long (0), .long (0), .long (0), .long (0), .long (0), .long (0), .long (0), .long (0), .long (0), .long (0), .long (0), .long (0), .long (0), .long (0), .long (0), .long (0), .long (0), .long (0), .long (0), .long (0), .long (0), .long (0), .long (0), .long (0), .long (0), .long (0), .long (0), .long (0), .long (0), .long (0), .long (0), .long (0), .long (0), .long (0), .long (0), .long (0), .long (0), .long (0), .long (0), .long (0), .long (0), .long (0), .long (0), .long (0), .long (0), .long (0), .long (0), .long (0), .long (0), .long (0), .long (0), .long (0), .long (0), .long (0), .long (0), .long (0), .long (0), .long (0), .long (0), .long (0), .long (0), .long (0), .long (0), .long (0), .long (0), .long (0), .long (0), .long (0), .long (0), .long (0), .long (0), .long (0), .long (0), .long (0), .long (0), .long (0), .long (0), .long (0), .long (0), .long (0), .long (0), .long (0), .long (0), .long (0), .long (0), .long (0), .long (0), .long (0), .long (0), .long (0), .long (0), .long (0), .long (0), .long (0), .long (0), .long (0), .long (0)]), .inl (2, [.long (0), .long (0), .long (0), .long (0), .long (0), .long (0), .long (0), .long (0), .long (0), .long (0)]), .inl (8, [.ref 19, .ref 20, .ref 21, .ref 22, .ref 23, .ref 24, .ref 25, .ref 26, .ref 27, .ref 28, .ref 29, .ref 30, .ref 31, .ref 32, .ref 33, .ref 34]), .inl (6, [.ref 35, .ref 36, .ref 37, .ref 38, .ref 39, .ref 40, .ref 41, .ref 42, .ref 43, .ref 44]), .inl (11, [.ref 45, .ref 46, .ref 47, .ref 48, .ref 49, .ref 50, .ref 51, .ref 52, .ref 53, .ref 54, .ref 55, .ref 56]), .inl (2, [.long (0), .long (0), .long (0), .long (0)]), .inl (10, [.ref 57, .ref 58, .ref 59, .ref 60, .ref 61, .ref 62, .ref 63, .ref 64]), .inl (7, [.ref 65, .ref 66, .ref 67, .ref 68, .ref 69, .ref 70, .ref 71, .ref 72]), .inl (5, [.ref 73, .ref 74, .ref 75, .ref 76, .ref 77, .ref 78, .ref 79, .ref 80, .ref 81, .ref 82, .ref 83, .ref 84]), .inr (3, [.long (0), .int (0), .int (0), .int (0), .int (-1), .int (0)]), .inr (3, [.long (0), .int (0), .int (0), .int (0), .int (-1), .int (0)]), .inr (3, [.long (0), .int (0), .int (0), .int (0), .int (-1), .int (0)]), .inr (3, [.long (0), .int (0), .int (0), .int (0), .int (-1), .int (0)]), .inr (3, [.long (0), .int (0), .int (0), .int (0), .int (-1), .int (0)]), .inr (3, [.long (0), .int (0), .int (0), .int (0), .int (-1), .int (0)]), .inr (3, [.long (0), .int (0), .int (0), .int (0), .int (-1), .int (0)]), .inr (3, [.long (0), .int (0), .int (0), .int (0), .int (-1), .int (0)]), .inr (3, [.long (0), .int (0), .int (0), .int (0), .int (-1), .int (0)]), .inr (3, [.long (0), .int (0), .int (0), .int (0), .int (-1), .int (0)]), .inr (3, [.long (0), .int (0), .int (0), .int (0), .int (-1), .int (0)]), .inr (3, [.long (0), .int (0), .int (0), .int (0), .int (-1), .int (0)]), .inr (3, [.long (0), .int (0), .int (0), .int (0), .int (-1), .int (0)]), .inr (3, [.long (0), .int (0), .int (0), .int (0), .int (-1), .int (0)]), .inr (3, [.long (0), .int (0), .int (0), .int (0), .int (-1), .int (0)]), .inr (3, [.long (0), .int (0), .int (0), .int (0), .int (-1), .int (0)]), .inr (1, [.int (0), .int (0), .int (-1)]), .inr (1, [.int (0), .int (0), .int (-1)]), .inr (1, [.int (0), .int (0), .int (-1)]), .inr (1, [.int (0), .int (0), .int (-1)]), .inr (1, [.int (0), .int (0), .int (-1)]), .inr (1, [.int (0), .int (0), .int (-1)]), .inr (1, [.int (0), .int (0), .int (-1)]), .inr (1, [.int (0), .int (0), .int (-1)]), .inr (1, [.int (0), .int (0), .int (-1)]), .inr (1, [.int (0), .int (0), .int (-1)]), .inr (6, [.int (0), .int (0), .int (0)]), .inr (6, [.int (0), .int (0), .int (0)]), .inr (6, [.int (0), .int (0), .int (0)]), .inr (6, [.int (0), .int (0), .int (0)]), .inr (6, [.int (0), .int (0), .int (0)]), .inr (6, [.int (0), .int (0), .int (0)]), .inr (6, [.int (0), .int (0), .int (0)]), .inr (6, [.int (0), .int (0), .int (0)]), .inr (6, [.int (0), .int (0), .int (0)]), .inr (6, [.int (0), .int (0), .int (0)]), .inr (6, [.int (0), .int (0), .int (0)]), .inr (6, [.int (0), .int (0), .int (0)]), .inr (5, [.int (0), .int (-1), .int (-1), .int (0)]), .inr (5, [.int (0), .int (-1), .int (-1), .int (0)]), .inr (5, [.int (0), .int (-1), .int (-1), .int (0)]), .inr (5, [.int (0), .int (-1), .int (-1), .int (0)]), .inr (5, [.int (0), .int (-1), .int (-1), .int (0)]), .inr (5, [.int (0), .int (-1), .int (-1), .int (0)]), .inr (5, [.int (0), .int (-1), .int (-1), .int (0)]), .inr (5, [.int (0), .int (-1), .int (-1), .int (0)]), .inr (2, [.int (0), .int (0), .int (0), .int (0), .int (0)]), .inr (2, [.int (0), .int (0), .int (0), .int (0), .int (0)]), .inr (2, [.int (0), .int (0), .int (0), .int (0), .int (0)]), .inr (2, [.int (0), .int (0), .int (0), .int (0), .int (0)]), .inr (2, [.int (0), .int (0), .int (0), .int (0), .int (0)]), .inr (2, [.int (0), .int (0), .int (0), .int (0), .int (0)]), .inr (2, [.int (0), .int (0), .int (0), .int (0), .int (0)]), .inr (2, [.int (0), .int (0), .int (0), .int (0), .int (0)]), .inr (0, [.int (0), .int (0), .int (0), .int (0), .int (0)]), .inr (0, [.int (0), .int (0), .int (0), .int (0), .int (0)]), .inr (0, [.int (0), .int (0), .int (0), .int (0), .int (0)]), .inr (0, [.int (0), .int (0), .int (0), .int (0), .int (0)]), .inr (0, [.int (0), .int (0), .int (0), .int (0), .int (0)]), .inr (0, [.int (0), .int (0), .int (0), .int (0), .int (0)]), .inr (0, [.int (0), .int (0), .int (0), .int (0), .int (0)]), .inr (0, [.int (0), .int (0), .int (0), .int (0), .int (0)]), .inr (0, [.int (0), .int (0), .int (0), .int (0), .int (0)]), .inr (0, [.int (0), .int (0), .int (0), .int (0), .int (0)]), .inr (0, [.int (0), .int (0), .int (0), .int (0), .int (0)]), .inr (0, [.int (0), .int (0), .int (0), .int (0), .int (0)]), .inr (9, [.ref 86, .ref 87, .ref 88, .ref 89, .ref 90, .ref 91, .ref 92, .ref 93, .ref 94, .ref 95, .ref 96, .ref 97, .ref 98, .ref 99, .ref 100, .ref 101, .ref 102, .ref 103, .ref 104, .ref 105, .ref 106, .ref 107, .ref 108, .ref 109, .ref 110, .ref 111, .ref 112, .ref 113, .ref 114, .ref 115, .ref 116, .int (5), .int (5), .int (3), .int (0), .int (0), .int (0), .int (0), .int (0), .int (0), .int (0), .int (0), .int (0), .int (0), .int (-1), .int (0), .int (0), .int (1)]), .inl (0, [.int (0), .int (0), .int (0), .int (0), .int (0), .int (0), .int (0), .int (0), .int (0), .int (0), .int (0), .int (0), .int (0), .int (0), .int (0), .int (0), .int (0), .int (0), .int (0), .int (0), .int (0), .int (0), .int (0), .int (0), .int (0), .int (0), .int (0), .int (0), .int (0), .int (0), .int (0), .int (0), .int (0), .int (0), .int (0), .int (0), .int (0), .int (0), .int (0), .int (0), .int (0), .int (0), .int (0), .int (0), .int (0), .int (0), .int (0), .int (0), .int (0), .int (0), .int (0), .int (0), .int (0), .int (0), .int (0), .int (0), .int (0), .int (0), .int (0), .int (0), .int (0), .int (0), .int (0), .int (0), .int (0), .int (0), .int (0), .int (0), .int (0), .int (0), .int (0), .int (0), .int (0), .int (0), .int (0), .int (0), .int (0), .int (0), .int (0), .int (0), .int (0), .int (0), .int (0), .int (0), .int (0), .int (0), .int (0), .int (0), .int (0), .int (0), .int (0), .int (0), .int (0), .int (0), .int (0), .int (0)]), .inl (0, [.int (0), .int (0), .int (0), .int (0), .int (0), .int (0)]), .inl (0, [.int (0), .int (0), .int (0), .int (0), .int (0), .int (0), .int (0), .int (0), .int (0), .int (0), .int (0), .int (0), .int (0), .int (0), .int (0), .int (0)]), .inl (0, [.int (-1), .int (-1), .int (-1), .int (-1), .int (-1), .int (-1), .int (-1), .int (-1), .int (-1), .int (-1), .int (-1), .int (-1), .int (-1), .int (-1), .int (-1), .int (-1)]), .inl (0, [.int (0), .int (0), .int (0), .int (0), .int (0), .int (0), .int (0), .int (0), .int (0), .int (0), .int (0), .int (0), .int (0), .int (0), .int (0), .int (0)]), .inl (0, [.int (0), .int (0), .int (0), .int (0), .int (0), .int (0)]), .inl (1, [.int (0), .int (0), .int (0), .int (0), .int (0), .int (0), .int (0), .int (0), .int (0), .int (0), .int (0), .int (0), .int (0), .int (0), .int (0), .int (0)]), .inl (1, [.int (0), .int (0), .int (0), .int (0), .int (0), .int (0), .int (0), .int (0)]), .inl (1, [.int (0), .int (0), .int (0), .int (0), .int (0), .int (0), .int (0), .int (0)]), .inl (0, [.int (0), .int (0), .int (0), .int (0), .int (0), .int (0), .int (0), .int (0), .int (0), .int (0), .int (0), .int (0), .int (0), .int (0), .int (0), .int (0)]), .inl (0, [.int (0), .int (1), .int (2), .int (3), .int (4), .int (5), .int (6), .int (7), .int (8), .int (9), .int (10), .int (11), .int (12), .int (13), .int (14), .int (15)]), .inl (0, [.int (0), .int (0), .int (0), .int (0), .int (0), .int (0), .int (0), .int (0), .int (0), .int (0)]), .inl (0, [.int (-1), .int (-1), .int (-1), .int (-1), .int (-1), .int (-1), .int (-1), .int (-1), .int (-1), .int (-1)]), .inl (0, [.int (-1), .int (-1), .int (-1), .int (-1), .int (-1), .int (-1), .int (-1), .int (-1)]), .inl (0, [.int (-1), .int (-1), .int (-1), .int (-1), .int (-1), .int (-1), .int (-1), .int (-1)]), .inl (0, [.int (0), .int (0), .int (0), .int (0), .int (0), .int (0), .int (0), .int (0), .int (0), .int (0), .int (0), .int (0)]), .inl (0, [.int (0), .int (0), .int (0), .int (0), .int (0), .int (0), .int (0), .int (0), .int (0), .int (0), .int (0), .int (0)]), .inl (0, [.int (0), .int (0), .int (0), .int (0), .int (0), .int (0), .int (0), .int (0), .int (0), .int (0), .int (0), .int (0)]), .inl (0, [.int (0), .int (0), .int (0), .int (0)]), .inl (0, [.int (0), .int (0), .int (0), .int (0), .int (0), .int (0), .int (0), .int (0), .int (0), .int (0), .int (0), .int (0), .int (0), .int (0), .int (0), .int (0), .int (0), .int (0), .int (0), .int (0), .int (0), .int (0), .int (0), .int (0)]), .inl (0, [.int (0), .int (0), .int (0), .int (0), .int (0), .int (0)]), .inl (0, [.int (0), .int (0), .int (0), .int (0), .int (0), .int (0), .int (0), .int (0)]), .inl (0, [.int (0), .int (0), .int (0), .int (0), .int (0), .int (0), .int (0), .int (0)]), .inl (0, [.int (0), .int (0), .int (0), .int (0), .int (0), .int (0), .int (0), .int (0)]), .inl (0, [.int (0), .int (0), .int (0), .int (0), .int (0), .int (0), .int (0), .int (0)]), .inl (0, [.int (0), .int (0), .int (0), .int (0), .int (0), .int (0), .int (0), .int (0)]), .inl (0, [.int (0), .int (0), .int (0), .int (0), .int (0), .int (0), .int (0), .int (0), .int (0), .int (0), .int (0), .int (0)]), .inl (0, [.int (0), .int (0), .int (0), .int (0), .int (0), .int (0), .int (0), .int (0), .int (0), .int (0), .int (0), .int (0)]), .inl (0, [.int (0), .int (0), .int (0), .int (0), .int (0), .int (0), .int (0), .int (0), .int (0), .int (0), .int (0), .int (0)]), .inl (0, [.int (0), .int (0), .int (0), .int (0), .int (0), .int (0), .int (0), .int (0), .int (0), .int (0), .int (0), .int (0)]), .inl (0, [.int (0), .int (0), .int (0), .int (0), .int (0), .int (0), .int (0), .int (0), .int (0), .int (0), .int (0), .int (0)]), .inl (2, [.long (0)]), .inl (3, [.double 0])]
noncomputable def lv0 : sL := [(5, .int (0)), (4, .ref 118), (3, .ref 117), (2, .ref 85), (1, .ref 0), (0, .retAddr 0)]
noncomputable def kk0 : sK := (28, lv0, [], hp0, 119, 1108)
/-- the law answers 1 from its loop's start on -/
noncomputable def wLaw (xs : List Int32) : Prop := sWp mtv (sGo1 mtv eFu 30) mL_law (some xs) eFu kk0 (fun r => r.1 = .inl (some (.int 1)))
/-! the way to the loop's start, whatever the script -/
theorem sHp_xs {ys : List Int32} {i : Instr} {a1 a2 pc : Nat} {l : sL} {st : List Value} {h : sH} {q : Nat × sL × List Value × sH} (hq : sHp none i a1 a2 pc l st h = some q) : sHp (some ys) i a1 a2 pc l st h = some q := by
  cases i <;> first | exact hq | skip
  · unfold sHp at hq ⊢
    dsimp only at hq ⊢
    split at hq
    · exact hq
    · cases hq
    · cases hq
  · unfold sHp at hq ⊢
    dsimp only at hq ⊢
    split at hq
    · exact hq
    · cases hq
    · cases hq
theorem sHp_xn {ys : List Int32} {i : Instr} {a1 a2 pc : Nat} {l : sL} {st : List Value} {h : sH} (hq : sHp none i a1 a2 pc l st h = none) : sHp (some ys) i a1 a2 pc l st h = none ∨ i = .arraylength ∨ i = .iaload := by
  cases i <;> first | exact Or.inl hq | exact Or.inr (Or.inl rfl) | exact Or.inr (Or.inr rfl)
theorem sStep_xs {mt : Nat → sM} {call : Nat → List Value → sH → Option sR} {M : sM} {ys : List Int32} {cf : sK} {z : sK ⊕ sR} (h : sStep mt call M none cf = some z) : sStep mt call M (some ys) cf = some z := by
  unfold sStep at h ⊢
  split at h
  · cases h
  next e he =>
  (try rw [he]); (try dsimp only)
  split at h
  · next q hq => (try rw [hq]); exact h
  next hP =>
  (try rw [hP]); (try dsimp only)
  split at h
  · next q hq => rw [sHp_xs hq]; exact h
  next hH =>
  rcases sHp_xn (ys := ys) hH with h1 | h1 | h1
  · rw [h1]; exact h
  · rw [h1] at h
    exfalso
    revert h
    show (if 1000 ≤ e.2.2.1 then (none : Option (sK ⊕ sR)) else none) = some z → False
    intro h
    split at h <;> cases h
  · rw [h1] at h
    exfalso
    revert h
    show (if 1000 ≤ e.2.2.1 then (none : Option (sK ⊕ sR)) else none) = some z → False
    intro h
    split at h <;> cases h
noncomputable def sAdv (mt : Nat → sM) (call : Nat → List Value → sH → Option sR) (M : sM) (n : Nat) : sK → Option sK :=
  Nat.rec (fun cf => some cf) (fun _ ih cf => match sStep mt call M none cf with
    | some (.inl k) => ih k
    | _ => none) n
theorem sAdv_ok {mt : Nat → sM} {call : Nat → List Value → sH → Option sR} {M : sM} {ys : List Int32} : ∀ (n : Nat) (cf cf' : sK) (k : Nat), sAdv mt call M n cf = some cf' → sRun mt call M (some ys) (k + n) cf = sRun mt call M (some ys) k cf'
  | 0, cf, cf', k, h => by cases h; rfl
  | n + 1, cf, cf', k, h => by
    have h : (match sStep mt call M none cf with
      | some (.inl k) => sAdv mt call M n k
      | _ => none) = some cf' := h
    split at h
    · next c hs =>
      rw [← Nat.add_assoc, sRun_s, sStep_xs hs]
      exact sAdv_ok n c cf' k h
    · cases h
noncomputable def vEq (a b : Value) : Bool := match a, b with
  | .int x, .int y => decide (x = y)
  | .long x, .long y => decide (x = y)
  | .float x, .float y => decide (x = y)
  | .double x, .double y => decide (x = y)
  | .ref x, .ref y => decide (x = y)
  | .retAddr x, .retAddr y => decide (x = y)
  | .null, .null => true
  | _, _ => false
theorem vEq_s {a b : Value} (h : vEq a b = true) : a = b := by
  cases a <;> cases b <;> first | rfl | (cases h; done) | (have h := of_decide_eq_true h; rw [h])
noncomputable def lEq {α : Type} (f : α → α → Bool) : List α → List α → Bool
  | [], [] => true
  | a :: l, b :: m => f a b && lEq f l m
  | _, _ => false
theorem lEq_s {α : Type} {f : α → α → Bool} (hf : ∀ a b, f a b = true → a = b) : ∀ (l m : List α), lEq f l m = true → l = m
  | [], [], _ => rfl
  | a :: l, b :: m, h => by
    have h : (f a b && lEq f l m) = true := h
    rw [Bool.and_eq_true] at h
    rw [hf _ _ h.1, lEq_s hf _ _ h.2]
  | [], _ :: _, h => nomatch h
  | _ :: _, [], h => nomatch h
noncomputable def cEq (a b : sC) : Bool := match a, b with
  | .inl p, .inl q => Nat.beq p.1 q.1 && lEq vEq p.2 q.2
  | .inr p, .inr q => Nat.beq p.1 q.1 && lEq vEq p.2 q.2
  | _, _ => false
theorem cEq_s {a b : sC} (h : cEq a b = true) : a = b := by
  rcases a with ⟨n, l⟩ | ⟨n, l⟩ <;> rcases b with ⟨m, k⟩ | ⟨m, k⟩
  · have h : (Nat.beq n m && lEq vEq l k) = true := h
    rw [Bool.and_eq_true] at h
    rw [Nat.eq_of_beq_eq_true h.1, lEq_s (fun _ _ => vEq_s) _ _ h.2]
  · cases h
  · cases h
  · have h : (Nat.beq n m && lEq vEq l k) = true := h
    rw [Bool.and_eq_true] at h
    rw [Nat.eq_of_beq_eq_true h.1, lEq_s (fun _ _ => vEq_s) _ _ h.2]
noncomputable def qEq (a b : Nat × Value) : Bool := Nat.beq a.1 b.1 && vEq a.2 b.2
theorem qEq_s {a b : Nat × Value} (h : qEq a b = true) : a = b := by
  rcases a with ⟨n, v⟩
  rcases b with ⟨m, w⟩
  have h : (Nat.beq n m && vEq v w) = true := h
  rw [Bool.and_eq_true] at h
  rw [Nat.eq_of_beq_eq_true h.1, vEq_s h.2]
noncomputable def kEq (a b : sK) : Bool := Nat.beq a.1 b.1 && (lEq qEq a.2.1 b.2.1 && (lEq vEq a.2.2.1 b.2.2.1 && (lEq cEq a.2.2.2.1 b.2.2.2.1 && (Nat.beq a.2.2.2.2.1 b.2.2.2.2.1 && Nat.beq a.2.2.2.2.2 b.2.2.2.2.2))))
theorem kEq_s {a b : sK} (h : kEq a b = true) : a = b := by
  rcases a with ⟨a1, a2, a3, a4, a5, a6⟩
  rcases b with ⟨b1, b2, b3, b4, b5, b6⟩
  have h : (Nat.beq a1 b1 && (lEq qEq a2 b2 && (lEq vEq a3 b3 && (lEq cEq a4 b4 && (Nat.beq a5 b5 && Nat.beq a6 b6))))) = true := h
  simp only [Bool.and_eq_true] at h
  rw [Nat.eq_of_beq_eq_true h.1, lEq_s (fun _ _ => qEq_s) _ _ h.2.1, lEq_s (fun _ _ => vEq_s) _ _ h.2.2.1, lEq_s (fun _ _ => cEq_s) _ _ h.2.2.2.1, Nat.eq_of_beq_eq_true h.2.2.2.2.1, Nat.eq_of_beq_eq_true h.2.2.2.2.2]
set_option maxRecDepth 100000 in
theorem kk0_b : (match sAdv mtv (sGo1 mtv eFu 30) mL_law 16 (0, [(0, .retAddr 0)], [], [], 0, 0) with
    | some c => kEq c kk0
    | none => false) = true := by decide +kernel
theorem kk0_ok : sAdv mtv (sGo1 mtv eFu 30) mL_law 16 (0, [(0, .retAddr 0)], [], [], 0, 0) = some kk0 := by
  have h := kk0_b
  split at h
  · next c hc => rw [hc, kEq_s h]
  · cases h
theorem wLaw_run {ys : List Int32} (h : wLaw ys) : ∃ h', sRun mtv (sGo1 mtv eFu 30) mL_law (some ys) (eFu + 16) (0, [(0, .retAddr 0)], [], [], 0, 0) = some (.inl (some (.int 1)), h') := by
  obtain ⟨r, hr, k⟩ := h
  have k0 := k 0
  rw [Nat.zero_add] at k0
  refine ⟨r.2, ?_⟩
  rw [sAdv_ok 16 _ _ _ kk0_ok, k0]
  rcases r with ⟨a, b⟩
  cases hr
  rfl
end
section
/-! 33a: the law's loop, what holds at its beginning -/
noncomputable def eLwS : List (Option eF) := [some (.inr (.inr 9)), some (eRr 0 0), some (eRr 85 85), some (eRr 117 117), some (eRr 118 118), some (.inl (0, 2560)), none, none, none]
noncomputable def eRqc (c : Int) : List ((Nat × Nat) × Int × Int) := [((85, 31), c, c), ((85, 34), 0, c)]
noncomputable def eRq0 : List ((Nat × Nat) × Int × Int) := [((85, 31), 3, 6), ((85, 34), 0, 3)]
noncomputable def eCuL (rq : List ((Nat × Nat) × Int × Int)) : eCu := (28, eLwS, rq, 100, 1000, [(5, -1)], 2560)
noncomputable def eCsL : List eCu := [eCuL (eRqc 3), eCuL (eRqc 4), eCuL (eRqc 5), eCuL (eRqc 6), eCuL eRq0]
noncomputable def eLv0 : eLv := [some (eK 9), some (.inr (.inl (0, 0))), some (.inr (.inl (85, 85))), some (.inr (.inl (117, 117))), some (.inr (.inl (118, 118))), some (.inl (1, 0)), none, none, none]
noncomputable def mLw : sM := (yL_law, code, 9, some .boolean, 1, 100, 1000, [], xL_law)
noncomputable def eWl0 : eW := (2, ([(1, 0, 2555), (0, 0, 0)], []), [])
noncomputable def eSeg (G : List eC) (md : eMd) (T : Nat) : Bool := eAll (fun c => eRun G mtv md 2560 (some ([(1, -1)], 2560)) 1000 true 29 mLw eCsL (T, eLv0, [], eMq (eRqc c) eWl0) 0 0 (fun _ _ => false)) [3, 4, 5, 6]
noncomputable def eLaw (i : Int32) (lc : sL) : Prop := (∃ b, sLk 0 lc = some (.retAddr b)) ∧ sLk 1 lc = some (.ref 0) ∧ sLk 2 lc = some (.ref 85) ∧ sLk 3 lc = some (.ref 117) ∧ sLk 4 lc = some (.ref 118) ∧ sLk 5 lc = some (.int i)
noncomputable def eLI (R : sH → Prop) (h : sH) : Prop := eInv h ∧ eSz h ∧ R h
theorem eSz_c {h : sH} (hI : eInv h) (hz : eSz h) : ∃ c ∈ ([3, 4, 5, 6] : List Int), eRqm (eRqc c) h := by
  obtain ⟨x, y, h2, h3, h4⟩ := hz
  obtain ⟨-, -, vs', e85, -, hv⟩ := eInv_o (q := (85, 85)) (c := 9) (a := 85) hI rfl (Nat.le_refl _) (Nat.le_refl _)
  have k2 := h2
  have k3 := h3
  rw [eGet_c e85] at h2 h3
  obtain ⟨v, g1, u, rfl, g2, g3⟩ := hv 31 (.inl (3, 6)) rfl
  rw [show (eVs (.inr (9, vs')))[31]? = vs'[31]? from rfl, g1] at h3
  cases h3
  obtain ⟨v, g4, w, rfl, g5, g6⟩ := hv 34 (.inl (0, 6)) rfl
  rw [show (eVs (.inr (9, vs')))[34]? = vs'[34]? from rfl, g4] at h2
  cases h2
  dsimp only at g2 g3 g5 g6
  refine ⟨y.toInt, ?_, fun z hz => ?_⟩
  · rcases (show y.toInt = 3 ∨ y.toInt = 4 ∨ y.toInt = 5 ∨ y.toInt = 6 by omega) with e | e | e | e <;> rw [e] <;> decide
  · have hz : z ∈ [((85, 31), y.toInt, y.toInt), ((85, 34), 0, y.toInt)] := hz
    cases hz with
    | head => exact ⟨y, (show 85 < 119 by decide), k3, Int.le_refl _, Int.le_refl _⟩
    | tail _ hz =>
      rw [List.mem_singleton.mp hz]
      exact ⟨x, (show 85 < 119 by decide), k2, g5, h4⟩
theorem eRefL {L a : Nat} {v : Value} (h : eFm L (eRr a a) v) : v = .ref a := by
  obtain ⟨j, rfl, h1, h2⟩ := eRe_s (a := a) (b := a) h
  rw [Nat.le_antisymm h2 h1]
theorem eRqc_sz {h : sH} {a b c d : Int} (hd : d ≤ a) (hq : eRqm [((85, 31), a, b), ((85, 34), c, d)] h) : eSz h := by
  obtain ⟨y, h1, h2, h3, h4⟩ := hq ((85, 31), a, b) List.mem_cons_self
  obtain ⟨x, g1, g2, g3, g4⟩ := hq ((85, 34), c, d) (List.mem_cons_of_mem _ List.mem_cons_self)
  dsimp only at h1 h2 h3 h4 g1 g2 g3 g4
  exact ⟨x, y, g2, h2, by omega⟩
set_option maxHeartbeats 4000000 in
theorem eSeg_s {G : List eC} {md : eMd} {T : Nat} {ys : List Int32} {R : sH → Prop} {i : Int32} {lc : sL} {h : sH} {cl sl B : Nat} {Q : sR → Prop} (hseg : eSeg G md T = true) (hG : ∀ C ∈ G, eCo mtv eFu C) (hR : ∀ h', eMod md h h' → R h → R h')
    (hls : eLaw i lc) (hi : 0 ≤ i.toInt) (hi4 : i.toInt + 4 < ys.length) (hL : ys.length ≤ 2560) (hI : eLI R h) (hcl : cl + 100 ≤ mC mL_law) (hsl : sl + 1000 ≤ mS mL_law)
    (next : ∀ (i' : Int32) (lc' : sL) (h' : sH) (cl' sl' : Nat), eLaw i' lc' → i.toInt < i'.toInt → i'.toInt ≤ 2560 → eLI R h' → cl' ≤ cl + 100 → sl' ≤ sl + 1000 → sWp mtv (sGo1 mtv eFu 30) mL_law (some ys) B (28, lc', [], h', cl', sl') Q) :
    sWp mtv (sGo1 mtv eFu 30) mL_law (some ys) (1000 + B) (T, lc, [], h, cl, sl) Q := by
  obtain ⟨c, hc, hrq⟩ := eSz_c hI.1 hI.2.1
  have hrun := eAll_s hseg c hc
  have hw0 : eWm true (some ys) md h (fun k => if k = 1 then i.toInt else 0) eWl0 h := by
    refine ⟨⟨by decide, rfl, ⟨fun q hq => ?_, fun _ h => nomatch h⟩, fun _ => ⟨ys, rfl, by decide, ?_, ?_⟩⟩, fun _ h => (nomatch h), hI.1, eMod_rf, Nat.le_refl _⟩
    · have hq : q ∈ [(1, 0, 2555), (0, 0, 0)] := hq
      cases hq with
      | head => exact ⟨by decide, by show (0 : Int) ≤ (if (1 : Nat) = 1 then i.toInt else 0); rw [if_pos rfl]; exact hi, by show (if (1 : Nat) = 1 then i.toInt else 0) ≤ 2555; rw [if_pos rfl]; omega⟩
      | tail _ hq =>
        rw [List.mem_singleton.mp hq]
        exact ⟨by decide, Int.le_refl _, Int.le_refl _⟩
    · show (0 : Int) ≤ (if (1 : Nat) = 1 then i.toInt else 0); rw [if_pos rfl]; exact hi
    · show (if (1 : Nat) = 1 then i.toInt else 0) + 4 < (ys.length : Int); rw [if_pos rfl]; exact hi4
  obtain ⟨ρ, hx, hw⟩ := eMq_s hw0 hrq
  have r1 : ρ 1 = i.toInt := by
    rw [hx.2 1 (by decide)]
    exact if_pos rfl
  have n1 : 1 < (eMq (eRqc c) eWl0).1 := Nat.lt_of_lt_of_le (by decide) hx.1
  obtain ⟨⟨b0, k0⟩, k1, k2, k3, k4, k5⟩ := hls
  have hl : eLm (eMq (eRqc c) eWl0).1 ρ h.length eLv0 lc := by
    intro j a hj
    rcases (show j = 0 ∨ j = 1 ∨ j = 2 ∨ j = 3 ∨ j = 4 ∨ j = 5 ∨ 6 ≤ j by omega) with rfl | rfl | rfl | rfl | rfl | rfl | hj6
    · cases hj; exact ⟨_, k0, rfl⟩
    · cases hj; exact ⟨_, k1, Or.inl ⟨0, 0, rfl, Nat.le_refl _, Nat.le_refl _⟩⟩
    · cases hj; exact ⟨_, k2, Or.inl ⟨85, 85, rfl, Nat.le_refl _, Nat.le_refl _⟩⟩
    · cases hj; exact ⟨_, k3, Or.inl ⟨117, 117, rfl, Nat.le_refl _, Nat.le_refl _⟩⟩
    · cases hj; exact ⟨_, k4, Or.inl ⟨118, 118, rfl, Nat.le_refl _, Nat.le_refl _⟩⟩
    · cases hj; exact ⟨_, k5, i, rfl, n1, by show ρ 1 + 0 = _; rw [r1]; exact Int.add_zero _⟩
    · exfalso
      rcases (show j = 6 ∨ j = 7 ∨ j = 8 ∨ 9 ≤ j by omega) with rfl | rfl | rfl | hj9
      · cases hj
      · cases hj
      · cases hj
      · have : eLv0[j]? = none := List.getElem?_eq_none (by show 9 ≤ j; exact hj9)
        rw [this] at hj; cases hj
  refine eRun_s (mx := 2560) (mu := some ([(1, -1)], 2560)) (Bc := B) (h0 := h) (m0 := 2560 - i.toInt) (Q := Q) hG 1000 true 29 mLw eCsL (T, eLv0, [], eMq (eRqc c) eWl0) 0 0 (fun _ _ => false) (some ys) ρ lc [] h cl sl (D := 30) (Mc := mL_law) (oC := cl) (oS := sl) ⟨rfl, rfl, rfl, rfl, hcl, hsl⟩ hrun (Nat.le_of_ble_eq_true rfl) (by decide) hw hl True.intro (by omega) (by omega) ?_ ?_ ?_
  · intro y hy
    cases hy
    refine ⟨fun z hz => ?_, ?_⟩
    · rw [List.mem_singleton.mp hz]; exact n1
    · show -1 * ρ 1 + 0 + 2560 = _
      rw [r1]; omega
  · intro res W' ρ' h' rc hf
    cases hf
  · intro C lc' h' cl' sl' m hC hm hlt
    have hlt := hlt (fun e => by cases e)
    obtain ⟨m1, m2, m3, m4, m5, m6, m7, m8, m9, m10⟩ := hm
    have hCe : C.1 = 28 ∧ C.2.1 = eLwS ∧ C.2.2.2.1 = 100 ∧ C.2.2.2.2.1 = 1000 ∧ C.2.2.2.2.2.1 = [(5, -1)] ∧ C.2.2.2.2.2.2 = 2560 ∧ eSz h' := by
      have hC : C ∈ [eCuL (eRqc 3), eCuL (eRqc 4), eCuL (eRqc 5), eCuL (eRqc 6), eCuL eRq0] := hC
      simp only [List.mem_cons, List.not_mem_nil, or_false] at hC
      rcases hC with rfl | rfl | rfl | rfl | rfl
      · exact ⟨rfl, rfl, rfl, rfl, rfl, rfl, eRqc_sz (a := 3) (b := 3) (c := 0) (d := 3) (Int.le_refl _) m2⟩
      · exact ⟨rfl, rfl, rfl, rfl, rfl, rfl, eRqc_sz (a := 4) (b := 4) (c := 0) (d := 4) (Int.le_refl _) m2⟩
      · exact ⟨rfl, rfl, rfl, rfl, rfl, rfl, eRqc_sz (a := 5) (b := 5) (c := 0) (d := 5) (Int.le_refl _) m2⟩
      · exact ⟨rfl, rfl, rfl, rfl, rfl, rfl, eRqc_sz (a := 6) (b := 6) (c := 0) (d := 6) (Int.le_refl _) m2⟩
      · exact ⟨rfl, rfl, rfl, rfl, rfl, rfl, eRqc_sz (a := 3) (b := 6) (c := 0) (d := 3) (Int.le_refl _) m2⟩
    obtain ⟨c1, c2, c3, c4, c5, c6, c7⟩ := hCe
    rw [c2] at m1
    rw [c5, c6] at m8
    rw [c3] at m6
    rw [c4] at m7
    rw [c1]
    obtain ⟨x, m', s1, s2, s3⟩ := m8
    have s2 : m' = 2560 := s2
    dsimp only at s1 s3
    obtain ⟨v0, a0, f0⟩ := m1 0 _ rfl
    obtain ⟨v1, a1, f1⟩ := m1 1 _ rfl
    obtain ⟨v2, a2, f2⟩ := m1 2 _ rfl
    obtain ⟨v3, a3, f3⟩ := m1 3 _ rfl
    obtain ⟨v4, a4, f4⟩ := m1 4 _ rfl
    obtain rfl := eRefL f1
    obtain rfl := eRefL f2
    obtain rfl := eRefL f3
    obtain rfl := eRefL f4
    have g0 : ∃ b, v0 = .retAddr b := by
      rcases eRf_s (k := 9) f0 (by decide) (Nat.le_refl _) with ⟨e, -⟩ | ⟨-, j, e⟩
      · cases e
      · exact ⟨j, e⟩
    obtain ⟨b, rfl⟩ := g0
    have e9 : -1 * x.toInt = - x.toInt := by omega
    have s3 : m = m' + -1 * x.toInt := s3
    exact next x lc' h' cl' sl' ⟨⟨b, a0⟩, a1, a2, a3, a4, s1⟩ (by omega) (by omega) ⟨m3, c7, hR h' m4 hI.2.2⟩ (by omega) (by omega)
end
section
/-! the law's loop (printed by a program of mine) -/
noncomputable def eMdL : eMd := [(2, 12, 99), (14, 14, 99), (16, 18, 99), (91, 91, 99), (106, 106, 99), (117, 118, 99), (0, 0, 0), (0, 0, 1), (0, 0, 2), (0, 0, 3), (0, 0, 4), (0, 0, 5), (0, 0, 6), (0, 0, 7), (0, 0, 8), (1, 1, 0), (85, 85, 0), (85, 85, 1), (85, 85, 2), (85, 85, 3), (85, 85, 4), (85, 85, 5), (85, 85, 6), (85, 85, 7), (85, 85, 8), (85, 85, 9), (85, 85, 10), (85, 85, 11), (85, 85, 12), (85, 85, 13), (85, 85, 14), (85, 85, 15), (85, 85, 16), (85, 85, 17), (85, 85, 18), (85, 85, 19), (85, 85, 20), (85, 85, 21), (85, 85, 22), (85, 85, 23), (85, 85, 24), (85, 85, 25), (85, 85, 26), (85, 85, 27), (85, 85, 28), (85, 85, 29), (85, 85, 30), (85, 85, 42)]
noncomputable def lawT (n : Nat) : Nat := ([304, 356, 384, 397, 413, 453, 469, 537, 577, 617, 657, 713, 741, 769, 797, 810, 838, 866, 894, 934, 975, 1003, 1016, 1080, 1120, 1184, 1248, 1316, 1329, 1345, 1385, 1425, 1465, 1493, 1545, 1573, 1625, 1665, 1705, 1761, 1801, 1817, 1869, 1897, 1925, 1938, 1966, 2006, 2046, 2074, 2142, 2198, 2226, 2266, 2306, 2334, 2362, 2390, 2403, 2420, 2437].getD n 2450)
theorem law_head {i : Int32} {lc : sL} {h : sH} {ys : List Int32} {cl sl B : Nat} {Q : sR → Prop} (hls : eLaw i lc) (hi : 0 ≤ i.toInt) (hL : ys.length ≤ 2560) (hend : Q (.inl (some (.int 1)), h))
    (cases : i.toInt + 4 < ys.length → ∀ n : Nat, n < 64 → ∀ T : Nat, T = lawT n → (ys.getD i.toNatClampNeg 0) &&& 63 = Int32.ofNat n → sWp mtv (sGo1 mtv eFu 30) mL_law (some ys) B (T, lc, [], h, cl, sl) Q) : sWp mtv (sGo1 mtv eFu 30) mL_law (some ys) (B + 20) (28, lc, [], h, cl, sl) Q := by
  obtain ⟨⟨b0, k0⟩, k1, k2, k3, k4, k5⟩ := hls
  have hL31 : ys.length < 2 ^ 31 := by omega
  have eL : (Int32.ofNat ys.length).toInt = (ys.length : Int) := Int32.toInt_ofNat_of_lt hL31
  have e5 : (Int32.ofNat ys.length - Int32.ofInt 5).toInt = (ys.length : Int) - 5 := by
    have h5 : (Int32.ofInt 5).toInt = 5 := rfl
    rw [i32_sub (by rw [eL, h5]; omega) (by rw [eL, h5]; omega), eL, h5]
  refine wp_iload (show mE mL_law 28 = some (.iload 5, 2, 0, 0) from rfl) k5 ?_
  refine wp_aload_ns (show mE mL_law 30 = some (.aload_n 0, 1, 0, 0) from rfl) k0 ?_
  refine wp_slen (show mE mL_law 31 = some (.arraylength, 1, 0, 0) from rfl) rfl ?_
  refine wp_iconst (show mE mL_law 32 = some (.iconst 5, 1, 0, 0) from rfl) ?_
  refine wp_isub (show mE mL_law 33 = some (.isub, 1, 0, 0) from rfl) ?_
  by_cases hg : Int32.ofNat ys.length - Int32.ofInt 5 < i
  · refine wp_ict (t := 2456) (show mE mL_law 34 = some (.if_icmp .gt 2422, 3, 0, 0) from rfl) (decide_eq_true hg) (by rfl) ?_
    refine wp_iconst (show mE mL_law 2456 = some (.iconst 1, 1, 0, 0) from rfl) ?_
    exact wp_le (B := (B + 12) + 1) (by omega) (wp_ireturn (show mE mL_law 2457 = some (.ireturn, 1, 0, 0) from rfl) rfl rfl hend)
  · refine wp_icf (t := 2456) (show mE mL_law 34 = some (.if_icmp .gt 2422, 3, 0, 0) from rfl) (decide_eq_false hg) (by rfl) ?_
    have hlt : i.toInt + 4 < ys.length := by
      have := Int.not_lt.mp (fun e => hg (Int32.lt_iff_toInt_lt.mpr e))
      rw [e5] at this
      omega
    have hin : sIn i ys.length = true := by
      unfold sIn
      rw [Bool.not_eq_true', Bool.or_eq_false_iff, decide_eq_false_iff_not, decide_eq_false_iff_not]
      exact ⟨fun e => by have := Int32.lt_iff_toInt_lt.mp e; have h0 : (0 : Int32).toInt = 0 := rfl; omega, by show ¬ ys.length ≤ i.toInt.toNat; omega⟩
    refine wp_aload_ns (show mE mL_law 37 = some (.aload_n 0, 1, 0, 0) from rfl) k0 ?_
    refine wp_iload (show mE mL_law 38 = some (.iload 5, 2, 0, 0) from rfl) k5 ?_
    refine wp_sload (show mE mL_law 40 = some (.iaload, 1, 0, 0) from rfl) hin rfl ?_
    refine wp_bipush (show mE mL_law 41 = some (.bipush 63, 2, 0, 0) from rfl) ?_
    refine wp_iand (show mE mL_law 43 = some (.iand, 1, 0, 0) from rfl) ?_
    have hb := i32_and (x := ys.getD i.toNatClampNeg 0) (y := (Int8.ofInt 63).toInt32) (by decide)
    obtain ⟨n, hn, he⟩ := i32_nat (m := 63) hb.1 hb.2
    have cs := fun T hT => cases hlt n (by omega) T hT he
    rcases (show n = 0 ∨ n = 1 ∨ n = 2 ∨ n = 3 ∨ n = 4 ∨ n = 5 ∨ n = 6 ∨ n = 7 ∨ n = 8 ∨ n = 9 ∨ n = 10 ∨ n = 11 ∨ n = 12 ∨ n = 13 ∨ n = 14 ∨ n = 15 ∨ n = 16 ∨ n = 17 ∨ n = 18 ∨ n = 19 ∨ n = 20 ∨ n = 21 ∨ n = 22 ∨ n = 23 ∨ n = 24 ∨ n = 25 ∨ n = 26 ∨ n = 27 ∨ n = 28 ∨ n = 29 ∨ n = 30 ∨ n = 31 ∨ n = 32 ∨ n = 33 ∨ n = 34 ∨ n = 35 ∨ n = 36 ∨ n = 37 ∨ n = 38 ∨ n = 39 ∨ n = 40 ∨ n = 41 ∨ n = 42 ∨ n = 43 ∨ n = 44 ∨ n = 45 ∨ n = 46 ∨ n = 47 ∨ n = 48 ∨ n = 49 ∨ n = 50 ∨ n = 51 ∨ n = 52 ∨ n = 53 ∨ n = 54 ∨ n = 55 ∨ n = 56 ∨ n = 57 ∨ n = 58 ∨ n = 59 ∨ n = 60 ∨ n = 61 ∨ n = 62 ∨ n = 63 by omega) with rfl | rfl | rfl | rfl | rfl | rfl | rfl | rfl | rfl | rfl | rfl | rfl | rfl | rfl | rfl | rfl | rfl | rfl | rfl | rfl | rfl | rfl | rfl | rfl | rfl | rfl | rfl | rfl | rfl | rfl | rfl | rfl | rfl | rfl | rfl | rfl | rfl | rfl | rfl | rfl | rfl | rfl | rfl | rfl | rfl | rfl | rfl | rfl | rfl | rfl | rfl | rfl | rfl | rfl | rfl | rfl | rfl | rfl | rfl | rfl | rfl | rfl | rfl | rfl
    · exact wp_le (B := B + 1) (by omega) (wp_switch (t := 304) (show mE mL_law 44 = some (.tableswitch 2406 0 60 #[260, 312, 340, 353, 369, 409, 425, 493, 533, 573, 613, 669, 697, 725, 753, 766, 794, 822, 850, 890, 931, 959, 972, 1036, 1076, 1140, 1204, 1272, 1285, 1301, 1341, 1381, 1421, 1449, 1501, 1529, 1581, 1621, 1661, 1717, 1757, 1773, 1825, 1853, 1881, 1894, 1922, 1962, 2002, 2030, 2098, 2154, 2182, 2222, 2262, 2290, 2318, 2346, 2359, 2376, 2393], 260, 0, 0) from rfl) he (by rfl) (cs _ rfl))
    · exact wp_le (B := B + 1) (by omega) (wp_switch (t := 356) (show mE mL_law 44 = some (.tableswitch 2406 0 60 #[260, 312, 340, 353, 369, 409, 425, 493, 533, 573, 613, 669, 697, 725, 753, 766, 794, 822, 850, 890, 931, 959, 972, 1036, 1076, 1140, 1204, 1272, 1285, 1301, 1341, 1381, 1421, 1449, 1501, 1529, 1581, 1621, 1661, 1717, 1757, 1773, 1825, 1853, 1881, 1894, 1922, 1962, 2002, 2030, 2098, 2154, 2182, 2222, 2262, 2290, 2318, 2346, 2359, 2376, 2393], 260, 0, 0) from rfl) he (by rfl) (cs _ rfl))
    · exact wp_le (B := B + 1) (by omega) (wp_switch (t := 384) (show mE mL_law 44 = some (.tableswitch 2406 0 60 #[260, 312, 340, 353, 369, 409, 425, 493, 533, 573, 613, 669, 697, 725, 753, 766, 794, 822, 850, 890, 931, 959, 972, 1036, 1076, 1140, 1204, 1272, 1285, 1301, 1341, 1381, 1421, 1449, 1501, 1529, 1581, 1621, 1661, 1717, 1757, 1773, 1825, 1853, 1881, 1894, 1922, 1962, 2002, 2030, 2098, 2154, 2182, 2222, 2262, 2290, 2318, 2346, 2359, 2376, 2393], 260, 0, 0) from rfl) he (by rfl) (cs _ rfl))
    · exact wp_le (B := B + 1) (by omega) (wp_switch (t := 397) (show mE mL_law 44 = some (.tableswitch 2406 0 60 #[260, 312, 340, 353, 369, 409, 425, 493, 533, 573, 613, 669, 697, 725, 753, 766, 794, 822, 850, 890, 931, 959, 972, 1036, 1076, 1140, 1204, 1272, 1285, 1301, 1341, 1381, 1421, 1449, 1501, 1529, 1581, 1621, 1661, 1717, 1757, 1773, 1825, 1853, 1881, 1894, 1922, 1962, 2002, 2030, 2098, 2154, 2182, 2222, 2262, 2290, 2318, 2346, 2359, 2376, 2393], 260, 0, 0) from rfl) he (by rfl) (cs _ rfl))
    · exact wp_le (B := B + 1) (by omega) (wp_switch (t := 413) (show mE mL_law 44 = some (.tableswitch 2406 0 60 #[260, 312, 340, 353, 369, 409, 425, 493, 533, 573, 613, 669, 697, 725, 753, 766, 794, 822, 850, 890, 931, 959, 972, 1036, 1076, 1140, 1204, 1272, 1285, 1301, 1341, 1381, 1421, 1449, 1501, 1529, 1581, 1621, 1661, 1717, 1757, 1773, 1825, 1853, 1881, 1894, 1922, 1962, 2002, 2030, 2098, 2154, 2182, 2222, 2262, 2290, 2318, 2346, 2359, 2376, 2393], 260, 0, 0) from rfl) he (by rfl) (cs _ rfl))
    · exact wp_le (B := B + 1) (by omega) (wp_switch (t := 453) (show mE mL_law 44 = some (.tableswitch 2406 0 60 #[260, 312, 340, 353, 369, 409, 425, 493, 533, 573, 613, 669, 697, 725, 753, 766, 794, 822, 850, 890, 931, 959, 972, 1036, 1076, 1140, 1204, 1272, 1285, 1301, 1341, 1381, 1421, 1449, 1501, 1529, 1581, 1621, 1661, 1717, 1757, 1773, 1825, 1853, 1881, 1894, 1922, 1962, 2002, 2030, 2098, 2154, 2182, 2222, 2262, 2290, 2318, 2346, 2359, 2376, 2393], 260, 0, 0) from rfl) he (by rfl) (cs _ rfl))
    · exact wp_le (B := B + 1) (by omega) (wp_switch (t := 469) (show mE mL_law 44 = some (.tableswitch 2406 0 60 #[260, 312, 340, 353, 369, 409, 425, 493, 533, 573, 613, 669, 697, 725, 753, 766, 794, 822, 850, 890, 931, 959, 972, 1036, 1076, 1140, 1204, 1272, 1285, 1301, 1341, 1381, 1421, 1449, 1501, 1529, 1581, 1621, 1661, 1717, 1757, 1773, 1825, 1853, 1881, 1894, 1922, 1962, 2002, 2030, 2098, 2154, 2182, 2222, 2262, 2290, 2318, 2346, 2359, 2376, 2393], 260, 0, 0) from rfl) he (by rfl) (cs _ rfl))
    · exact wp_le (B := B + 1) (by omega) (wp_switch (t := 537) (show mE mL_law 44 = some (.tableswitch 2406 0 60 #[260, 312, 340, 353, 369, 409, 425, 493, 533, 573, 613, 669, 697, 725, 753, 766, 794, 822, 850, 890, 931, 959, 972, 1036, 1076, 1140, 1204, 1272, 1285, 1301, 1341, 1381, 1421, 1449, 1501, 1529, 1581, 1621, 1661, 1717, 1757, 1773, 1825, 1853, 1881, 1894, 1922, 1962, 2002, 2030, 2098, 2154, 2182, 2222, 2262, 2290, 2318, 2346, 2359, 2376, 2393], 260, 0, 0) from rfl) he (by rfl) (cs _ rfl))
    · exact wp_le (B := B + 1) (by omega) (wp_switch (t := 577) (show mE mL_law 44 = some (.tableswitch 2406 0 60 #[260, 312, 340, 353, 369, 409, 425, 493, 533, 573, 613, 669, 697, 725, 753, 766, 794, 822, 850, 890, 931, 959, 972, 1036, 1076, 1140, 1204, 1272, 1285, 1301, 1341, 1381, 1421, 1449, 1501, 1529, 1581, 1621, 1661, 1717, 1757, 1773, 1825, 1853, 1881, 1894, 1922, 1962, 2002, 2030, 2098, 2154, 2182, 2222, 2262, 2290, 2318, 2346, 2359, 2376, 2393], 260, 0, 0) from rfl) he (by rfl) (cs _ rfl))
    · exact wp_le (B := B + 1) (by omega) (wp_switch (t := 617) (show mE mL_law 44 = some (.tableswitch 2406 0 60 #[260, 312, 340, 353, 369, 409, 425, 493, 533, 573, 613, 669, 697, 725, 753, 766, 794, 822, 850, 890, 931, 959, 972, 1036, 1076, 1140, 1204, 1272, 1285, 1301, 1341, 1381, 1421, 1449, 1501, 1529, 1581, 1621, 1661, 1717, 1757, 1773, 1825, 1853, 1881, 1894, 1922, 1962, 2002, 2030, 2098, 2154, 2182, 2222, 2262, 2290, 2318, 2346, 2359, 2376, 2393], 260, 0, 0) from rfl) he (by rfl) (cs _ rfl))
    · exact wp_le (B := B + 1) (by omega) (wp_switch (t := 657) (show mE mL_law 44 = some (.tableswitch 2406 0 60 #[260, 312, 340, 353, 369, 409, 425, 493, 533, 573, 613, 669, 697, 725, 753, 766, 794, 822, 850, 890, 931, 959, 972, 1036, 1076, 1140, 1204, 1272, 1285, 1301, 1341, 1381, 1421, 1449, 1501, 1529, 1581, 1621, 1661, 1717, 1757, 1773, 1825, 1853, 1881, 1894, 1922, 1962, 2002, 2030, 2098, 2154, 2182, 2222, 2262, 2290, 2318, 2346, 2359, 2376, 2393], 260, 0, 0) from rfl) he (by rfl) (cs _ rfl))
    · exact wp_le (B := B + 1) (by omega) (wp_switch (t := 713) (show mE mL_law 44 = some (.tableswitch 2406 0 60 #[260, 312, 340, 353, 369, 409, 425, 493, 533, 573, 613, 669, 697, 725, 753, 766, 794, 822, 850, 890, 931, 959, 972, 1036, 1076, 1140, 1204, 1272, 1285, 1301, 1341, 1381, 1421, 1449, 1501, 1529, 1581, 1621, 1661, 1717, 1757, 1773, 1825, 1853, 1881, 1894, 1922, 1962, 2002, 2030, 2098, 2154, 2182, 2222, 2262, 2290, 2318, 2346, 2359, 2376, 2393], 260, 0, 0) from rfl) he (by rfl) (cs _ rfl))
    · exact wp_le (B := B + 1) (by omega) (wp_switch (t := 741) (show mE mL_law 44 = some (.tableswitch 2406 0 60 #[260, 312, 340, 353, 369, 409, 425, 493, 533, 573, 613, 669, 697, 725, 753, 766, 794, 822, 850, 890, 931, 959, 972, 1036, 1076, 1140, 1204, 1272, 1285, 1301, 1341, 1381, 1421, 1449, 1501, 1529, 1581, 1621, 1661, 1717, 1757, 1773, 1825, 1853, 1881, 1894, 1922, 1962, 2002, 2030, 2098, 2154, 2182, 2222, 2262, 2290, 2318, 2346, 2359, 2376, 2393], 260, 0, 0) from rfl) he (by rfl) (cs _ rfl))
    · exact wp_le (B := B + 1) (by omega) (wp_switch (t := 769) (show mE mL_law 44 = some (.tableswitch 2406 0 60 #[260, 312, 340, 353, 369, 409, 425, 493, 533, 573, 613, 669, 697, 725, 753, 766, 794, 822, 850, 890, 931, 959, 972, 1036, 1076, 1140, 1204, 1272, 1285, 1301, 1341, 1381, 1421, 1449, 1501, 1529, 1581, 1621, 1661, 1717, 1757, 1773, 1825, 1853, 1881, 1894, 1922, 1962, 2002, 2030, 2098, 2154, 2182, 2222, 2262, 2290, 2318, 2346, 2359, 2376, 2393], 260, 0, 0) from rfl) he (by rfl) (cs _ rfl))
    · exact wp_le (B := B + 1) (by omega) (wp_switch (t := 797) (show mE mL_law 44 = some (.tableswitch 2406 0 60 #[260, 312, 340, 353, 369, 409, 425, 493, 533, 573, 613, 669, 697, 725, 753, 766, 794, 822, 850, 890, 931, 959, 972, 1036, 1076, 1140, 1204, 1272, 1285, 1301, 1341, 1381, 1421, 1449, 1501, 1529, 1581, 1621, 1661, 1717, 1757, 1773, 1825, 1853, 1881, 1894, 1922, 1962, 2002, 2030, 2098, 2154, 2182, 2222, 2262, 2290, 2318, 2346, 2359, 2376, 2393], 260, 0, 0) from rfl) he (by rfl) (cs _ rfl))
    · exact wp_le (B := B + 1) (by omega) (wp_switch (t := 810) (show mE mL_law 44 = some (.tableswitch 2406 0 60 #[260, 312, 340, 353, 369, 409, 425, 493, 533, 573, 613, 669, 697, 725, 753, 766, 794, 822, 850, 890, 931, 959, 972, 1036, 1076, 1140, 1204, 1272, 1285, 1301, 1341, 1381, 1421, 1449, 1501, 1529, 1581, 1621, 1661, 1717, 1757, 1773, 1825, 1853, 1881, 1894, 1922, 1962, 2002, 2030, 2098, 2154, 2182, 2222, 2262, 2290, 2318, 2346, 2359, 2376, 2393], 260, 0, 0) from rfl) he (by rfl) (cs _ rfl))
    · exact wp_le (B := B + 1) (by omega) (wp_switch (t := 838) (show mE mL_law 44 = some (.tableswitch 2406 0 60 #[260, 312, 340, 353, 369, 409, 425, 493, 533, 573, 613, 669, 697, 725, 753, 766, 794, 822, 850, 890, 931, 959, 972, 1036, 1076, 1140, 1204, 1272, 1285, 1301, 1341, 1381, 1421, 1449, 1501, 1529, 1581, 1621, 1661, 1717, 1757, 1773, 1825, 1853, 1881, 1894, 1922, 1962, 2002, 2030, 2098, 2154, 2182, 2222, 2262, 2290, 2318, 2346, 2359, 2376, 2393], 260, 0, 0) from rfl) he (by rfl) (cs _ rfl))
    · exact wp_le (B := B + 1) (by omega) (wp_switch (t := 866) (show mE mL_law 44 = some (.tableswitch 2406 0 60 #[260, 312, 340, 353, 369, 409, 425, 493, 533, 573, 613, 669, 697, 725, 753, 766, 794, 822, 850, 890, 931, 959, 972, 1036, 1076, 1140, 1204, 1272, 1285, 1301, 1341, 1381, 1421, 1449, 1501, 1529, 1581, 1621, 1661, 1717, 1757, 1773, 1825, 1853, 1881, 1894, 1922, 1962, 2002, 2030, 2098, 2154, 2182, 2222, 2262, 2290, 2318, 2346, 2359, 2376, 2393], 260, 0, 0) from rfl) he (by rfl) (cs _ rfl))
    · exact wp_le (B := B + 1) (by omega) (wp_switch (t := 894) (show mE mL_law 44 = some (.tableswitch 2406 0 60 #[260, 312, 340, 353, 369, 409, 425, 493, 533, 573, 613, 669, 697, 725, 753, 766, 794, 822, 850, 890, 931, 959, 972, 1036, 1076, 1140, 1204, 1272, 1285, 1301, 1341, 1381, 1421, 1449, 1501, 1529, 1581, 1621, 1661, 1717, 1757, 1773, 1825, 1853, 1881, 1894, 1922, 1962, 2002, 2030, 2098, 2154, 2182, 2222, 2262, 2290, 2318, 2346, 2359, 2376, 2393], 260, 0, 0) from rfl) he (by rfl) (cs _ rfl))
    · exact wp_le (B := B + 1) (by omega) (wp_switch (t := 934) (show mE mL_law 44 = some (.tableswitch 2406 0 60 #[260, 312, 340, 353, 369, 409, 425, 493, 533, 573, 613, 669, 697, 725, 753, 766, 794, 822, 850, 890, 931, 959, 972, 1036, 1076, 1140, 1204, 1272, 1285, 1301, 1341, 1381, 1421, 1449, 1501, 1529, 1581, 1621, 1661, 1717, 1757, 1773, 1825, 1853, 1881, 1894, 1922, 1962, 2002, 2030, 2098, 2154, 2182, 2222, 2262, 2290, 2318, 2346, 2359, 2376, 2393], 260, 0, 0) from rfl) he (by rfl) (cs _ rfl))
    · exact wp_le (B := B + 1) (by omega) (wp_switch (t := 975) (show mE mL_law 44 = some (.tableswitch 2406 0 60 #[260, 312, 340, 353, 369, 409, 425, 493, 533, 573, 613, 669, 697, 725, 753, 766, 794, 822, 850, 890, 931, 959, 972, 1036, 1076, 1140, 1204, 1272, 1285, 1301, 1341, 1381, 1421, 1449, 1501, 1529, 1581, 1621, 1661, 1717, 1757, 1773, 1825, 1853, 1881, 1894, 1922, 1962, 2002, 2030, 2098, 2154, 2182, 2222, 2262, 2290, 2318, 2346, 2359, 2376, 2393], 260, 0, 0) from rfl) he (by rfl) (cs _ rfl))
    · exact wp_le (B := B + 1) (by omega) (wp_switch (t := 1003) (show mE mL_law 44 = some (.tableswitch 2406 0 60 #[260, 312, 340, 353, 369, 409, 425, 493, 533, 573, 613, 669, 697, 725, 753, 766, 794, 822, 850, 890, 931, 959, 972, 1036, 1076, 1140, 1204, 1272, 1285, 1301, 1341, 1381, 1421, 1449, 1501, 1529, 1581, 1621, 1661, 1717, 1757, 1773, 1825, 1853, 1881, 1894, 1922, 1962, 2002, 2030, 2098, 2154, 2182, 2222, 2262, 2290, 2318, 2346, 2359, 2376, 2393], 260, 0, 0) from rfl) he (by rfl) (cs _ rfl))
    · exact wp_le (B := B + 1) (by omega) (wp_switch (t := 1016) (show mE mL_law 44 = some (.tableswitch 2406 0 60 #[260, 312, 340, 353, 369, 409, 425, 493, 533, 573, 613, 669, 697, 725, 753, 766, 794, 822, 850, 890, 931, 959, 972, 1036, 1076, 1140, 1204, 1272, 1285, 1301, 1341, 1381, 1421, 1449, 1501, 1529, 1581, 1621, 1661, 1717, 1757, 1773, 1825, 1853, 1881, 1894, 1922, 1962, 2002, 2030, 2098, 2154, 2182, 2222, 2262, 2290, 2318, 2346, 2359, 2376, 2393], 260, 0, 0) from rfl) he (by rfl) (cs _ rfl))
    · exact wp_le (B := B + 1) (by omega) (wp_switch (t := 1080) (show mE mL_law 44 = some (.tableswitch 2406 0 60 #[260, 312, 340, 353, 369, 409, 425, 493, 533, 573, 613, 669, 697, 725, 753, 766, 794, 822, 850, 890, 931, 959, 972, 1036, 1076, 1140, 1204, 1272, 1285, 1301, 1341, 1381, 1421, 1449, 1501, 1529, 1581, 1621, 1661, 1717, 1757, 1773, 1825, 1853, 1881, 1894, 1922, 1962, 2002, 2030, 2098, 2154, 2182, 2222, 2262, 2290, 2318, 2346, 2359, 2376, 2393], 260, 0, 0) from rfl) he (by rfl) (cs _ rfl))
    · exact wp_le (B := B + 1) (by omega) (wp_switch (t := 1120) (show mE mL_law 44 = some (.tableswitch 2406 0 60 #[260, 312, 340, 353, 369, 409, 425, 493, 533, 573, 613, 669, 697, 725, 753, 766, 794, 822, 850, 890, 931, 959, 972, 1036, 1076, 1140, 1204, 1272, 1285, 1301, 1341, 1381, 1421, 1449, 1501, 1529, 1581, 1621, 1661, 1717, 1757, 1773, 1825, 1853, 1881, 1894, 1922, 1962, 2002, 2030, 2098, 2154, 2182, 2222, 2262, 2290, 2318, 2346, 2359, 2376, 2393], 260, 0, 0) from rfl) he (by rfl) (cs _ rfl))
    · exact wp_le (B := B + 1) (by omega) (wp_switch (t := 1184) (show mE mL_law 44 = some (.tableswitch 2406 0 60 #[260, 312, 340, 353, 369, 409, 425, 493, 533, 573, 613, 669, 697, 725, 753, 766, 794, 822, 850, 890, 931, 959, 972, 1036, 1076, 1140, 1204, 1272, 1285, 1301, 1341, 1381, 1421, 1449, 1501, 1529, 1581, 1621, 1661, 1717, 1757, 1773, 1825, 1853, 1881, 1894, 1922, 1962, 2002, 2030, 2098, 2154, 2182, 2222, 2262, 2290, 2318, 2346, 2359, 2376, 2393], 260, 0, 0) from rfl) he (by rfl) (cs _ rfl))
    · exact wp_le (B := B + 1) (by omega) (wp_switch (t := 1248) (show mE mL_law 44 = some (.tableswitch 2406 0 60 #[260, 312, 340, 353, 369, 409, 425, 493, 533, 573, 613, 669, 697, 725, 753, 766, 794, 822, 850, 890, 931, 959, 972, 1036, 1076, 1140, 1204, 1272, 1285, 1301, 1341, 1381, 1421, 1449, 1501, 1529, 1581, 1621, 1661, 1717, 1757, 1773, 1825, 1853, 1881, 1894, 1922, 1962, 2002, 2030, 2098, 2154, 2182, 2222, 2262, 2290, 2318, 2346, 2359, 2376, 2393], 260, 0, 0) from rfl) he (by rfl) (cs _ rfl))
    · exact wp_le (B := B + 1) (by omega) (wp_switch (t := 1316) (show mE mL_law 44 = some (.tableswitch 2406 0 60 #[260, 312, 340, 353, 369, 409, 425, 493, 533, 573, 613, 669, 697, 725, 753, 766, 794, 822, 850, 890, 931, 959, 972, 1036, 1076, 1140, 1204, 1272, 1285, 1301, 1341, 1381, 1421, 1449, 1501, 1529, 1581, 1621, 1661, 1717, 1757, 1773, 1825, 1853, 1881, 1894, 1922, 1962, 2002, 2030, 2098, 2154, 2182, 2222, 2262, 2290, 2318, 2346, 2359, 2376, 2393], 260, 0, 0) from rfl) he (by rfl) (cs _ rfl))
    · exact wp_le (B := B + 1) (by omega) (wp_switch (t := 1329) (show mE mL_law 44 = some (.tableswitch 2406 0 60 #[260, 312, 340, 353, 369, 409, 425, 493, 533, 573, 613, 669, 697, 725, 753, 766, 794, 822, 850, 890, 931, 959, 972, 1036, 1076, 1140, 1204, 1272, 1285, 1301, 1341, 1381, 1421, 1449, 1501, 1529, 1581, 1621, 1661, 1717, 1757, 1773, 1825, 1853, 1881, 1894, 1922, 1962, 2002, 2030, 2098, 2154, 2182, 2222, 2262, 2290, 2318, 2346, 2359, 2376, 2393], 260, 0, 0) from rfl) he (by rfl) (cs _ rfl))
    · exact wp_le (B := B + 1) (by omega) (wp_switch (t := 1345) (show mE mL_law 44 = some (.tableswitch 2406 0 60 #[260, 312, 340, 353, 369, 409, 425, 493, 533, 573, 613, 669, 697, 725, 753, 766, 794, 822, 850, 890, 931, 959, 972, 1036, 1076, 1140, 1204, 1272, 1285, 1301, 1341, 1381, 1421, 1449, 1501, 1529, 1581, 1621, 1661, 1717, 1757, 1773, 1825, 1853, 1881, 1894, 1922, 1962, 2002, 2030, 2098, 2154, 2182, 2222, 2262, 2290, 2318, 2346, 2359, 2376, 2393], 260, 0, 0) from rfl) he (by rfl) (cs _ rfl))
    · exact wp_le (B := B + 1) (by omega) (wp_switch (t := 1385) (show mE mL_law 44 = some (.tableswitch 2406 0 60 #[260, 312, 340, 353, 369, 409, 425, 493, 533, 573, 613, 669, 697, 725, 753, 766, 794, 822, 850, 890, 931, 959, 972, 1036, 1076, 1140, 1204, 1272, 1285, 1301, 1341, 1381, 1421, 1449, 1501, 1529, 1581, 1621, 1661, 1717, 1757, 1773, 1825, 1853, 1881, 1894, 1922, 1962, 2002, 2030, 2098, 2154, 2182, 2222, 2262, 2290, 2318, 2346, 2359, 2376, 2393], 260, 0, 0) from rfl) he (by rfl) (cs _ rfl))
    · exact wp_le (B := B + 1) (by omega) (wp_switch (t := 1425) (show mE mL_law 44 = some (.tableswitch 2406 0 60 #[260, 312, 340, 353, 369, 409, 425, 493, 533, 573, 613, 669, 697, 725, 753, 766, 794, 822, 850, 890, 931, 959, 972, 1036, 1076, 1140, 1204, 1272, 1285, 1301, 1341, 1381, 1421, 1449, 1501, 1529, 1581, 1621, 1661, 1717, 1757, 1773, 1825, 1853, 1881, 1894, 1922, 1962, 2002, 2030, 2098, 2154, 2182, 2222, 2262, 2290, 2318, 2346, 2359, 2376, 2393], 260, 0, 0) from rfl) he (by rfl) (cs _ rfl))
    · exact wp_le (B := B + 1) (by omega) (wp_switch (t := 1465) (show mE mL_law 44 = some (.tableswitch 2406 0 60 #[260, 312, 340, 353, 369, 409, 425, 493, 533, 573, 613, 669, 697, 725, 753, 766, 794, 822, 850, 890, 931, 959, 972, 1036, 1076, 1140, 1204, 1272, 1285, 1301, 1341, 1381, 1421, 1449, 1501, 1529, 1581, 1621, 1661, 1717, 1757, 1773, 1825, 1853, 1881, 1894, 1922, 1962, 2002, 2030, 2098, 2154, 2182, 2222, 2262, 2290, 2318, 2346, 2359, 2376, 2393], 260, 0, 0) from rfl) he (by rfl) (cs _ rfl))
    · exact wp_le (B := B + 1) (by omega) (wp_switch (t := 1493) (show mE mL_law 44 = some (.tableswitch 2406 0 60 #[260, 312, 340, 353, 369, 409, 425, 493, 533, 573, 613, 669, 697, 725, 753, 766, 794, 822, 850, 890, 931, 959, 972, 1036, 1076, 1140, 1204, 1272, 1285, 1301, 1341, 1381, 1421, 1449, 1501, 1529, 1581, 1621, 1661, 1717, 1757, 1773, 1825, 1853, 1881, 1894, 1922, 1962, 2002, 2030, 2098, 2154, 2182, 2222, 2262, 2290, 2318, 2346, 2359, 2376, 2393], 260, 0, 0) from rfl) he (by rfl) (cs _ rfl))
    · exact wp_le (B := B + 1) (by omega) (wp_switch (t := 1545) (show mE mL_law 44 = some (.tableswitch 2406 0 60 #[260, 312, 340, 353, 369, 409, 425, 493, 533, 573, 613, 669, 697, 725, 753, 766, 794, 822, 850, 890, 931, 959, 972, 1036, 1076, 1140, 1204, 1272, 1285, 1301, 1341, 1381, 1421, 1449, 1501, 1529, 1581, 1621, 1661, 1717, 1757, 1773, 1825, 1853, 1881, 1894, 1922, 1962, 2002, 2030, 2098, 2154, 2182, 2222, 2262, 2290, 2318, 2346, 2359, 2376, 2393], 260, 0, 0) from rfl) he (by rfl) (cs _ rfl))
    · exact wp_le (B := B + 1) (by omega) (wp_switch (t := 1573) (show mE mL_law 44 = some (.tableswitch 2406 0 60 #[260, 312, 340, 353, 369, 409, 425, 493, 533, 573, 613, 669, 697, 725, 753, 766, 794, 822, 850, 890, 931, 959, 972, 1036, 1076, 1140, 1204, 1272, 1285, 1301, 1341, 1381, 1421, 1449, 1501, 1529, 1581, 1621, 1661, 1717, 1757, 1773, 1825, 1853, 1881, 1894, 1922, 1962, 2002, 2030, 2098, 2154, 2182, 2222, 2262, 2290, 2318, 2346, 2359, 2376, 2393], 260, 0, 0) from rfl) he (by rfl) (cs _ rfl))
    · exact wp_le (B := B + 1) (by omega) (wp_switch (t := 1625) (show mE mL_law 44 = some (.tableswitch 2406 0 60 #[260, 312, 340, 353, 369, 409, 425, 493, 533, 573, 613, 669, 697, 725, 753, 766, 794, 822, 850, 890, 931, 959, 972, 1036, 1076, 1140, 1204, 1272, 1285, 1301, 1341, 1381, 1421, 1449, 1501, 1529, 1581, 1621, 1661, 1717, 1757, 1773, 1825, 1853, 1881, 1894, 1922, 1962, 2002, 2030, 2098, 2154, 2182, 2222, 2262, 2290, 2318, 2346, 2359, 2376, 2393], 260, 0, 0) from rfl) he (by rfl) (cs _ rfl))
    · exact wp_le (B := B + 1) (by omega) (wp_switch (t := 1665) (show mE mL_law 44 = some (.tableswitch 2406 0 60 #[260, 312, 340, 353, 369, 409, 425, 493, 533, 573, 613, 669, 697, 725, 753, 766, 794, 822, 850, 890, 931, 959, 972, 1036, 1076, 1140, 1204, 1272, 1285, 1301, 1341, 1381, 1421, 1449, 1501, 1529, 1581, 1621, 1661, 1717, 1757, 1773, 1825, 1853, 1881, 1894, 1922, 1962, 2002, 2030, 2098, 2154, 2182, 2222, 2262, 2290, 2318, 2346, 2359, 2376, 2393], 260, 0, 0) from rfl) he (by rfl) (cs _ rfl))
    · exact wp_le (B := B + 1) (by omega) (wp_switch (t := 1705) (show mE mL_law 44 = some (.tableswitch 2406 0 60 #[260, 312, 340, 353, 369, 409, 425, 493, 533, 573, 613, 669, 697, 725, 753, 766, 794, 822, 850, 890, 931, 959, 972, 1036, 1076, 1140, 1204, 1272, 1285, 1301, 1341, 1381, 1421, 1449, 1501, 1529, 1581, 1621, 1661, 1717, 1757, 1773, 1825, 1853, 1881, 1894, 1922, 1962, 2002, 2030, 2098, 2154, 2182, 2222, 2262, 2290, 2318, 2346, 2359, 2376, 2393], 260, 0, 0) from rfl) he (by rfl) (cs _ rfl))
    · exact wp_le (B := B + 1) (by omega) (wp_switch (t := 1761) (show mE mL_law 44 = some (.tableswitch 2406 0 60 #[260, 312, 340, 353, 369, 409, 425, 493, 533, 573, 613, 669, 697, 725, 753, 766, 794, 822, 850, 890, 931, 959, 972, 1036, 1076, 1140, 1204, 1272, 1285, 1301, 1341, 1381, 1421, 1449, 1501, 1529, 1581, 1621, 1661, 1717, 1757, 1773, 1825, 1853, 1881, 1894, 1922, 1962, 2002, 2030, 2098, 2154, 2182, 2222, 2262, 2290, 2318, 2346, 2359, 2376, 2393], 260, 0, 0) from rfl) he (by rfl) (cs _ rfl))
    · exact wp_le (B := B + 1) (by omega) (wp_switch (t := 1801) (show mE mL_law 44 = some (.tableswitch 2406 0 60 #[260, 312, 340, 353, 369, 409, 425, 493, 533, 573, 613, 669, 697, 725, 753, 766, 794, 822, 850, 890, 931, 959, 972, 1036, 1076, 1140, 1204, 1272, 1285, 1301, 1341, 1381, 1421, 1449, 1501, 1529, 1581, 1621, 1661, 1717, 1757, 1773, 1825, 1853, 1881, 1894, 1922, 1962, 2002, 2030, 2098, 2154, 2182, 2222, 2262, 2290, 2318, 2346, 2359, 2376, 2393], 260, 0, 0) from rfl) he (by rfl) (cs _ rfl))
    · exact wp_le (B := B + 1) (by omega) (wp_switch (t := 1817) (show mE mL_law 44 = some (.tableswitch 2406 0 60 #[260, 312, 340, 353, 369, 409, 425, 493, 533, 573, 613, 669, 697, 725, 753, 766, 794, 822, 850, 890, 931, 959, 972, 1036, 1076, 1140, 1204, 1272, 1285, 1301, 1341, 1381, 1421, 1449, 1501, 1529, 1581, 1621, 1661, 1717, 1757, 1773, 1825, 1853, 1881, 1894, 1922, 1962, 2002, 2030, 2098, 2154, 2182, 2222, 2262, 2290, 2318, 2346, 2359, 2376, 2393], 260, 0, 0) from rfl) he (by rfl) (cs _ rfl))
    · exact wp_le (B := B + 1) (by omega) (wp_switch (t := 1869) (show mE mL_law 44 = some (.tableswitch 2406 0 60 #[260, 312, 340, 353, 369, 409, 425, 493, 533, 573, 613, 669, 697, 725, 753, 766, 794, 822, 850, 890, 931, 959, 972, 1036, 1076, 1140, 1204, 1272, 1285, 1301, 1341, 1381, 1421, 1449, 1501, 1529, 1581, 1621, 1661, 1717, 1757, 1773, 1825, 1853, 1881, 1894, 1922, 1962, 2002, 2030, 2098, 2154, 2182, 2222, 2262, 2290, 2318, 2346, 2359, 2376, 2393], 260, 0, 0) from rfl) he (by rfl) (cs _ rfl))
    · exact wp_le (B := B + 1) (by omega) (wp_switch (t := 1897) (show mE mL_law 44 = some (.tableswitch 2406 0 60 #[260, 312, 340, 353, 369, 409, 425, 493, 533, 573, 613, 669, 697, 725, 753, 766, 794, 822, 850, 890, 931, 959, 972, 1036, 1076, 1140, 1204, 1272, 1285, 1301, 1341, 1381, 1421, 1449, 1501, 1529, 1581, 1621, 1661, 1717, 1757, 1773, 1825, 1853, 1881, 1894, 1922, 1962, 2002, 2030, 2098, 2154, 2182, 2222, 2262, 2290, 2318, 2346, 2359, 2376, 2393], 260, 0, 0) from rfl) he (by rfl) (cs _ rfl))
    · exact wp_le (B := B + 1) (by omega) (wp_switch (t := 1925) (show mE mL_law 44 = some (.tableswitch 2406 0 60 #[260, 312, 340, 353, 369, 409, 425, 493, 533, 573, 613, 669, 697, 725, 753, 766, 794, 822, 850, 890, 931, 959, 972, 1036, 1076, 1140, 1204, 1272, 1285, 1301, 1341, 1381, 1421, 1449, 1501, 1529, 1581, 1621, 1661, 1717, 1757, 1773, 1825, 1853, 1881, 1894, 1922, 1962, 2002, 2030, 2098, 2154, 2182, 2222, 2262, 2290, 2318, 2346, 2359, 2376, 2393], 260, 0, 0) from rfl) he (by rfl) (cs _ rfl))
    · exact wp_le (B := B + 1) (by omega) (wp_switch (t := 1938) (show mE mL_law 44 = some (.tableswitch 2406 0 60 #[260, 312, 340, 353, 369, 409, 425, 493, 533, 573, 613, 669, 697, 725, 753, 766, 794, 822, 850, 890, 931, 959, 972, 1036, 1076, 1140, 1204, 1272, 1285, 1301, 1341, 1381, 1421, 1449, 1501, 1529, 1581, 1621, 1661, 1717, 1757, 1773, 1825, 1853, 1881, 1894, 1922, 1962, 2002, 2030, 2098, 2154, 2182, 2222, 2262, 2290, 2318, 2346, 2359, 2376, 2393], 260, 0, 0) from rfl) he (by rfl) (cs _ rfl))
    · exact wp_le (B := B + 1) (by omega) (wp_switch (t := 1966) (show mE mL_law 44 = some (.tableswitch 2406 0 60 #[260, 312, 340, 353, 369, 409, 425, 493, 533, 573, 613, 669, 697, 725, 753, 766, 794, 822, 850, 890, 931, 959, 972, 1036, 1076, 1140, 1204, 1272, 1285, 1301, 1341, 1381, 1421, 1449, 1501, 1529, 1581, 1621, 1661, 1717, 1757, 1773, 1825, 1853, 1881, 1894, 1922, 1962, 2002, 2030, 2098, 2154, 2182, 2222, 2262, 2290, 2318, 2346, 2359, 2376, 2393], 260, 0, 0) from rfl) he (by rfl) (cs _ rfl))
    · exact wp_le (B := B + 1) (by omega) (wp_switch (t := 2006) (show mE mL_law 44 = some (.tableswitch 2406 0 60 #[260, 312, 340, 353, 369, 409, 425, 493, 533, 573, 613, 669, 697, 725, 753, 766, 794, 822, 850, 890, 931, 959, 972, 1036, 1076, 1140, 1204, 1272, 1285, 1301, 1341, 1381, 1421, 1449, 1501, 1529, 1581, 1621, 1661, 1717, 1757, 1773, 1825, 1853, 1881, 1894, 1922, 1962, 2002, 2030, 2098, 2154, 2182, 2222, 2262, 2290, 2318, 2346, 2359, 2376, 2393], 260, 0, 0) from rfl) he (by rfl) (cs _ rfl))
    · exact wp_le (B := B + 1) (by omega) (wp_switch (t := 2046) (show mE mL_law 44 = some (.tableswitch 2406 0 60 #[260, 312, 340, 353, 369, 409, 425, 493, 533, 573, 613, 669, 697, 725, 753, 766, 794, 822, 850, 890, 931, 959, 972, 1036, 1076, 1140, 1204, 1272, 1285, 1301, 1341, 1381, 1421, 1449, 1501, 1529, 1581, 1621, 1661, 1717, 1757, 1773, 1825, 1853, 1881, 1894, 1922, 1962, 2002, 2030, 2098, 2154, 2182, 2222, 2262, 2290, 2318, 2346, 2359, 2376, 2393], 260, 0, 0) from rfl) he (by rfl) (cs _ rfl))
    · exact wp_le (B := B + 1) (by omega) (wp_switch (t := 2074) (show mE mL_law 44 = some (.tableswitch 2406 0 60 #[260, 312, 340, 353, 369, 409, 425, 493, 533, 573, 613, 669, 697, 725, 753, 766, 794, 822, 850, 890, 931, 959, 972, 1036, 1076, 1140, 1204, 1272, 1285, 1301, 1341, 1381, 1421, 1449, 1501, 1529, 1581, 1621, 1661, 1717, 1757, 1773, 1825, 1853, 1881, 1894, 1922, 1962, 2002, 2030, 2098, 2154, 2182, 2222, 2262, 2290, 2318, 2346, 2359, 2376, 2393], 260, 0, 0) from rfl) he (by rfl) (cs _ rfl))
    · exact wp_le (B := B + 1) (by omega) (wp_switch (t := 2142) (show mE mL_law 44 = some (.tableswitch 2406 0 60 #[260, 312, 340, 353, 369, 409, 425, 493, 533, 573, 613, 669, 697, 725, 753, 766, 794, 822, 850, 890, 931, 959, 972, 1036, 1076, 1140, 1204, 1272, 1285, 1301, 1341, 1381, 1421, 1449, 1501, 1529, 1581, 1621, 1661, 1717, 1757, 1773, 1825, 1853, 1881, 1894, 1922, 1962, 2002, 2030, 2098, 2154, 2182, 2222, 2262, 2290, 2318, 2346, 2359, 2376, 2393], 260, 0, 0) from rfl) he (by rfl) (cs _ rfl))
    · exact wp_le (B := B + 1) (by omega) (wp_switch (t := 2198) (show mE mL_law 44 = some (.tableswitch 2406 0 60 #[260, 312, 340, 353, 369, 409, 425, 493, 533, 573, 613, 669, 697, 725, 753, 766, 794, 822, 850, 890, 931, 959, 972, 1036, 1076, 1140, 1204, 1272, 1285, 1301, 1341, 1381, 1421, 1449, 1501, 1529, 1581, 1621, 1661, 1717, 1757, 1773, 1825, 1853, 1881, 1894, 1922, 1962, 2002, 2030, 2098, 2154, 2182, 2222, 2262, 2290, 2318, 2346, 2359, 2376, 2393], 260, 0, 0) from rfl) he (by rfl) (cs _ rfl))
    · exact wp_le (B := B + 1) (by omega) (wp_switch (t := 2226) (show mE mL_law 44 = some (.tableswitch 2406 0 60 #[260, 312, 340, 353, 369, 409, 425, 493, 533, 573, 613, 669, 697, 725, 753, 766, 794, 822, 850, 890, 931, 959, 972, 1036, 1076, 1140, 1204, 1272, 1285, 1301, 1341, 1381, 1421, 1449, 1501, 1529, 1581, 1621, 1661, 1717, 1757, 1773, 1825, 1853, 1881, 1894, 1922, 1962, 2002, 2030, 2098, 2154, 2182, 2222, 2262, 2290, 2318, 2346, 2359, 2376, 2393], 260, 0, 0) from rfl) he (by rfl) (cs _ rfl))
    · exact wp_le (B := B + 1) (by omega) (wp_switch (t := 2266) (show mE mL_law 44 = some (.tableswitch 2406 0 60 #[260, 312, 340, 353, 369, 409, 425, 493, 533, 573, 613, 669, 697, 725, 753, 766, 794, 822, 850, 890, 931, 959, 972, 1036, 1076, 1140, 1204, 1272, 1285, 1301, 1341, 1381, 1421, 1449, 1501, 1529, 1581, 1621, 1661, 1717, 1757, 1773, 1825, 1853, 1881, 1894, 1922, 1962, 2002, 2030, 2098, 2154, 2182, 2222, 2262, 2290, 2318, 2346, 2359, 2376, 2393], 260, 0, 0) from rfl) he (by rfl) (cs _ rfl))
    · exact wp_le (B := B + 1) (by omega) (wp_switch (t := 2306) (show mE mL_law 44 = some (.tableswitch 2406 0 60 #[260, 312, 340, 353, 369, 409, 425, 493, 533, 573, 613, 669, 697, 725, 753, 766, 794, 822, 850, 890, 931, 959, 972, 1036, 1076, 1140, 1204, 1272, 1285, 1301, 1341, 1381, 1421, 1449, 1501, 1529, 1581, 1621, 1661, 1717, 1757, 1773, 1825, 1853, 1881, 1894, 1922, 1962, 2002, 2030, 2098, 2154, 2182, 2222, 2262, 2290, 2318, 2346, 2359, 2376, 2393], 260, 0, 0) from rfl) he (by rfl) (cs _ rfl))
    · exact wp_le (B := B + 1) (by omega) (wp_switch (t := 2334) (show mE mL_law 44 = some (.tableswitch 2406 0 60 #[260, 312, 340, 353, 369, 409, 425, 493, 533, 573, 613, 669, 697, 725, 753, 766, 794, 822, 850, 890, 931, 959, 972, 1036, 1076, 1140, 1204, 1272, 1285, 1301, 1341, 1381, 1421, 1449, 1501, 1529, 1581, 1621, 1661, 1717, 1757, 1773, 1825, 1853, 1881, 1894, 1922, 1962, 2002, 2030, 2098, 2154, 2182, 2222, 2262, 2290, 2318, 2346, 2359, 2376, 2393], 260, 0, 0) from rfl) he (by rfl) (cs _ rfl))
    · exact wp_le (B := B + 1) (by omega) (wp_switch (t := 2362) (show mE mL_law 44 = some (.tableswitch 2406 0 60 #[260, 312, 340, 353, 369, 409, 425, 493, 533, 573, 613, 669, 697, 725, 753, 766, 794, 822, 850, 890, 931, 959, 972, 1036, 1076, 1140, 1204, 1272, 1285, 1301, 1341, 1381, 1421, 1449, 1501, 1529, 1581, 1621, 1661, 1717, 1757, 1773, 1825, 1853, 1881, 1894, 1922, 1962, 2002, 2030, 2098, 2154, 2182, 2222, 2262, 2290, 2318, 2346, 2359, 2376, 2393], 260, 0, 0) from rfl) he (by rfl) (cs _ rfl))
    · exact wp_le (B := B + 1) (by omega) (wp_switch (t := 2390) (show mE mL_law 44 = some (.tableswitch 2406 0 60 #[260, 312, 340, 353, 369, 409, 425, 493, 533, 573, 613, 669, 697, 725, 753, 766, 794, 822, 850, 890, 931, 959, 972, 1036, 1076, 1140, 1204, 1272, 1285, 1301, 1341, 1381, 1421, 1449, 1501, 1529, 1581, 1621, 1661, 1717, 1757, 1773, 1825, 1853, 1881, 1894, 1922, 1962, 2002, 2030, 2098, 2154, 2182, 2222, 2262, 2290, 2318, 2346, 2359, 2376, 2393], 260, 0, 0) from rfl) he (by rfl) (cs _ rfl))
    · exact wp_le (B := B + 1) (by omega) (wp_switch (t := 2403) (show mE mL_law 44 = some (.tableswitch 2406 0 60 #[260, 312, 340, 353, 369, 409, 425, 493, 533, 573, 613, 669, 697, 725, 753, 766, 794, 822, 850, 890, 931, 959, 972, 1036, 1076, 1140, 1204, 1272, 1285, 1301, 1341, 1381, 1421, 1449, 1501, 1529, 1581, 1621, 1661, 1717, 1757, 1773, 1825, 1853, 1881, 1894, 1922, 1962, 2002, 2030, 2098, 2154, 2182, 2222, 2262, 2290, 2318, 2346, 2359, 2376, 2393], 260, 0, 0) from rfl) he (by rfl) (cs _ rfl))
    · exact wp_le (B := B + 1) (by omega) (wp_switch (t := 2420) (show mE mL_law 44 = some (.tableswitch 2406 0 60 #[260, 312, 340, 353, 369, 409, 425, 493, 533, 573, 613, 669, 697, 725, 753, 766, 794, 822, 850, 890, 931, 959, 972, 1036, 1076, 1140, 1204, 1272, 1285, 1301, 1341, 1381, 1421, 1449, 1501, 1529, 1581, 1621, 1661, 1717, 1757, 1773, 1825, 1853, 1881, 1894, 1922, 1962, 2002, 2030, 2098, 2154, 2182, 2222, 2262, 2290, 2318, 2346, 2359, 2376, 2393], 260, 0, 0) from rfl) he (by rfl) (cs _ rfl))
    · exact wp_le (B := B + 1) (by omega) (wp_switch (t := 2437) (show mE mL_law 44 = some (.tableswitch 2406 0 60 #[260, 312, 340, 353, 369, 409, 425, 493, 533, 573, 613, 669, 697, 725, 753, 766, 794, 822, 850, 890, 931, 959, 972, 1036, 1076, 1140, 1204, 1272, 1285, 1301, 1341, 1381, 1421, 1449, 1501, 1529, 1581, 1621, 1661, 1717, 1757, 1773, 1825, 1853, 1881, 1894, 1922, 1962, 2002, 2030, 2098, 2154, 2182, 2222, 2262, 2290, 2318, 2346, 2359, 2376, 2393], 260, 0, 0) from rfl) he (by rfl) (cs _ rfl))
    · exact wp_le (B := B + 1) (by omega) (wp_switch (t := 2450) (show mE mL_law 44 = some (.tableswitch 2406 0 60 #[260, 312, 340, 353, 369, 409, 425, 493, 533, 573, 613, 669, 697, 725, 753, 766, 794, 822, 850, 890, 931, 959, 972, 1036, 1076, 1140, 1204, 1272, 1285, 1301, 1341, 1381, 1421, 1449, 1501, 1529, 1581, 1621, 1661, 1717, 1757, 1773, 1825, 1853, 1881, 1894, 1922, 1962, 2002, 2030, 2098, 2154, 2182, 2222, 2262, 2290, 2318, 2346, 2359, 2376, 2393], 260, 0, 0) from rfl) he (by rfl) (cs _ rfl))
    · exact wp_le (B := B + 1) (by omega) (wp_switch (t := 2450) (show mE mL_law 44 = some (.tableswitch 2406 0 60 #[260, 312, 340, 353, 369, 409, 425, 493, 533, 573, 613, 669, 697, 725, 753, 766, 794, 822, 850, 890, 931, 959, 972, 1036, 1076, 1140, 1204, 1272, 1285, 1301, 1341, 1381, 1421, 1449, 1501, 1529, 1581, 1621, 1661, 1717, 1757, 1773, 1825, 1853, 1881, 1894, 1922, 1962, 2002, 2030, 2098, 2154, 2182, 2222, 2262, 2290, 2318, 2346, 2359, 2376, 2393], 260, 0, 0) from rfl) he (by rfl) (cs _ rfl))
    · exact wp_le (B := B + 1) (by omega) (wp_switch (t := 2450) (show mE mL_law 44 = some (.tableswitch 2406 0 60 #[260, 312, 340, 353, 369, 409, 425, 493, 533, 573, 613, 669, 697, 725, 753, 766, 794, 822, 850, 890, 931, 959, 972, 1036, 1076, 1140, 1204, 1272, 1285, 1301, 1341, 1381, 1421, 1449, 1501, 1529, 1581, 1621, 1661, 1717, 1757, 1773, 1825, 1853, 1881, 1894, 1922, 1962, 2002, 2030, 2098, 2154, 2182, 2222, 2262, 2290, 2318, 2346, 2359, 2376, 2393], 260, 0, 0) from rfl) he (by rfl) (cs _ rfl))
end
section
/-! the calls that are not compared (printed by a program of mine) -/
set_option maxRecDepth 100000
theorem sg_58 : eSeg [cC_L_cleanShare, cC_X9_cleanShare] eMdL 2403 = true := by decide +kernel
theorem sh_58 : ∀ B ∈ [cC_L_cleanShare, cC_X9_cleanShare], eCo mtv eFu B := (eG_c kC_L_cleanShare (eG_c kC_X9_cleanShare eG_n))
theorem sg_59 : eSeg [cC_L_meanWished, cC_X9_meanWished] eMdL 2420 = true := by decide +kernel
theorem sh_59 : ∀ B ∈ [cC_L_meanWished, cC_X9_meanWished], eCo mtv eFu B := (eG_c kC_L_meanWished (eG_c kC_X9_meanWished eG_n))
theorem sg_61 : eSeg [] eMdL 2450 = true := by decide +kernel
theorem sh_61 : ∀ B ∈ [], eCo mtv eFu B := eG_n
end
section
/-! 33d: the start; small words for compared calls -/
noncomputable def eFB (f : eF) (v : Value) : Bool := match f, v with
  | .inl b, .int x => eIr b.1 b.2 x.toInt x.toInt
  | .inr (.inl q), .ref k => Nat.ble q.1 k && Nat.ble k q.2
  | .inr (.inr k), .long _ => Nat.beq k 0
  | .inr (.inr k), .double _ => Nat.beq k 1
  | _, _ => false
theorem eFB_s {f : eF} {v : Value} (h : eFB f v = true) : eFm 0 f v := by
  unfold eFB at h
  split at h
  · next b x => obtain ⟨h1, h2⟩ := eIr_s h; exact ⟨x, rfl, h1, h2⟩
  · next q k =>
    rw [Bool.and_eq_true] at h
    exact Or.inl ⟨q.1, q.2, rfl, eBle h.1, eBle h.2⟩
  · next k x => exact (by rw [eBeq h] : (.inr k : eO) = .inr 0)
  · next k x => exact Or.inl (by rw [eBeq h])
  · cases h
noncomputable def eFsB : List eF → List Value → Bool
  | [], [] => true
  | f :: fs, v :: vs => eFB f v && eFsB fs vs
  | _, _ => false
theorem eFsB_s : ∀ {fs : List eF} {vs : List Value}, eFsB fs vs = true → vs.length = fs.length ∧ ∀ (j : Nat) (f : eF), fs[j]? = some f → ∃ v, vs[j]? = some v ∧ eFm 0 f v
  | [], [], _ => ⟨rfl, fun j f h => by cases j <;> cases h⟩
  | f :: fs, v :: vs, h => by
    have h : (eFB f v && eFsB fs vs) = true := h
    rw [Bool.and_eq_true] at h
    obtain ⟨h1, h2⟩ := eFsB_s h.2
    refine ⟨congrArg (· + 1) h1, fun j g hj => ?_⟩
    cases j with
    | zero => cases hj; exact ⟨v, rfl, eFB_s h.1⟩
    | succ j => exact h2 j g hj
  | [], _ :: _, h => nomatch h
  | _ :: _, [], h => nomatch h
noncomputable def eIdC (z : Nat × Nat × eF) (w : List Value) : Bool := !(eIdB z.1) || (match z.2.2 with
  | .inr (.inl q) => (List.range w.length).all (fun i => match w[i]? with
    | some (.ref k) => Nat.beq k (q.1 + i)
    | _ => false)
  | _ => false)
theorem eIdC_s {z : Nat × Nat × eF} {w : List Value} (h : eIdC z w = true) : eIdP z w := fun hb => by
  unfold eIdC at h
  rw [hb] at h
  have h : (match z.2.2 with
    | .inr (.inl q) => (List.range w.length).all (fun i => match w[i]? with
      | some (.ref k) => Nat.beq k (q.1 + i)
      | _ => false)
    | _ => false) = true := h
  split at h
  · next q hq =>
    refine ⟨q.1, q.2, hq, fun i v hv => ?_⟩
    have h1 := List.all_eq_true.mp h i (List.mem_range.mpr (List.getElem?_eq_some_iff.mp hv).1)
    rw [hv] at h1
    cases v with
    | ref k => rw [eBeq (show Nat.beq k (q.1 + i) = true from h1)]
    | _ => cases h1
  · cases h
noncomputable def eCB (ct : eCT) (c : sC) : Bool := match ct, c with
  | .inl z, .inr q => Nat.beq z.1 q.1 && eFsB z.2 q.2
  | .inr z, .inl q => Nat.beq z.1 q.1 && (Nat.beq q.2.length z.2.1 && (q.2.all (fun v => eFB z.2.2 v) && eIdC z q.2))
  | _, _ => false
theorem eCB_s {ct : eCT} {c : sC} (h : eCB ct c = true) : eCell ct c := by
  unfold eCB at h
  split at h
  · next z q =>
    rw [Bool.and_eq_true] at h
    obtain ⟨h1, h2⟩ := eFsB_s h.2
    exact ⟨eBeq h.1, h1, h2⟩
  · next z q =>
    rw [Bool.and_eq_true, Bool.and_eq_true, Bool.and_eq_true] at h
    exact ⟨eBeq h.1, eBeq h.2.1, fun v hv => eFB_s (List.all_eq_true.mp h.2.2.1 v hv), eIdC_s h.2.2.2⟩
  · cases h
noncomputable def eInvB (h : sH) : Bool := Nat.beq h.length 119 && (List.range 119).all (fun a => match eRg a a, eNth h a with
  | some ct, some c => eCB ct c
  | _, _ => false)
theorem eInvB_s {h : sH} (hb : eInvB h = true) : eInv h := by
  unfold eInvB at hb
  rw [Bool.and_eq_true] at hb
  have hl := eBeq hb.1
  refine ⟨by omega, fun a ha => ?_, fun a c ha hc => ?_⟩
  · have h1 := List.all_eq_true.mp hb.2 a (List.mem_range.mpr ha)
    split at h1
    · next ct c hct hcc =>
      rw [eNth_eq] at hcc
      exact ⟨ct, c, hct, hcc, eCB_s h1⟩
    · cases h1
  · have := (List.getElem?_eq_some_iff.mp hc).1
    omega
set_option maxRecDepth 100000 in
theorem hp0_inv : eInv hp0 := eInvB_s (by decide +kernel)
theorem hp0_sz : eSz hp0 := ⟨0, 5, rfl, rfl, by decide⟩
theorem sInv0_V {mt : Nat → sM} {ix a1 a2 o : Nat} {st rest fs : List Value} {h : sH} (hn : mN (mt a1) ≤ st.length) (hd : st.drop (mN (mt a1)) = .ref o :: rest) (ho : h[o]? = some (.inr (a2, fs))) : sInv0 mt (.invokevirtual ix) a1 a2 st h = some (.ref o :: sArgs (mN (mt a1)) st, rest) := by
  unfold sInv0; dsimp only
  rw [if_pos hn, hd]; dsimp only
  rw [ho]; dsimp only
  rw [if_pos rfl]
theorem go_of {k d B : Nat} {as : List Value} {h : sH} {Q : sR → Prop} (hc : sCat as ≤ mL (mtv k)) (hB : B ≤ eFu) (w : sWp mtv (sGo1 mtv eFu d) (mtv k) none B (0, lv_args 0 as, [], h, 0, 0) Q) : ∃ r, Q r ∧ sGo1 mtv eFu (d + 1) k as h = some r := by
  obtain ⟨r, h1, h2⟩ := w
  refine ⟨r, h1, ?_⟩
  rw [sGo1_s, if_pos hc]
  have h3 := h2 (eFu - B)
  rwa [Nat.sub_add_cancel hB] at h3
theorem go_eq {k d B : Nat} {as : List Value} {h : sH} {r0 : sR} (hc : sCat as ≤ mL (mtv k)) (hB : B ≤ eFu) (w : sWp mtv (sGo1 mtv eFu d) (mtv k) none B (0, lv_args 0 as, [], h, 0, 0) (fun r => r = r0)) : sGo1 mtv eFu (d + 1) k as h = some r0 := by
  obtain ⟨r, h1, h2⟩ := go_of hc hB w
  rw [h2, h1]
noncomputable def xBt (a b c : Int32) : Int32 := if b ≤ a ∧ a ≤ c then 1 else 0
theorem xBt_01 (a b c : Int32) : xBt a b c = 0 ∨ xBt a b c = 1 := by
  unfold xBt; split
  · exact Or.inr rfl
  · exact Or.inl rfl
theorem sLgs {x : Int64} : sC1 .eq (lg_cmp x x) = true := by
  have h : lg_cmp x x = 0 := by
    unfold lg_cmp
    rw [if_neg (by rw [gt_iff_lt, Int64.lt_iff_toInt_lt]; exact Int.lt_irrefl _), if_pos rfl]
  rw [h]; rfl
theorem i32_i1 {i : Int32} {ys : List Int32} {c : Int} (hc : 0 ≤ c ∧ c ≤ 5) (hi : 0 ≤ i.toInt) (hi4 : i.toInt + 4 < ys.length) (hL : ys.length ≤ 2560) : (i + Int32.ofInt c).toInt = i.toInt + c := by
  have h5 : (Int32.ofInt c).toInt = c := Int32.toInt_ofInt_of_le (by omega) (by omega)
  rw [i32_add (by rw [h5]; omega) (by rw [h5]; omega), h5]
theorem sIn_i {i : Int32} {ys : List Int32} {c : Int} (hc : 0 ≤ c ∧ c ≤ 4) (hi : 0 ≤ i.toInt) (hi4 : i.toInt + 4 < ys.length) (hL : ys.length ≤ 2560) : sIn (i + Int32.ofInt c) ys.length = true := by
  have h := i32_i1 (c := c) (by omega) hi hi4 hL
  unfold sIn
  rw [Bool.not_eq_true', Bool.or_eq_false_iff, decide_eq_false_iff_not, decide_eq_false_iff_not]
  refine ⟨fun e => ?_, ?_⟩
  · have := Int32.lt_iff_toInt_lt.mp e
    have h0 : (0 : Int32).toInt = 0 := rfl
    omega
  · show ¬ ys.length ≤ (i + Int32.ofInt c).toInt.toNat
    omega
theorem eLaw_s {i : Int32} {lc : sL} {k : Nat} {v : Value} (hk : 6 ≤ k) (h : eLaw i lc) : eLaw i (sS1 k v lc) := by
  obtain ⟨⟨b, k0⟩, k1, k2, k3, k4, k5⟩ := h
  exact ⟨⟨b, sLk_s1n (by omega) k0 rfl⟩, sLk_s1n (by omega) k1 rfl, sLk_s1n (by omega) k2 rfl, sLk_s1n (by omega) k3 rfl, sLk_s1n (by omega) k4 rfl, sLk_s1n (by omega) k5 rfl⟩
theorem eLaw_5 {i j : Int32} {lc : sL} (h : eLaw i lc) : eLaw j (sS1 5 (.int j) lc) := by
  obtain ⟨⟨b, k0⟩, k1, k2, k3, k4, k5⟩ := h
  exact ⟨⟨b, sLk_s1n (by decide) k0 rfl⟩, sLk_s1n (by decide) k1 rfl, sLk_s1n (by decide) k2 rfl, sLk_s1n (by decide) k3 rfl, sLk_s1n (by decide) k4 rfl, sLk_s1⟩
theorem eSz_mod {md : eMd} {h h' : sH} (hI' : eInv h') (hM : eMod md h h') (m1 : eMa md 85 85 31 = false) (m2 : eMa md 85 85 34 = false) (hz : eSz h) : eSz h' := by
  obtain ⟨x, y, h2, h3, h4⟩ := hz
  exact ⟨x, y, (hM 85 34 (by decide) m2).trans h2, (hM 85 31 (by decide) m1).trans h3, h4⟩
/-- a call whose run is known keeps what its contract says -/
theorem eCo_k {C : eC} {D : Nat} {as : List Value} {h h' : sH} {r : Option Value ⊕ Nat} (hc : eCo mtv eFu C) (hD : C.2.1 ≤ D) (hI : eInv h) (hA : eAm 0 C.2.2.1 as) (hq : eRqm C.2.2.2.1 h) (g : sGo1 mtv eFu D C.1 as h = some (r, h')) : eInv h' ∧ h.length ≤ h'.length ∧ eMod C.2.2.2.2.1 h h' := by
  obtain ⟨r', h'', g1, g2, g3, g4, -, -⟩ := hc D as h hD hI hA hq
  rw [g] at g1
  cases g1
  exact ⟨g2, g3, g4⟩
end
