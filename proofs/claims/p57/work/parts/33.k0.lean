/-! the start of the law's loop: both objects are made -/
def hp0 : sH := [.inr (8, [.ref 1, .ref 9, .ref 12, .ref 13, .ref 14, .ref 15, .ref 16, .ref 17, .ref 18, .int (0), .int (0), .int (0), .int (0), .int (0), .int (0), .int (0), .int (1), .int (-1), .int (0), .int (0)]), .inr (4, [.ref 2, .int (5), .int (5), .int (3), .int (0), .long (0), .int (0)]), .inl (4, [.ref 3, .ref 4, .ref 5, .ref 6, .ref 7, .ref 8]), .inl (0, [.int (0), .int (0), .int (0), .int (0), .int (0), .int (0)]), .inl (0, [.int (0), .int (0), .int (0), .int (0), .int (0), .int (0)]), .inl (0, [.int (0), .int (0), .int (0), .int (0), .int (0), .int (0)]), .inl (0, [.int (0), .int (0), .int (0), .int (0), .int (0), .int (0)]), .inl (0, [.int (0), .int (0), .int (0), .int (0), .int (0), .int (0)]), .inl (0, [.int (0), .int (0), .int (0), .int (0), .int (0), .int (0)]), .inr (7, [.ref 10, .ref 11, .int (0), .int (0), .int (0), .int (0), .int (0), .int (0), .long (0)]), .inl (2, [.long (0), .long (0), .long (0), .long (0), .long (0), .long (0), .long (0), .long (0), .long (0), .long (0), .long (0), .long (0), .long (0), .long (0), .long (0), .long (0), .long (0), .long (0), .long (0), .long (0), .long (0), .long (0), .long (0), .long (0), .long (0), .long (0), .long (0), .long (0), .long (0), .long (0), .long (0), .long (0), .long (0), .long (0), .long (0), .long (0), .long (0), .long (0), .long (0), .long (0), .long (0), .long (0), .long (0), .long (0), .long (0), .long (0), .long (0), .long (0), .long (0), .long (0), .long (0), .long (0), .long (0), .long (0), .long (0), .long (0), .long (0), .long (0), .long (0), .long (0), .long (0), .long (0), .long (0), .long (0), .long (0), .long (0), .long (0), .long (0), .long (0), .long (0), .long (0), .long (0), .long (0), .long (0), .long (0), .long (0), .long (0), .long (0), .long (0), .long (0), .long (0), .long (0), .long (0), .long (0), .long (0), .long (0), .long (0), .long (0), .long (0), .long (0), .long (0), .long (0), .long (0), .long (0), .long (0), .long (0), .long (0), .long (0), .long (0), .long (0), .long (0), .long (0), .long (0), .long (0), .long (0), .long (0), .long (0), .long (0), .long (0), .long (0), .long (0), .long (0), .long (0), .long (0), .long (0), .long (0), .long (0), .long (0), .long (0), .long (0), .long (0), .long (0), .long (0), .long (0), .long (0), .long (0), .long (0), .long (0), .long (0), .long (0), .long (0), .long (0), .long (0), .long (0), .long (0), .long (0), .long (0), .long (0), .long (0), .long (0), .long (0), .long (0), .long (0), .long (0), .long (0), .long (0), .long (0), .long (0), .long (0), .long (0), .long (0), .long (0), .long (0), .long (0), .long (0), .long (0), .long (0), .long (0), .long (0), .long (0), .long (0), .long (0), .long (0), .long (0), .long (0), .long (0), .long (0), .long (0), .long (0), .long (0), .long (0), .long (0), .long (0), .long (0), .long (0), .long (0), .long (0), .long (0), .long (0), .long (0)]), .inl (2, [.long (0), .long (0), .long (0), .long (0), .long (0), .long (0), .long (0), .long (0), .long (0), .long (0)]), .inl (8, [.ref 19, .ref 20, .ref 21, .ref 22, .ref 23, .ref 24, .ref 25, .ref 26, .ref 27, .ref 28, .ref 29, .ref 30, .ref 31, .ref 32, .ref 33, .ref 34]), .inl (6, [.ref 35, .ref 36, .ref 37, .ref 38, .ref 39, .ref 40, .ref 41, .ref 42, .ref 43, .ref 44]), .inl (11, [.ref 45, .ref 46, .ref 47, .ref 48, .ref 49, .ref 50, .ref 51, .ref 52, .ref 53, .ref 54, .ref 55, .ref 56]), .inl (2, [.long (0), .long (0), .long (0), .long (0)]), .inl (10, [.ref 57, .ref 58, .ref 59, .ref 60, .ref 61, .ref 62, .ref 63, .ref 64]), .inl (7, [.ref 65, .ref 66, .ref 67, .ref 68, .ref 69, .ref 70, .ref 71, .ref 72]), .inl (5, [.ref 73, .ref 74, .ref 75, .ref 76, .ref 77, .ref 78, .ref 79, .ref 80, .ref 81, .ref 82, .ref 83, .ref 84]), .inr (3, [.long (0), .int (0), .int (0), .int (0), .int (-1), .int (0)]), .inr (3, [.long (0), .int (0), .int (0), .int (0), .int (-1), .int (0)]), .inr (3, [.long (0), .int (0), .int (0), .int (0), .int (-1), .int (0)]), .inr (3, [.long (0), .int (0), .int (0), .int (0), .int (-1), .int (0)]), .inr (3, [.long (0), .int (0), .int (0), .int (0), .int (-1), .int (0)]), .inr (3, [.long (0), .int (0), .int (0), .int (0), .int (-1), .int (0)]), .inr (3, [.long (0), .int (0), .int (0), .int (0), .int (-1), .int (0)]), .inr (3, [.long (0), .int (0), .int (0), .int (0), .int (-1), .int (0)]), .inr (3, [.long (0), .int (0), .int (0), .int (0), .int (-1), .int (0)]), .inr (3, [.long (0), .int (0), .int (0), .int (0), .int (-1), .int (0)]), .inr (3, [.long (0), .int (0), .int (0), .int (0), .int (-1), .int (0)]), .inr (3, [.long (0), .int (0), .int (0), .int (0), .int (-1), .int (0)]), .inr (3, [.long (0), .int (0), .int (0), .int (0), .int (-1), .int (0)]), .inr (3, [.long (0), .int (0), .int (0), .int (0), .int (-1), .int (0)]), .inr (3, [.long (0), .int (0), .int (0), .int (0), .int (-1), .int (0)]), .inr (3, [.long (0), .int (0), .int (0), .int (0), .int (-1), .int (0)]), .inr (1, [.int (0), .int (0), .int (-1)]), .inr (1, [.int (0), .int (0), .int (-1)]), .inr (1, [.int (0), .int (0), .int (-1)]), .inr (1, [.int (0), .int (0), .int (-1)]), .inr (1, [.int (0), .int (0), .int (-1)]), .inr (1, [.int (0), .int (0), .int (-1)]), .inr (1, [.int (0), .int (0), .int (-1)]), .inr (1, [.int (0), .int (0), .int (-1)]), .inr (1, [.int (0), .int (0), .int (-1)]), .inr (1, [.int (0), .int (0), .int (-1)]), .inr (6, [.int (0), .int (0), .int (0)]), .inr (6, [.int (0), .int (0), .int (0)]), .inr (6, [.int (0), .int (0), .int (0)]), .inr (6, [.int (0), .int (0), .int (0)]), .inr (6, [.int (0), .int (0), .int (0)]), .inr (6, [.int (0), .int (0), .int (0)]), .inr (6, [.int (0), .int (0), .int (0)]), .inr (6, [.int (0), .int (0), .int (0)]), .inr (6, [.int (0), .int (0), .int (0)]), .inr (6, [.int (0), .int (0), .int (0)]), .inr (6, [.int (0), .int (0), .int (0)]), .inr (6, [.int (0), .int (0), .int (0)]), .inr (5, [.int (0), .int (-1), .int (-1), .int (0)]), .inr (5, [.int (0), .int (-1), .int (-1), .int (0)]), .inr (5, [.int (0), .int (-1), .int (-1), .int (0)]), .inr (5, [.int (0), .int (-1), .int (-1), .int (0)]), .inr (5, [.int (0), .int (-1), .int (-1), .int (0)]), .inr (5, [.int (0), .int (-1), .int (-1), .int (0)]), .inr (5, [.int (0), .int (-1), .int (-1), .int (0)]), .inr (5, [.int (0), .int (-1), .int (-1), .int (0)]), .inr (2, [.int (0), .int (0), .int (0), .int (0), .int (0)]), .inr (2, [.int (0), .int (0), .int (0), .int (0), .int (0)]), .inr (2, [.int (0), .int (0), .int (0), .int (0), .int (0)]), .inr (2, [.int (0), .int (0), .int (0), .int (0), .int (0)]), .inr (2, [.int (0), .int (0), .int (0), .int (0), .int (0)]), .inr (2, [.int (0), .int (0), .int (0), .int (0), .int (0)]), .inr (2, [.int (0), .int (0), .int (0), .int (0), .int (0)]), .inr (2, [.int (0), .int (0), .int (0), .int (0), .int (0)]), .inr (0, [.int (0), .int (0), .int (0), .int (0), .int (0)]), .inr (0, [.int (0), .int (0), .int (0), .int (0), .int (0)]), .inr (0, [.int (0), .int (0), .int (0), .int (0), .int (0)]), .inr (0, [.int (0), .int (0), .int (0), .int (0), .int (0)]), .inr (0, [.int (0), .int (0), .int (0), .int (0), .int (0)]), .inr (0, [.int (0), .int (0), .int (0), .int (0), .int (0)]), .inr (0, [.int (0), .int (0), .int (0), .int (0), .int (0)]), .inr (0, [.int (0), .int (0), .int (0), .int (0), .int (0)]), .inr (0, [.int (0), .int (0), .int (0), .int (0), .int (0)]), .inr (0, [.int (0), .int (0), .int (0), .int (0), .int (0)]), .inr (0, [.int (0), .int (0), .int (0), .int (0), .int (0)]), .inr (0, [.int (0), .int (0), .int (0), .int (0), .int (0)]), .inr (9, [.ref 86, .ref 87, .ref 88, .ref 89, .ref 90, .ref 91, .ref 92, .ref 93, .ref 94, .ref 95, .ref 96, .ref 97, .ref 98, .ref 99, .ref 100, .ref 101, .ref 102, .ref 103, .ref 104, .ref 105, .ref 106, .ref 107, .ref 108, .ref 109, .ref 110, .ref 111, .ref 112, .ref 113, .ref 114, .ref 115, .ref 116, .int (5), .int (5), .int (3), .int (0), .int (0), .int (0), .int (0), .int (0), .int (0), .int (0), .int (0), .int (0), .int (0), .int (-1), .int (0), .int (0), .int (1)]), .inl (0, [.int (0), .int (0), .int (0), .int (0), .int (0), .int (0), .int (0), .int (0), .int (0), .int (0), .int (0), .int (0), .int (0), .int (0), .int (0), .int (0), .int (0), .int (0), .int (0), .int (0), .int (0), .int (0), .int (0), .int (0), .int (0), .int (0), .int (0), .int (0), .int (0), .int (0), .int (0), .int (0), .int (0), .int (0), .int (0), .int (0), .int (0), .int (0), .int (0), .int (0), .int (0), .int (0), .int (0), .int (0), .int (0), .int (0), .int (0), .int (0), .int (0), .int (0), .int (0), .int (0), .int (0), .int (0), .int (0), .int (0), .int (0), .int (0), .int (0), .int (0), .int (0), .int (0), .int (0), .int (0), .int (0), .int (0), .int (0), .int (0), .int (0), .int (0), .int (0), .int (0), .int (0), .int (0), .int (0), .int (0), .int (0), .int (0), .int (0), .int (0), .int (0), .int (0), .int (0), .int (0), .int (0), .int (0), .int (0), .int (0), .int (0), .int (0), .int (0), .int (0), .int (0), .int (0), .int (0), .int (0)]), .inl (0, [.int (0), .int (0), .int (0), .int (0), .int (0), .int (0)]), .inl (0, [.int (0), .int (0), .int (0), .int (0), .int (0), .int (0), .int (0), .int (0), .int (0), .int (0), .int (0), .int (0), .int (0), .int (0), .int (0), .int (0)]), .inl (0, [.int (-1), .int (-1), .int (-1), .int (-1), .int (-1), .int (-1), .int (-1), .int (-1), .int (-1), .int (-1), .int (-1), .int (-1), .int (-1), .int (-1), .int (-1), .int (-1)]), .inl (0, [.int (0), .int (0), .int (0), .int (0), .int (0), .int (0), .int (0), .int (0), .int (0), .int (0), .int (0), .int (0), .int (0), .int (0), .int (0), .int (0)]), .inl (0, [.int (0), .int (0), .int (0), .int (0), .int (0), .int (0)]), .inl (1, [.int (0), .int (0), .int (0), .int (0), .int (0), .int (0), .int (0), .int (0), .int (0), .int (0), .int (0), .int (0), .int (0), .int (0), .int (0), .int (0)]), .inl (1, [.int (0), .int (0), .int (0), .int (0), .int (0), .int (0), .int (0), .int (0)]), .inl (1, [.int (0), .int (0), .int (0), .int (0), .int (0), .int (0), .int (0), .int (0)]), .inl (0, [.int (0), .int (0), .int (0), .int (0), .int (0), .int (0), .int (0), .int (0), .int (0), .int (0), .int (0), .int (0), .int (0), .int (0), .int (0), .int (0)]), .inl (0, [.int (0), .int (1), .int (2), .int (3), .int (4), .int (5), .int (6), .int (7), .int (8), .int (9), .int (10), .int (11), .int (12), .int (13), .int (14), .int (15)]), .inl (0, [.int (0), .int (0), .int (0), .int (0), .int (0), .int (0), .int (0), .int (0), .int (0), .int (0)]), .inl (0, [.int (-1), .int (-1), .int (-1), .int (-1), .int (-1), .int (-1), .int (-1), .int (-1), .int (-1), .int (-1)]), .inl (0, [.int (-1), .int (-1), .int (-1), .int (-1), .int (-1), .int (-1), .int (-1), .int (-1)]), .inl (0, [.int (-1), .int (-1), .int (-1), .int (-1), .int (-1), .int (-1), .int (-1), .int (-1)]), .inl (0, [.int (0), .int (0), .int (0), .int (0), .int (0), .int (0), .int (0), .int (0), .int (0), .int (0), .int (0), .int (0)]), .inl (0, [.int (0), .int (0), .int (0), .int (0), .int (0), .int (0), .int (0), .int (0), .int (0), .int (0), .int (0), .int (0)]), .inl (0, [.int (0), .int (0), .int (0), .int (0), .int (0), .int (0), .int (0), .int (0), .int (0), .int (0), .int (0), .int (0)]), .inl (0, [.int (0), .int (0), .int (0), .int (0)]), .inl (0, [.int (0), .int (0), .int (0), .int (0), .int (0), .int (0), .int (0), .int (0), .int (0), .int (0), .int (0), .int (0), .int (0), .int (0), .int (0), .int (0), .int (0), .int (0), .int (0), .int (0), .int (0), .int (0), .int (0), .int (0)]), .inl (0, [.int (0), .int (0), .int (0), .int (0), .int (0), .int (0)]), .inl (0, [.int (0), .int (0), .int (0), .int (0), .int (0), .int (0), .int (0), .int (0)]), .inl (0, [.int (0), .int (0), .int (0), .int (0), .int (0), .int (0), .int (0), .int (0)]), .inl (0, [.int (0), .int (0), .int (0), .int (0), .int (0), .int (0), .int (0), .int (0)]), .inl (0, [.int (0), .int (0), .int (0), .int (0), .int (0), .int (0), .int (0), .int (0)]), .inl (0, [.int (0), .int (0), .int (0), .int (0), .int (0), .int (0), .int (0), .int (0)]), .inl (0, [.int (0), .int (0), .int (0), .int (0), .int (0), .int (0), .int (0), .int (0), .int (0), .int (0), .int (0), .int (0)]), .inl (0, [.int (0), .int (0), .int (0), .int (0), .int (0), .int (0), .int (0), .int (0), .int (0), .int (0), .int (0), .int (0)]), .inl (0, [.int (0), .int (0), .int (0), .int (0), .int (0), .int (0), .int (0), .int (0), .int (0), .int (0), .int (0), .int (0)]), .inl (0, [.int (0), .int (0), .int (0), .int (0), .int (0), .int (0), .int (0), .int (0), .int (0), .int (0), .int (0), .int (0)]), .inl (0, [.int (0), .int (0), .int (0), .int (0), .int (0), .int (0), .int (0), .int (0), .int (0), .int (0), .int (0), .int (0)]), .inl (2, [.long (0)]), .inl (3, [.double 0])]
def lv0 : sL := [(5, .int (0)), (4, .ref 118), (3, .ref 117), (2, .ref 85), (1, .ref 0), (0, .retAddr 0)]
def kk0 : sK := (28, lv0, [], hp0, 119, 1108)
/-- the law answers 1 from its loop's start on -/
def wLaw (xs : List Int32) : Prop := sWp mtv (sGo1 mtv eFu 30) mL_law (some xs) eFu kk0 (fun r => r.1 = .inl (some (.int 1)))
/-! the way to the loop's start, whatever the script -/
theorem sHp_xs {ys : List Int32} {i : Instr} {a1 a2 pc : Nat} {l : sL} {st : List Value} {h : sH} {q : Nat × sL × List Value × sH} (hq : sHp none i a1 a2 pc l st h = some q) : sHp (some ys) i a1 a2 pc l st h = some q := by
  cases i <;> first | exact hq | skip
  · unfold sHp at hq ⊢
    dsimp only at hq ⊢
    split at hq
    · exact hq
    · cases hq
    · cases hq
  · unfold sHp at hq ⊢
    dsimp only at hq ⊢
    split at hq
    · exact hq
    · cases hq
    · cases hq
theorem sHp_xn {ys : List Int32} {i : Instr} {a1 a2 pc : Nat} {l : sL} {st : List Value} {h : sH} (hq : sHp none i a1 a2 pc l st h = none) : sHp (some ys) i a1 a2 pc l st h = none ∨ i = .arraylength ∨ i = .iaload := by
  cases i <;> first | exact Or.inl hq | exact Or.inr (Or.inl rfl) | exact Or.inr (Or.inr rfl)
theorem sStep_xs {mt : Nat → sM} {call : Nat → List Value → sH → Option sR} {M : sM} {ys : List Int32} {cf : sK} {z : sK ⊕ sR} (h : sStep mt call M none cf = some z) : sStep mt call M (some ys) cf = some z := by
  unfold sStep at h ⊢
  split at h
  · cases h
  next e he =>
  (try rw [he]); (try dsimp only)
  split at h
  · next q hq => (try rw [hq]); exact h
  next hP =>
  (try rw [hP]); (try dsimp only)
  split at h
  · next q hq => rw [sHp_xs hq]; exact h
  next hH =>
  rcases sHp_xn (ys := ys) hH with h1 | h1 | h1
  · rw [h1]; exact h
  · rw [h1] at h
    exfalso
    revert h
    show (if 1000 ≤ e.2.2.1 then (none : Option (sK ⊕ sR)) else none) = some z → False
    intro h
    split at h <;> cases h
  · rw [h1] at h
    exfalso
    revert h
    show (if 1000 ≤ e.2.2.1 then (none : Option (sK ⊕ sR)) else none) = some z → False
    intro h
    split at h <;> cases h
noncomputable def sAdv (mt : Nat → sM) (call : Nat → List Value → sH → Option sR) (M : sM) (n : Nat) : sK → Option sK :=
  Nat.rec (fun cf => some cf) (fun _ ih cf => match sStep mt call M none cf with
    | some (.inl k) => ih k
    | _ => none) n
theorem sAdv_ok {mt : Nat → sM} {call : Nat → List Value → sH → Option sR} {M : sM} {ys : List Int32} : ∀ (n : Nat) (cf cf' : sK) (k : Nat), sAdv mt call M n cf = some cf' → sRun mt call M (some ys) (k + n) cf = sRun mt call M (some ys) k cf'
  | 0, cf, cf', k, h => by cases h; rfl
  | n + 1, cf, cf', k, h => by
    have h : (match sStep mt call M none cf with
      | some (.inl k) => sAdv mt call M n k
      | _ => none) = some cf' := h
    split at h
    · next c hs =>
      rw [← Nat.add_assoc, sRun_s, sStep_xs hs]
      exact sAdv_ok n c cf' k h
    · cases h
def vEq (a b : Value) : Bool := match a, b with
  | .int x, .int y => decide (x = y)
  | .long x, .long y => decide (x = y)
  | .float x, .float y => decide (x = y)
  | .double x, .double y => decide (x = y)
  | .ref x, .ref y => decide (x = y)
  | .retAddr x, .retAddr y => decide (x = y)
  | .null, .null => true
  | _, _ => false
theorem vEq_s {a b : Value} (h : vEq a b = true) : a = b := by
  cases a <;> cases b <;> first | rfl | (cases h; done) | (have h := of_decide_eq_true h; rw [h])
def lEq {α : Type} (f : α → α → Bool) : List α → List α → Bool
  | [], [] => true
  | a :: l, b :: m => f a b && lEq f l m
  | _, _ => false
theorem lEq_s {α : Type} {f : α → α → Bool} (hf : ∀ a b, f a b = true → a = b) : ∀ (l m : List α), lEq f l m = true → l = m
  | [], [], _ => rfl
  | a :: l, b :: m, h => by
    have h : (f a b && lEq f l m) = true := h
    rw [Bool.and_eq_true] at h
    rw [hf _ _ h.1, lEq_s hf _ _ h.2]
  | [], _ :: _, h => nomatch h
  | _ :: _, [], h => nomatch h
def cEq (a b : sC) : Bool := match a, b with
  | .inl p, .inl q => Nat.beq p.1 q.1 && lEq vEq p.2 q.2
  | .inr p, .inr q => Nat.beq p.1 q.1 && lEq vEq p.2 q.2
  | _, _ => false
theorem cEq_s {a b : sC} (h : cEq a b = true) : a = b := by
  rcases a with ⟨n, l⟩ | ⟨n, l⟩ <;> rcases b with ⟨m, k⟩ | ⟨m, k⟩
  · have h : (Nat.beq n m && lEq vEq l k) = true := h
    rw [Bool.and_eq_true] at h
    rw [Nat.eq_of_beq_eq_true h.1, lEq_s (fun _ _ => vEq_s) _ _ h.2]
  · cases h
  · cases h
  · have h : (Nat.beq n m && lEq vEq l k) = true := h
    rw [Bool.and_eq_true] at h
    rw [Nat.eq_of_beq_eq_true h.1, lEq_s (fun _ _ => vEq_s) _ _ h.2]
def qEq (a b : Nat × Value) : Bool := Nat.beq a.1 b.1 && vEq a.2 b.2
theorem qEq_s {a b : Nat × Value} (h : qEq a b = true) : a = b := by
  rcases a with ⟨n, v⟩
  rcases b with ⟨m, w⟩
  have h : (Nat.beq n m && vEq v w) = true := h
  rw [Bool.and_eq_true] at h
  rw [Nat.eq_of_beq_eq_true h.1, vEq_s h.2]
def kEq (a b : sK) : Bool := Nat.beq a.1 b.1 && (lEq qEq a.2.1 b.2.1 && (lEq vEq a.2.2.1 b.2.2.1 && (lEq cEq a.2.2.2.1 b.2.2.2.1 && (Nat.beq a.2.2.2.2.1 b.2.2.2.2.1 && Nat.beq a.2.2.2.2.2 b.2.2.2.2.2))))
theorem kEq_s {a b : sK} (h : kEq a b = true) : a = b := by
  rcases a with ⟨a1, a2, a3, a4, a5, a6⟩
  rcases b with ⟨b1, b2, b3, b4, b5, b6⟩
  have h : (Nat.beq a1 b1 && (lEq qEq a2 b2 && (lEq vEq a3 b3 && (lEq cEq a4 b4 && (Nat.beq a5 b5 && Nat.beq a6 b6))))) = true := h
  simp only [Bool.and_eq_true] at h
  rw [Nat.eq_of_beq_eq_true h.1, lEq_s (fun _ _ => qEq_s) _ _ h.2.1, lEq_s (fun _ _ => vEq_s) _ _ h.2.2.1, lEq_s (fun _ _ => cEq_s) _ _ h.2.2.2.1, Nat.eq_of_beq_eq_true h.2.2.2.2.1, Nat.eq_of_beq_eq_true h.2.2.2.2.2]
set_option maxRecDepth 100000 in
theorem kk0_b : (match sAdv mtv (sGo1 mtv eFu 30) mL_law 16 (0, [(0, .retAddr 0)], [], [], 0, 0) with
    | some c => kEq c kk0
    | none => false) = true := by decide +kernel
theorem kk0_ok : sAdv mtv (sGo1 mtv eFu 30) mL_law 16 (0, [(0, .retAddr 0)], [], [], 0, 0) = some kk0 := by
  have h := kk0_b
  split at h
  · next c hc => rw [hc, kEq_s h]
  · cases h
theorem wLaw_run {ys : List Int32} (h : wLaw ys) : ∃ h', sRun mtv (sGo1 mtv eFu 30) mL_law (some ys) (eFu + 16) (0, [(0, .retAddr 0)], [], [], 0, 0) = some (.inl (some (.int 1)), h') := by
  obtain ⟨r, hr, k⟩ := h
  have k0 := k 0
  rw [Nat.zero_add] at k0
  refine ⟨r.2, ?_⟩
  rw [sAdv_ok 16 _ _ _ kk0_ok, k0]
  rcases r with ⟨a, b⟩
  cases hr
  rfl
