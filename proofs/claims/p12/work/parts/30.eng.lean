/-! A CHECKER OF METHODS BY BOUNDS (part 30: its words and steps; part 31: what a run that it takes comes to).
An int is a term: a variable and a number to be added; the variable 0 is 0. Bounds of variables stand in a list. -/
noncomputable abbrev eT : Type := Nat × Int
noncomputable abbrev eO : Type := (Nat × Nat) ⊕ Nat
noncomputable abbrev eA : Type := eT ⊕ eO
noncomputable abbrev eF : Type := (Int × Int) ⊕ eO
/-- what operations gave: operation, two terms, the term that it gave -/
noncomputable abbrev eMm : Type := List ((Nat × eT × eT) × eT)
noncomputable abbrev eSt : Type := List (Nat × Int × Int) × eMm
noncomputable abbrev eRf : Type := List ((Nat × Nat) × eT)
/-- the next variable, the bounds, the fields that are known -/
noncomputable abbrev eW : Type := Nat × eSt × eRf
noncomputable abbrev eLv : Type := List (Option eA)
noncomputable abbrev eCT : Type := (Nat × List eF) ⊕ (Nat × Nat × eF)
noncomputable abbrev eMd : Type := List (Nat × Nat × Nat)
noncomputable abbrev eQ : Type := Nat × eLv × List eA × eW
/-! numbers -/
noncomputable def eLe (a b : Int) : Bool := match b - a with
  | .ofNat _ => true
  | .negSucc _ => false
theorem eLe_s {a b : Int} : eLe a b = true ↔ a ≤ b := by
  unfold eLe
  split
  · next n h => exact ⟨fun _ => Int.sub_nonneg.mp (by rw [h]; exact Int.natCast_nonneg n), fun _ => rfl⟩
  · next n h => exact ⟨fun h2 => Bool.noConfusion h2, fun h2 => absurd (Int.sub_nonneg.mpr h2) (by rw [h]; exact Int.not_le.mpr (Int.negSucc_lt_zero n))⟩
noncomputable def eMin (a b : Int) : Int := bif eLe a b then a else b
noncomputable def eMax (a b : Int) : Int := bif eLe a b then b else a
theorem eMin_s {a b x : Int} (h1 : x ≤ a) (h2 : x ≤ b) : x ≤ eMin a b := by
  unfold eMin; cases eLe a b <;> assumption
theorem eMax_s {a b x : Int} (h1 : a ≤ x) (h2 : b ≤ x) : eMax a b ≤ x := by
  unfold eMax; cases eLe a b <;> assumption
theorem eBif {a b : Bool} (h : (bif a then b else false) = true) : a = true ∧ b = true := by
  cases a
  · cases h
  · exact ⟨rfl, h⟩
theorem eBifN {α : Type} {a : Bool} {x : Option α} {y : α} (h : (bif a then x else none) = some y) : a = true ∧ x = some y := by
  cases a
  · cases h
  · exact ⟨rfl, h⟩
theorem eBle {a b : Nat} (h : Nat.ble a b = true) : a ≤ b := Nat.le_of_ble_eq_true h
theorem eBeq {a b : Nat} (h : Nat.beq a b = true) : a = b := Nat.eq_of_beq_eq_true h
/-! lists, by recursion that the kernel runs -/
noncomputable def eNth {α : Type} (l : List α) : Nat → Option α := List.rec (motive := fun _ => Nat → Option α) (fun _ => none) (fun a _ ih k => Nat.rec (motive := fun _ => Option α) (some a) (fun k _ => ih k) k) l
noncomputable def ePut {α : Type} (l : List α) : Nat → α → List α := List.rec (motive := fun _ => Nat → α → List α) (fun _ _ => []) (fun a l ih k v => Nat.rec (motive := fun _ => List α) (v :: l) (fun k _ => a :: ih k v) k) l
noncomputable def eAll {α : Type} (f : α → Bool) (l : List α) : Bool := List.rec (motive := fun _ => Bool) true (fun a _ ih => bif f a then ih else false) l
noncomputable def eAny {α : Type} (f : α → Bool) (l : List α) : Bool := List.rec (motive := fun _ => Bool) false (fun a _ ih => bif f a then true else ih) l
noncomputable def eFil {α : Type} (f : α → Bool) (l : List α) : List α := List.rec (motive := fun _ => List α) [] (fun a _ ih => bif f a then a :: ih else ih) l
theorem eNth_eq {α : Type} : ∀ (l : List α) (k : Nat), eNth l k = l[k]?
  | [], k => by cases k <;> rfl
  | a :: l, 0 => rfl
  | a :: l, k + 1 => eNth_eq l k
theorem ePut_eq {α : Type} : ∀ (l : List α) (k : Nat) (v : α), ePut l k v = l.set k v
  | [], k, v => by cases k <;> rfl
  | a :: l, 0, v => rfl
  | a :: l, k + 1, v => congrArg (a :: ·) (ePut_eq l k v)
theorem eAll_s {α : Type} {f : α → Bool} : ∀ {l : List α}, eAll f l = true → ∀ a ∈ l, f a = true
  | [], _, a, h => nomatch h
  | b :: l, h, a, ha => by
    have h : (bif f b then eAll f l else false) = true := h
    obtain ⟨h1, h2⟩ := eBif h
    cases ha with
    | head => exact h1
    | tail _ h3 => exact eAll_s h2 a h3
theorem eAny_s {α : Type} {f : α → Bool} : ∀ {l : List α}, eAny f l = true → ∃ a ∈ l, f a = true
  | [], h => by cases h
  | b :: l, h => by
    have h : (bif f b then true else eAny f l) = true := h
    cases hb : f b with
    | true => exact ⟨b, List.mem_cons_self, hb⟩
    | false => rw [hb] at h; obtain ⟨a, h1, h2⟩ := eAny_s (l := l) h; exact ⟨a, List.mem_cons_of_mem _ h1, h2⟩
theorem eFil_s {α : Type} {f : α → Bool} : ∀ {l : List α} {a : α}, a ∈ eFil f l → a ∈ l ∧ f a = true
  | [], a, h => nomatch h
  | b :: l, a, h => by
    have h : a ∈ (bif f b then b :: eFil f l else eFil f l) := h
    cases hb : f b with
    | true =>
      rw [hb] at h
      have h : a ∈ b :: eFil f l := h
      cases h with
      | head => exact ⟨List.mem_cons_self, hb⟩
      | tail _ h => obtain ⟨h1, h2⟩ := eFil_s h; exact ⟨List.mem_cons_of_mem _ h1, h2⟩
    | false =>
      rw [hb] at h
      obtain ⟨h1, h2⟩ := eFil_s (l := l) h
      exact ⟨List.mem_cons_of_mem _ h1, h2⟩
/-! the heap's shape: the first and last place, and what stands there -/
noncomputable abbrev eI0 : eF := .inl (-2147483648, 2147483647)
noncomputable abbrev eBo : eF := .inl (0, 1)
noncomputable abbrev eLg : eF := .inr (.inr 0)
noncomputable abbrev eRr (a b : Nat) : eF := .inr (.inl (a, b))
noncomputable def eReg : List (Nat × Nat × eCT) := [
  (0, 0, .inl (8, [eRr 1 1, eRr 9 9, eRr 12 12, eRr 13 13, eRr 14 14, eRr 15 15, eRr 16 16, eRr 17 17, eRr 18 18, .inl (0, 16), .inl (0, 10), .inl (0, 12), .inl (0, 4), .inl (0, 8), .inl (0, 8), .inl (0, 12), eBo, eI0, eI0, .inl (0, 4095)])),
  (1, 1, .inl (4, [eRr 2 2, .inl (3, 6), .inl (2, 6), .inl (1, 5), eI0, eLg, .inl (0, 6)])),
  (2, 2, .inr (4, 6, eRr 3 8)),
  (3, 8, .inr (0, 6, eI0)),
  (9, 9, .inl (7, [eRr 10 10, eRr 11 11, .inl (0, 180), .inl (0, 10), eBo, .inl (0, 6), .inl (0, 6), eI0, eLg])),
  (10, 10, .inr (2, 180, eLg)),
  (11, 11, .inr (2, 10, eLg)),
  (12, 12, .inr (8, 16, eRr 19 34)),
  (13, 13, .inr (6, 10, eRr 35 44)),
  (14, 14, .inr (11, 12, eRr 45 56)),
  (15, 15, .inr (2, 4, eLg)),
  (16, 16, .inr (10, 8, eRr 57 64)),
  (17, 17, .inr (7, 8, eRr 65 72)),
  (18, 18, .inr (5, 12, eRr 73 84)),
  (19, 34, .inl (3, [eLg, eI0, eBo, eI0, eI0, eI0])),
  (35, 44, .inl (1, [eI0, eI0, eI0])),
  (45, 56, .inl (6, [eI0, eI0, eBo])),
  (57, 64, .inl (5, [eBo, .inl (-1, 7), .inl (-1, 7), eI0])),
  (65, 72, .inl (2, [eI0, eI0, eBo, .inl (0, 255), .inl (0, 4095)])),
  (73, 84, .inl (0, [.inl (0, 7), .inl (0, 255), .inl (0, 255), .inl (0, 4095), eI0])),
  (85, 85, .inl (9, [eRr 86 86, eRr 87 87, eRr 88 88, eRr 89 89, eRr 90 90, eRr 91 91, eRr 92 92, eRr 93 93, eRr 94 94, eRr 95 95, eRr 96 96, eRr 97 97, eRr 98 98, eRr 99 99, eRr 100 100, eRr 101 101, eRr 102 102, eRr 103 103, eRr 104 104, eRr 105 105, eRr 106 106, eRr 107 107, eRr 108 108, eRr 109 109, eRr 110 110, eRr 111 111, eRr 112 112, eRr 113 113, eRr 114 114, eRr 115 115, eRr 116 116,
    .inl (3, 6), .inl (2, 6), .inl (1, 5), .inl (0, 6), .inl (0, 16), .inl (0, 10), .inl (0, 8), .inl (0, 8), .inl (0, 12), .inl (0, 4095), eI0, eI0, eI0, eI0, .inl (0, 12), .inl (0, 4), eBo])),
  (86, 86, .inr (0, 96, eI0)),
  (87, 87, .inr (0, 6, eI0)),
  (88, 88, .inr (0, 16, eI0)),
  (89, 89, .inr (0, 16, eI0)),
  (90, 90, .inr (0, 16, eI0)),
  (91, 91, .inr (0, 6, eI0)),
  (92, 92, .inr (1, 16, eBo)),
  (93, 93, .inr (1, 8, eBo)),
  (94, 94, .inr (1, 8, eBo)),
  (95, 95, .inr (0, 16, eI0)),
  (96, 96, .inr (0, 16, eI0)),
  (97, 97, .inr (0, 10, eI0)),
  (98, 98, .inr (0, 10, eI0)),
  (99, 99, .inr (0, 8, .inl (-1, 7))),
  (100, 100, .inr (0, 8, .inl (-1, 7))),
  (101, 101, .inr (0, 12, eI0)),
  (102, 102, .inr (0, 12, eI0)),
  (103, 103, .inr (0, 12, eI0)),
  (104, 104, .inr (0, 4, .inl (0, 6))),
  (105, 105, .inr (0, 24, eI0)),
  (106, 106, .inr (0, 6, eI0)),
  (107, 107, .inr (0, 8, eI0)),
  (108, 108, .inr (0, 8, eI0)),
  (109, 109, .inr (0, 8, eI0)),
  (110, 110, .inr (0, 8, .inl (0, 255))),
  (111, 111, .inr (0, 8, .inl (0, 4095))),
  (112, 112, .inr (0, 12, .inl (0, 7))),
  (113, 113, .inr (0, 12, .inl (0, 255))),
  (114, 114, .inr (0, 12, .inl (0, 255))),
  (115, 115, .inr (0, 12, .inl (0, 4095))),
  (116, 116, .inr (0, 12, eI0)),
  (117, 117, .inr (2, 1, eLg)),
  (118, 118, .inr (3, 1, .inr (.inr 1)))]
noncomputable def eRgL (lo hi : Nat) (l : List (Nat × Nat × eCT)) : Option eCT := List.rec (motive := fun _ => Option eCT) none (fun q _ ih => bif Nat.ble q.1 lo then (bif Nat.ble hi q.2.1 then some q.2.2 else ih) else ih) l
noncomputable def eRg (lo hi : Nat) : Option eCT := eRgL lo hi eReg
noncomputable def eObj (q : Nat × Nat) (c : Nat) : Option (List eF) := match eRg q.1 q.2 with
  | some (.inl z) => bif Nat.beq z.1 c then some z.2 else none
  | _ => none
noncomputable def eArr (q : Nat × Nat) : Option (Nat × Nat × eF) := match eRg q.1 q.2 with
  | some (.inr z) => some z
  | _ => none
/-- kinds of arrays in which the k-th element is the k-th object (array) for ever: keys, rules, persons, gates, cards, ways -/
noncomputable def eIdB (k : Nat) : Bool := bif Nat.beq k 4 then true else bif Nat.beq k 5 then true else bif Nat.beq k 7 then true else bif Nat.beq k 8 then true else bif Nat.beq k 10 then true else Nat.beq k 11
/-! bounds -/
noncomputable def eBd (s : List (Nat × Int × Int)) (v : Nat) : Option (Int × Int) := List.rec (motive := fun _ => Option (Int × Int)) none (fun q _ ih => bif Nat.beq q.1 v then some q.2 else ih) s
noncomputable def eIv (W : eW) (t : eT) : Option (Int × Int) := match eBd W.2.1.1 t.1 with
  | some b => some (b.1 + t.2, b.2 + t.2)
  | none => none
noncomputable def eFr (W : eW) (lo hi : Int) : eW := (W.1 + 1, ((W.1, lo, hi) :: W.2.1.1, W.2.1.2), W.2.2)
noncomputable def eFn (W : eW) : eW := eFr W (-2147483648) 2147483647
noncomputable def eNv (W : eW) : eT := (W.1, 0)
noncomputable def eIr (lo hi a b : Int) : Bool := bif eLe lo a then eLe b hi else false
/-- the term lies within bounds -/
noncomputable def eBt (W : eW) (t : eT) (lo hi : Int) : Bool := match eIv W t with
  | some b => eIr lo hi b.1 b.2
  | none => false
/-! what an operation of two ints gives -/
noncomputable abbrev eOp : Type := eW → eT → eT → eW × eT
noncomputable def eOpAny : eOp := fun W _ _ => (eFn W, eNv W)
noncomputable def eOpAdd : eOp := fun W t u => match eIv W t, eIv W u with
  | some a, some b => bif eIr (-2147483648) 2147483647 (a.1 + b.1) (a.2 + b.2) then (bif Nat.beq u.1 0 then (W, (t.1, t.2 + u.2)) else bif Nat.beq t.1 0 then (W, (u.1, u.2 + t.2)) else (eFr W (a.1 + b.1) (a.2 + b.2), eNv W)) else eOpAny W t u
  | _, _ => eOpAny W t u
noncomputable def eOpSub : eOp := fun W t u => match eIv W t, eIv W u with
  | some a, some b => bif eIr (-2147483648) 2147483647 (a.1 - b.2) (a.2 - b.1) then (bif Nat.beq u.1 0 then (W, (t.1, t.2 - u.2)) else (eFr W (a.1 - b.2) (a.2 - b.1), eNv W)) else eOpAny W t u
  | _, _ => eOpAny W t u
noncomputable def eOpMul : eOp := fun W t u => match eIv W t, eIv W u with
  | some a, some b => bif eLe 0 a.1 then (bif eLe 0 b.1 then (bif eLe (a.2 * b.2) 2147483647 then (eFr W (a.1 * b.1) (a.2 * b.2), eNv W) else eOpAny W t u) else eOpAny W t u) else eOpAny W t u
  | _, _ => eOpAny W t u
noncomputable def eOpAnd : eOp := fun W t u => match eIv W u with
  | some b => bif eLe 0 b.1 then (eFr W 0 b.2, eNv W) else (match eIv W t with
    | some a => bif eLe 0 a.1 then (eFr W 0 a.2, eNv W) else eOpAny W t u
    | none => eOpAny W t u)
  | none => eOpAny W t u
/-- the least 2^k - 1 that is not less -/
noncomputable def eP2 (b : Int) : Option Nat := List.rec (motive := fun _ => Option Nat) none (fun k _ ih => bif eLe b (Int.ofNat (Nat.pow 2 k - 1)) then some k else ih) [0, 1, 2, 3, 4, 5, 6, 7, 8, 9, 10, 11, 12, 13, 14, 15, 16, 17, 18, 19, 20, 21, 22, 23, 24, 25, 26, 27, 28, 29, 30, 31]
noncomputable def eOpOr : eOp := fun W t u => match eIv W t, eIv W u with
  | some a, some b => bif eLe 0 a.1 then (bif eLe 0 b.1 then (match eP2 (eMax a.2 b.2) with
    | some k => (eFr W 0 (Int.ofNat (Nat.pow 2 k - 1)), eNv W)
    | none => eOpAny W t u) else eOpAny W t u) else eOpAny W t u
  | _, _ => eOpAny W t u
noncomputable def eOpShr : eOp := fun W t u => match eIv W t with
  | some a => bif eLe 0 a.1 then (eFr W 0 a.2, eNv W) else eOpAny W t u
  | none => eOpAny W t u
noncomputable def eOpShl : eOp := fun W t u => match eIv W t, eIv W u with
  | some a, some b => bif eLe 0 a.1 then (bif eLe 0 b.1 then (bif eLe b.2 30 then (bif eLe (a.2 * Int.ofNat (Nat.pow 2 b.2.toNat)) 2147483647 then (eFr W 0 (a.2 * Int.ofNat (Nat.pow 2 b.2.toNat)), eNv W) else eOpAny W t u) else eOpAny W t u) else eOpAny W t u) else eOpAny W t u
  | _, _ => eOpAny W t u
/-- an operation's number: what it gives -/
noncomputable def eSem (op : Nat) (x y : Int32) : Int32 := match op with
  | 0 => x + y
  | 1 => x - y
  | 2 => x * y
  | 3 => x &&& y
  | 4 => x ||| y
  | 5 => x ^^^ y
  | 6 => x <<< (y &&& 31)
  | 7 => x >>> (y &&& 31)
  | _ => (x.toUInt32 >>> (y.toUInt32 &&& Int32.toUInt32 31)).toInt32
noncomputable def eTe (t u : eT) : Bool := bif Nat.beq t.1 u.1 then (bif eLe t.2 u.2 then eLe u.2 t.2 else false) else false
noncomputable def eMz (m : eMm) (op : Nat) (t u : eT) : Option eT := List.rec (motive := fun _ => Option eT) none (fun e _ ih => bif Nat.beq e.1.1 op then (bif eTe e.1.2.1 t then (bif eTe e.1.2.2 u then some e.2 else ih) else ih) else ih) m
/-- an operation, remembered -/
noncomputable def eWr1 (op : Nat) (f : eOp) : eOp := fun W t u => match eMz W.2.1.2 op t u with
  | some r => (W, r)
  | none => (match f W t u with
    | (W1, z) => ((W1.1, (W1.2.1.1, ((op, t, u), z) :: W1.2.1.2), W1.2.2), z))
noncomputable def eWr (op : Nat) (f : eOp) : eOp := fun W t u => bif Nat.beq t.1 0 then (bif Nat.beq u.1 0 then (W, (0, (eSem op (Int32.ofInt t.2) (Int32.ofInt u.2)).toInt)) else eWr1 op f W t u) else eWr1 op f W t u
/-- shifts that bring in zeros: those of numbers from 0 on are the other shifts -/
noncomputable def eWrU : eOp := fun W t u => match eIv W t with
  | some a => bif eLe 0 a.1 then eWr 7 eOpShr W t u else eWr 8 eOpAny W t u
  | none => eWr 8 eOpAny W t u
/-! conditions -/
/-- the term is taken to lie within bounds -/
noncomputable def eAs (W : eW) (t : eT) (lo hi : Int) : Option eW := match eBd W.2.1.1 t.1 with
  | some b => bif eLe lo (b.1 + t.2) then (bif eLe (b.2 + t.2) hi then some W else (bif eLe b.1 (hi - t.2) then some (W.1, ((t.1, b.1, hi - t.2) :: W.2.1.1, W.2.1.2), W.2.2) else none))
      else (bif eLe (b.2 + t.2) hi then (bif eLe (lo - t.2) b.2 then some (W.1, ((t.1, lo - t.2, b.2) :: W.2.1.1, W.2.1.2), W.2.2) else none) else (bif eLe lo hi then some (W.1, ((t.1, lo - t.2, hi - t.2) :: W.2.1.1, W.2.1.2), W.2.2) else none))
  | none => some W
noncomputable def eA2 (W : eW) (t u : eT) (a b : Int × Int) : Option eW := match eAs W t a.1 a.2 with
  | some W1 => eAs W1 u b.1 b.2
  | none => none
noncomputable def eLt (d : Int) (W : eW) (t u : eT) : Option eW := bif Nat.beq t.1 u.1 then (bif eLe (t.2 + d) u.2 then some W else none) else match eIv W t, eIv W u with
  | some a, some b => eA2 W t u (a.1, b.2 - d) (a.1 + d, b.2)
  | _, _ => some W
noncomputable def eEq (W : eW) (t u : eT) : Option eW := bif Nat.beq t.1 u.1 then (bif eLe t.2 u.2 then (bif eLe u.2 t.2 then some W else none) else none) else match eIv W t, eIv W u with
  | some a, some b => eA2 W t u b a
  | _, _ => some W
/-- the first term is none of the second one's values, if that has one alone -/
noncomputable def eNe1 (W : eW) (t : eT) (a b : Int × Int) : Option eW := bif eLe b.2 b.1 then (bif eLe a.1 b.1 then (bif eLe b.1 a.1 then eAs W t (b.1 + 1) a.2 else (bif eLe a.2 b.1 then (bif eLe b.1 a.2 then eAs W t a.1 (b.1 - 1) else some W) else some W)) else some W) else some W
noncomputable def eNe (W : eW) (t u : eT) : Option eW := bif Nat.beq t.1 u.1 then (bif eLe t.2 u.2 then (bif eLe u.2 t.2 then none else some W) else some W) else match eIv W t, eIv W u with
  | some a, some b => (match eNe1 W t a b with
    | some W1 => eNe1 W1 u b a
    | none => none)
  | _, _ => some W
noncomputable def eCm (c : Jvm.ClassFile.Cond) (W : eW) (t u : eT) : Option eW := match c with
  | .eq => eEq W t u
  | .ne => eNe W t u
  | .lt => eLt 1 W t u
  | .ge => eLt 0 W u t
  | .gt => eLt 1 W u t
  | .le => eLt 0 W t u
noncomputable def eNg (c : Jvm.ClassFile.Cond) : Jvm.ClassFile.Cond := match c with
  | .eq => .ne
  | .ne => .eq
  | .lt => .ge
  | .ge => .lt
  | .gt => .le
  | .le => .gt
noncomputable def eBr (c : Jvm.ClassFile.Cond) (W : eW) (t u : eT) (tg nx : Nat) (lv : eLv) (st : List eA) : List eQ := match eCm c W t u with
  | some W1 => (tg, lv, st, W1) :: (match eCm (eNg c) W t u with
    | some W2 => [(nx, lv, st, W2)]
    | none => [])
  | none => (match eCm (eNg c) W t u with
    | some W2 => [(nx, lv, st, W2)]
    | none => [])
/-! kinds of values: 0 long; 1 double, 2 of 0 to 640, 3 of 1 to 10; 4 float, 5 of 0 to 16, 6 of 1 to 10, 7 a share; 8 an array that was made in a call; 9 the script -/
noncomputable def eCt (a : eA) : Nat := match a with
  | .inr (.inr k) => bif Nat.blt k 4 then 2 else 1
  | _ => 1
noncomputable def eIsI (a : eA) : Bool := match a with
  | .inl _ => true
  | _ => false
noncomputable def eIsK (lo hi : Nat) (a : eA) : Bool := match a with
  | .inr (.inr k) => bif Nat.ble lo k then Nat.ble k hi else false
  | _ => false
noncomputable def eIsA (a : eA) : Bool := match a with
  | .inr (.inl _) => true
  | .inr (.inr k) => bif Nat.ble 8 k then Nat.ble k 9 else false
  | _ => false
noncomputable def eIsS (a : eA) : Bool := match a with
  | .inr (.inl _) => true
  | .inr (.inr k) => Nat.beq k 8
  | _ => false
noncomputable def eK (k : Nat) : eA := .inr (.inr k)
noncomputable def eCl (k : Nat) (lv : eLv) : eLv := Nat.rec (motive := fun _ => eLv) lv (fun j _ => match eNth lv j with
  | some (some b) => bif Nat.beq (eCt b) 2 then ePut lv j none else lv
  | _ => lv) k
noncomputable def eS1 (k : Nat) (a : eA) (lv : eLv) : eLv := ePut (eCl k lv) k (some a)
noncomputable def eS2 (k : Nat) (a : eA) (lv : eLv) : eLv := ePut (ePut (eCl k lv) (k + 1) none) k (some a)
noncomputable def eDr (k : Nat) (lv : eLv) : eLv := ePut (eCl k lv) k none
noncomputable def eLd (c : eA → Bool) (pc k : Nat) (lv : eLv) (st : List eA) (W : eW) : Option (List eQ) := match eNth lv k with
  | some (some a) => bif c a then some [(pc, lv, a :: st, W)] else none
  | _ => none
noncomputable def eSv (c : eA → Bool) (nL pc k : Nat) (lv : eLv) (st : List eA) (W : eW) : Option (List eQ) := match st with
  | a :: r => bif c a then (bif Nat.blt k nL then some [(pc, eS1 k a lv, r, W)] else none) else none
  | _ => none
noncomputable def eSv2 (c : eA → Bool) (nL pc k : Nat) (lv : eLv) (st : List eA) (W : eW) : Option (List eQ) := match st with
  | a :: r => bif c a then (bif Nat.blt (k + 1) nL then some [(pc, eS2 k a lv, r, W)] else none) else none
  | _ => none
noncomputable def eI2 (f : eOp) (pc : Nat) (lv : eLv) (st : List eA) (W : eW) : Option (List eQ) := match st with
  | .inl u :: .inl t :: r => (match f W t u with
    | (W1, z) => some [(pc, lv, .inl z :: r, W1)])
  | _ => none
noncomputable def eDv (pc : Nat) (lv : eLv) (st : List eA) (W : eW) : Option (List eQ) := match st with
  | .inl u :: .inl _ :: r => (match eIv W u with
    | some b => bif eLe 1 b.1 then some [(pc, lv, .inl (eNv W) :: r, eFn W)] else none
    | none => none)
  | _ => none
noncomputable def eL2 (pc : Nat) (lv : eLv) (st : List eA) (W : eW) : Option (List eQ) := match st with
  | a :: b :: r => bif eIsK 0 0 a then (bif eIsK 0 0 b then some [(pc, lv, eK 0 :: r, W)] else none) else none
  | _ => none
noncomputable def eLs (pc : Nat) (lv : eLv) (st : List eA) (W : eW) : Option (List eQ) := match st with
  | .inl _ :: b :: r => bif eIsK 0 0 b then some [(pc, lv, eK 0 :: r, W)] else none
  | _ => none
noncomputable def eCs (lo hi : Int) (z : Int) (pc : Nat) (lv : eLv) (st : List eA) (W : eW) : Option (List eQ) := bif eIr lo hi z z then some [(pc, lv, .inl (0, z) :: st, W)] else none
/-- small numbers as floats and doubles -/
noncomputable def eI2f (pos small : Nat) (hi : Int) (pc : Nat) (lv : eLv) (st : List eA) (W : eW) : Option (List eQ) := match st with
  | .inl t :: r => bif eBt W t 1 10 then some [(pc, lv, eK pos :: r, W)] else bif eBt W t 0 hi then some [(pc, lv, eK small :: r, W)] else none
  | _ => none
noncomputable def eDf (pos small lo hi z : Nat) (pc : Nat) (lv : eLv) (st : List eA) (W : eW) : Option (List eQ) := match st with
  | a :: b :: r => bif eIsK pos pos a then (bif eIsK small pos b then some [(pc, lv, eK z :: r, W)] else none) else none
  | _ => none
/-- an instruction of the locals and the stack alone -/
noncomputable def eP (nL : Nat) (i : Instr) (pc : Nat) (lv : eLv) (st : List eA) (W : eW) : Option (List eQ) := match i with
  | .iload_n k => eLd eIsI (pc + 1) k lv st W
  | .iload k => eLd eIsI (pc + 2) k lv st W
  | .aload_n k => eLd eIsA (pc + 1) k lv st W
  | .aload k => eLd eIsA (pc + 2) k lv st W
  | .lload_n k => eLd (eIsK 0 0) (pc + 1) k lv st W
  | .lload k => eLd (eIsK 0 0) (pc + 2) k lv st W
  | .iconst z => eCs (-1) 5 z (pc + 1) lv st W
  | .bipush z => eCs (-128) 127 z (pc + 2) lv st W
  | .sipush z => eCs (-32768) 32767 z (pc + 3) lv st W
  | .lconst _ => some [(pc + 1, lv, eK 0 :: st, W)]
  | .fconst n => if n = 0 then some [(pc + 1, lv, eK 4 :: st, W)] else none
  | .dconst n => if n = 0 then some [(pc + 1, lv, eK 1 :: st, W)] else none
  | .goto off => (match sTg pc off with
    | some t => some [(t, lv, st, W)]
    | none => none)
  | .ifCond c off => (match st with
    | .inl t :: r => (match sTg pc off with
      | some tg => some (eBr c W t (0, 0) tg (pc + 3) lv r)
      | none => none)
    | _ => none)
  | .if_icmp c off => (match st with
    | .inl u :: .inl t :: r => (match sTg pc off with
      | some tg => some (eBr c W t u tg (pc + 3) lv r)
      | none => none)
    | _ => none)
  | .istore k => eSv eIsI nL (pc + 2) k lv st W
  | .istore_n k => eSv eIsI nL (pc + 1) k lv st W
  | .astore k => eSv eIsS nL (pc + 2) k lv st W
  | .astore_n k => eSv eIsS nL (pc + 1) k lv st W
  | .lstore k => eSv2 (eIsK 0 0) nL (pc + 2) k lv st W
  | .lstore_n k => eSv2 (eIsK 0 0) nL (pc + 1) k lv st W
  | .fstore k => eSv (eIsK 4 7) nL (pc + 2) k lv st W
  | .fstore_n k => eSv (eIsK 4 7) nL (pc + 1) k lv st W
  | .dstore k => eSv2 (eIsK 1 3) nL (pc + 2) k lv st W
  | .dstore_n k => eSv2 (eIsK 1 3) nL (pc + 1) k lv st W
  | .iinc k z => (match eNth lv k with
    | some (some (.inl t)) => bif Nat.blt k nL then (bif eIr (-128) 127 z z then (match eOpAdd W t (0, z) with
      | (W1, w) => some [(pc + 3, eS1 k (.inl w) lv, st, W1)]) else none) else none
    | _ => none)
  | .iadd => eI2 (eWr 0 eOpAdd) (pc + 1) lv st W
  | .isub => eI2 (eWr 1 eOpSub) (pc + 1) lv st W
  | .imul => eI2 (eWr 2 eOpMul) (pc + 1) lv st W
  | .iand => eI2 (eWr 3 eOpAnd) (pc + 1) lv st W
  | .ior => eI2 (eWr 4 eOpOr) (pc + 1) lv st W
  | .ixor => eI2 (eWr 5 eOpAny) (pc + 1) lv st W
  | .ishl => eI2 (eWr 6 eOpShl) (pc + 1) lv st W
  | .ishr => eI2 (eWr 7 eOpShr) (pc + 1) lv st W
  | .iushr => eI2 eWrU (pc + 1) lv st W
  | .idiv => eDv (pc + 1) lv st W
  | .irem => eDv (pc + 1) lv st W
  | .ineg => (match st with
    | .inl _ :: r => some [(pc + 1, lv, .inl (eNv W) :: r, eFn W)]
    | _ => none)
  | .ladd => eL2 (pc + 1) lv st W
  | .lsub => eL2 (pc + 1) lv st W
  | .lmul => eL2 (pc + 1) lv st W
  | .land => eL2 (pc + 1) lv st W
  | .lor => eL2 (pc + 1) lv st W
  | .lxor => eL2 (pc + 1) lv st W
  | .lshl => eLs (pc + 1) lv st W
  | .lshr => eLs (pc + 1) lv st W
  | .lushr => eLs (pc + 1) lv st W
  | .lcmp => (match st with
    | a :: b :: r => bif eIsK 0 0 a then (bif eIsK 0 0 b then some [(pc + 1, lv, .inl (eNv W) :: r, eFn W)] else none) else none
    | _ => none)
  | .i2l => (match st with
    | .inl _ :: r => some [(pc + 1, lv, eK 0 :: r, W)]
    | _ => none)
  | .l2i => (match st with
    | a :: r => bif eIsK 0 0 a then some [(pc + 1, lv, .inl (eNv W) :: r, eFn W)] else none
    | _ => none)
  | .i2f => eI2f 6 5 16 (pc + 1) lv st W
  | .i2d => eI2f 3 2 640 (pc + 1) lv st W
  | .f2d => (match st with
    | a :: r => bif eIsK 7 7 a then some [(pc + 1, lv, eK 1 :: r, W)] else none
    | _ => none)
  | .fdiv => eDf 6 5 5 6 7 (pc + 1) lv st W
  | .ddiv => eDf 3 2 2 3 1 (pc + 1) lv st W
  | .dup => (match st with
    | a :: r => bif Nat.beq (eCt a) 1 then some [(pc + 1, lv, a :: a :: r, W)] else none
    | _ => none)
  | .dup2 => (match st with
    | a :: b :: r => bif Nat.beq (eCt a) 1 then (bif Nat.beq (eCt b) 1 then some [(pc + 1, lv, a :: b :: a :: b :: r, W)] else none) else none
    | _ => none)
  | .pop => (match st with
    | a :: r => bif Nat.beq (eCt a) 1 then some [(pc + 1, lv, r, W)] else none
    | _ => none)
  | .pop2 => (match st with
    | a :: r => bif Nat.beq (eCt a) 2 then some [(pc + 1, lv, r, W)] else none
    | _ => none)
  | _ => none
/-! the heap -/
noncomputable def eFit (W : eW) (f : eF) (a : eA) : Bool := match f, a with
  | .inl b, .inl t => eBt W t b.1 b.2
  | .inr (.inl q), .inr (.inl r) => bif Nat.ble q.1 r.1 then Nat.ble r.2 q.2 else false
  | .inr (.inr j), .inr (.inr k) => bif Nat.beq j k then Nat.blt k 8 else (bif Nat.beq j 4 then (bif Nat.ble 5 k then Nat.ble k 7 else false) else (bif Nat.beq j 1 then (bif Nat.ble 2 k then Nat.ble k 3 else false) else false))
  | _, _ => false
noncomputable def eSf (ty : FieldType) (f : eF) : Bool := match ty, f with
  | .int, .inl _ => true
  | .boolean, .inl b => eIr 0 1 b.1 b.2
  | .long, .inr (.inr k) => Nat.beq k 0
  | _, _ => false
/-- a field (99: all) of places is one of those that may be written -/
noncomputable def eMa (md : eMd) (lo hi f : Nat) : Bool := eAny (fun q => bif Nat.ble q.1 lo then (bif Nat.ble hi q.2.1 then (bif Nat.beq q.2.2 f then true else Nat.beq q.2.2 99) else false) else false) md
noncomputable def eRl (rf : eRf) (a f : Nat) : Option eT := List.rec (motive := fun _ => Option eT) none (fun q _ ih => bif Nat.beq q.1.1 a then (bif Nat.beq q.1.2 f then some q.2 else ih) else ih) rf
noncomputable def eRd (rf : eRf) (lo hi f : Nat) : eRf := eFil (fun q => bif Nat.beq q.1.2 f then (bif Nat.ble lo q.1.1 then (bif Nat.ble q.1.1 hi then false else true) else true) else true) rf
/-- all that is known of some cells is dropped -/
noncomputable def eRa (rf : eRf) (lo hi : Nat) : eRf := eFil (fun q => bif Nat.ble lo q.1.1 then (bif Nat.ble q.1.1 hi then false else true) else true) rf
noncomputable def eIx (W : eW) (t : eT) (len : Nat) : Bool := match eIv W t with
  | some b => bif eLe 0 b.1 then eLe (b.2 + 1) (Int.ofNat len) else false
  | none => false
noncomputable def eOf (W : eW) (f : eF) : eW × eA := match f with
  | .inl b => (eFr W b.1 b.2, .inl (eNv W))
  | .inr o => (W, .inr o)
noncomputable def eGf (pc a1 a2 : Nat) (lv : eLv) (st : List eA) (W : eW) : Option eQ := match st with
  | .inr (.inl q) :: r => (match eObj q a1 with
    | some fs => (match eNth fs a2 with
      | some (.inl b) => bif Nat.beq q.1 q.2 then (match eRl W.2.2 q.1 a2 with
          | some t => some (pc + 3, lv, .inl t :: r, W)
          | none => some (pc + 3, lv, .inl (eNv W) :: r, (W.1 + 1, ((W.1, b.1, b.2) :: W.2.1.1, W.2.1.2), ((q.1, a2), eNv W) :: W.2.2))) else some (pc + 3, lv, .inl (eNv W) :: r, eFr W b.1 b.2)
      | some (.inr o) => some (pc + 3, lv, .inr o :: r, W)
      | none => none)
    | none => none)
  | _ => none
noncomputable def ePf (md : eMd) (pc a1 a2 : Nat) (lv : eLv) (st : List eA) (W : eW) : Option eQ := match st with
  | v :: .inr (.inl q) :: r => (match eObj q a1 with
    | some fs => (match eNth fs a2 with
      | some f => bif eFit W f v then (bif eSf (sFt a1 a2) f then (bif eMa md q.1 q.2 a2 then some (pc + 3, lv, r, (W.1, W.2.1, (match v with
          | .inl t => bif Nat.beq q.1 q.2 then ((q.1, a2), t) :: eRd W.2.2 q.1 q.2 a2 else eRd W.2.2 q.1 q.2 a2
          | _ => eRd W.2.2 q.1 q.2 a2))) else none) else none) else none
      | none => none)
    | none => none)
  | _ => none
noncomputable def eXl (lw : Bool) (k pc : Nat) (lv : eLv) (st : List eA) (W : eW) : Option eQ := match st with
  | .inl t :: .inr (.inl q) :: r => (match eArr q with
    | some z => bif Nat.beq z.1 k then (bif eIx W t z.2.1 then (match eOf W z.2.2 with
      | (W1, a) => (match a with
        | .inl u => bif Nat.beq t.1 0 then (bif Nat.beq q.1 q.2 then (match eRl W.2.2 q.1 t.2.toNat with
            | some w => some (pc + 1, lv, .inl w :: r, W)
            | none => some (pc + 1, lv, .inl u :: r, (W1.1, W1.2.1, ((q.1, t.2.toNat), u) :: W1.2.2))) else some (pc + 1, lv, a :: r, W1)) else some (pc + 1, lv, a :: r, W1)
        | .inr _ => some (pc + 1, lv, a :: r, W1))) else none) else none
    | none => none)
  | .inl t :: .inr (.inr j) :: r => bif Nat.beq k 0 then (bif Nat.beq j 8 then (bif eIx W t 6 then some (pc + 1, lv, .inl (eNv W) :: r, eFn W) else none)
      else bif lw then (bif Nat.beq j 9 then (bif Nat.beq t.1 1 then (bif eIr 0 4 t.2 t.2 then some (pc + 1, lv, .inl (eNv W) :: r, eFn W) else none) else none) else none) else none) else none
  | _ => none
noncomputable def eXs (md : eMd) (k pc : Nat) (lv : eLv) (st : List eA) (W : eW) : Option eQ := match st with
  | v :: .inl t :: .inr (.inl q) :: r => (match eArr q with
    | some z => bif Nat.beq z.1 k then (bif eIx W t z.2.1 then (bif eFit W z.2.2 v then (bif (bif (bif Nat.beq t.1 0 then eMa md q.1 q.2 t.2.toNat else false) then true else eMa md q.1 q.2 99) then some (pc + 1, lv, r, (W.1, W.2.1, (match v with
          | .inl u => bif Nat.beq t.1 0 then (bif Nat.beq q.1 q.2 then ((q.1, t.2.toNat), u) :: eRd W.2.2 q.1 q.2 t.2.toNat else eRa W.2.2 q.1 q.2) else eRa W.2.2 q.1 q.2
          | _ => eRa W.2.2 q.1 q.2))) else none) else none) else none) else none
    | none => none)
  | v :: .inl t :: .inr (.inr j) :: r => bif Nat.beq k 0 then (bif Nat.beq j 8 then (bif eIx W t 6 then (bif eIsI v then some (pc + 1, lv, r, W) else none) else none) else none) else none
  | _ => none
/-- an instruction of the heap, or a constant -/
noncomputable def eH (lw : Bool) (md : eMd) (i : Instr) (a1 a2 pc : Nat) (lv : eLv) (st : List eA) (W : eW) : Option eQ := match i with
  | .getfield _ => eGf pc a1 a2 lv st W
  | .putfield _ => ePf md pc a1 a2 lv st W
  | .iaload => eXl lw 0 pc lv st W
  | .baload => eXl false 1 pc lv st W
  | .laload => eXl false 2 pc lv st W
  | .aaload => (match st with
    | .inl t :: .inr (.inl q) :: r => (match eArr q with
      | some z => bif Nat.ble 4 z.1 then (bif decide (z.1 ∈ sTl) then (bif eIx W t z.2.1 then (match z.2.2 with
        | .inr (.inl p) => bif eIdB z.1 then (bif Nat.beq t.1 0 then some (pc + 1, lv, .inr (.inl (p.1 + t.2.toNat, p.1 + t.2.toNat)) :: r, W) else some (pc + 1, lv, .inr (.inl p) :: r, W)) else some (pc + 1, lv, .inr (.inl p) :: r, W)
        | _ => none) else none) else none) else none
      | none => none)
    | _ => none)
  | .iastore => eXs md 0 pc lv st W
  | .bastore => eXs md 1 pc lv st W
  | .lastore => eXs md 2 pc lv st W
  | .dastore => eXs md 3 pc lv st W
  | .aastore => (match st with
    | .inr (.inl p) :: .inl t :: .inr (.inl q) :: r => (match eArr q with
      | some z => bif Nat.ble 5 z.1 then (bif decide (z.1 ∈ sTl) then (bif Nat.blt z.1 15 then (match eObj p (z.1 - 5) with
        | some _ => bif eIx W t z.2.1 then (bif eFit W z.2.2 (.inr (.inl p)) then (bif eIdB z.1 then none else (bif eMa md q.1 q.2 99 then some (pc + 1, lv, r, (W.1, W.2.1, eRa W.2.2 q.1 q.2)) else none)) else none) else none
        | none => none) else none) else none) else none
      | none => none)
    | _ => none)
  | .arraylength => (match st with
    | .inr (.inl q) :: r => (match eArr q with
      | some z => bif decide (z.1 ∈ sTl) then (bif Nat.ble z.2.1 1000 then some (pc + 1, lv, .inl (0, Int.ofNat z.2.1) :: r, W) else none) else none
      | none => none)
    | _ => none)
  | .ldc _ => some (pc + 2, lv, .inl (0, (Int32.ofNat a1).toInt) :: st, W)
  | .ldc_w _ => some (pc + 3, lv, .inl (0, (Int32.ofNat a1).toInt) :: st, W)
  | .ldc2_w _ => some (pc + 3, lv, eK 0 :: st, W)
  | _ => none
/-! ends, calls -/
noncomputable def eRt (W : eW) (ret : Option FieldType) (i : Instr) (st : List eA) : Option (Option eA) := match i with
  | .return_ => (match st, ret with
    | [], none => some none
    | _, _ => none)
  | .ireturn => (match st, ret with
    | [.inl t], some ty => (match ty with
      | .int => some (some (.inl t))
      | .boolean => bif eBt W t 0 1 then some (some (.inl t)) else none
      | .char => bif eBt W t 0 65535 then some (some (.inl t)) else none
      | _ => none)
    | _, _ => none)
  | .lreturn => (match st, ret with
    | [a], some .long => bif eIsK 0 0 a then some (some a) else none
    | _, _ => none)
  | .freturn => (match st, ret with
    | [a], some .float => bif eIsK 4 7 a then some (some a) else none
    | _, _ => none)
  | .dreturn => (match st, ret with
    | [a], some .double => bif eIsK 1 3 a then some (some a) else none
    | _, _ => none)
  | _ => none
noncomputable def eSm1 (st : List eA) : Nat := List.rec (motive := fun _ => Nat) 0 (fun a _ ih => eCt a + ih) st
/-- so many values off the stack, the first one last -/
noncomputable def eTk (n : Nat) : List eA → List eA → Option (List eA × List eA) := Nat.rec (motive := fun _ => List eA → List eA → Option (List eA × List eA)) (fun st acc => some (acc, st)) (fun _ ih st acc => match st with
  | a :: r => ih r (a :: acc)
  | [] => none) n
noncomputable def eIn0 (mt : Nat → sM) (i : Instr) (a1 a2 : Nat) (st : List eA) : Option (List eA × List eA) := match i with
  | .invokestatic _ => eTk (mN (mt a1)) st []
  | .invokevirtual _ => (match eTk (mN (mt a1)) st [] with
    | some (as, .inr (.inl q) :: rest) => (match eObj q a2 with
      | some _ => some (.inr (.inl q) :: as, rest)
      | none => none)
    | _ => none)
  | _ => none
noncomputable def eAg (as : List eA) : eLv := List.rec (motive := fun _ => eLv) [] (fun a _ ih => some a :: (bif Nat.beq (eCt a) 2 then none :: ih else ih)) as
noncomputable def ePd (n : Nat) (lv : eLv) : eLv := lv ++ List.replicate (n - lv.length) none
/-- a contract: method, depth, arguments, fields that must lie within bounds, what may be written, result, exceptions, fields that lie within bounds at the end -/
noncomputable abbrev eC : Type := Nat × Nat × List eF × List ((Nat × Nat) × Int × Int) × eMd × Option eF × List Nat × List ((Nat × Nat) × Int × Int)
noncomputable def eMq (rq : List ((Nat × Nat) × Int × Int)) : eW → eW := List.rec (motive := fun _ => eW → eW) (fun W => W) (fun z _ ih W => ih (W.1 + 1, ((W.1, z.2.1, z.2.2) :: W.2.1.1, W.2.1.2), (z.1, eNv W) :: W.2.2)) rq
noncomputable def eFits (W : eW) (fs : List eF) : List eA → Bool := List.rec (motive := fun _ => List eA → Bool) (fun as => match as with
  | [] => true
  | _ => false) (fun f _ ih as => match as with
  | a :: r => bif eFit W f a then ih r else false
  | [] => false) fs
noncomputable def eRq (W : eW) (rq : List ((Nat × Nat) × Int × Int)) : Bool := eAll (fun z => match eRl W.2.2 z.1.1 z.1.2 with
  | some t => eBt W t z.2.1 z.2.2
  | none => false) rq
noncomputable def eFd (G : List eC) (m : Nat) (as : List eA) (W : eW) : Option eC := List.rec (motive := fun _ => Option eC) none (fun C _ ih => bif Nat.beq C.1 m then (bif eFits W C.2.2.1 as then (bif eRq W C.2.2.2.1 then some C else ih) else ih) else ih) G
noncomputable def eKeep (md : eMd) (rf : eRf) : eRf := eFil (fun q => bif eMa md q.1.1 q.1.1 q.1.2 then false else true) rf
/-! places where a loop begins: pc, locals, fields, cells, slots, a number that falls: locals with factors, and a number; the most that it is -/
noncomputable abbrev eCu : Type := Nat × List (Option eF) × List ((Nat × Nat) × Int × Int) × Nat × Nat × List (Nat × Int) × Int
noncomputable abbrev eMu : Type := List (Nat × Int) × Int
noncomputable def eCf (cs : List eCu) (pc : Nat) : Option eCu := List.rec (motive := fun _ => Option eCu) none (fun C _ ih => bif Nat.beq C.1 pc then some C else ih) cs
/-- the falling number at a place: variables with factors, and a number -/
noncomputable def eMo (lv : eLv) (l : List (Nat × Int)) (K : Int) : Option eMu := List.rec (motive := fun _ => Option eMu) (some ([], K)) (fun q _ ih => match ih with
  | some r => (match eNth lv q.1 with
    | some (some (.inl t)) => some ((t.1, q.2) :: r.1, r.2 + q.2 * t.2)
    | _ => none)
  | none => none) l
noncomputable def eSumv (v : Nat) (l : List (Nat × Int)) : Int := List.rec (motive := fun _ => Int) 0 (fun q _ ih => bif Nat.beq q.1 v then q.2 + ih else ih) l
/-- the most that a sum can be -/
noncomputable def eUb (n : Nat) (W : eW) : List (Nat × Int) → Int → Option Int := Nat.rec (motive := fun _ => List (Nat × Int) → Int → Option Int) (fun l K => match l with
  | [] => some K
  | _ => none) (fun _ ih l K => match l with
  | [] => some K
  | q :: r => (match eBd W.2.1.1 q.1 with
    | some b => ih (eFil (fun z => bif Nat.beq z.1 q.1 then false else true) r) (K + (eMax ((q.2 + eSumv q.1 r) * b.1) ((q.2 + eSumv q.1 r) * b.2)))
    | none => none)) n
noncomputable def eNeg (l : List (Nat × Int)) : List (Nat × Int) := l.map (fun q => (q.1, -q.2))
noncomputable def eUbLe (W : eW) (l : List (Nat × Int)) (K : Int) (m : Int) : Bool := match eUb (l.length + 1) W l K with
  | some x => eLe x m
  | none => false
/-- as eFit, and an array that was made in the call -/
noncomputable def eFitC (W : eW) (f : eF) (a : eA) : Bool := bif eFit W f a then true else (match f, a with
  | .inr (.inr j), .inr (.inr k) => bif Nat.ble 8 j then Nat.beq j k else false
  | _, _ => false)
noncomputable def eFs (W : eW) (fs : List (Option eF)) (lv : eLv) : Bool := List.rec (motive := fun _ => eLv → Bool) (fun _ => true) (fun f _ ih lv => match lv with
  | [] => (match f with
    | some _ => false
    | none => ih [])
  | a :: r => (match f with
    | none => ih r
    | some g => (match a with
      | some b => bif eFitC W g b then ih r else false
      | none => false))) fs lv
/-- the place lies within the loop's beginning C, and the number has fallen -/
noncomputable def eCov (mx : Int) (mu : Option eMu) (C : eCu) (lv : eLv) (st : List eA) (W : eW) (cl sl : Nat) : Bool := match st with
  | [] => bif eFs W C.2.1 lv then (bif eRq W C.2.2.1 then (bif Nat.ble cl C.2.2.2.1 then (bif Nat.ble sl C.2.2.2.2.1 then (match eMo lv C.2.2.2.2.2.1 C.2.2.2.2.2.2 with
    | some z => bif eUbLe W (eNeg z.1) (-z.2) 0 then (bif eUbLe W z.1 z.2 mx then (match mu with
      | none => true
      | some y => eUbLe W (z.1 ++ eNeg y.1) (z.2 - y.2) (-1)) else false) else false
    | none => false) else false) else false) else false) else false
  | _ => false
noncomputable def eMath (a1 : Nat) (st : List eA) : Option (List eA) := bif Nat.beq a1 1001 then (match st with
    | .inl _ :: r => some r
    | _ => none) else bif Nat.ble 1002 a1 then (bif Nat.ble a1 1003 then (match st with
    | .inl _ :: .inl _ :: r => some r
    | _ => none) else none) else none
/-- a handler's beginning -/
noncomputable def eHk (C : Nat → Option sE) (lv : eLv) (nL hp : Nat) : Option (Nat × eLv) := match C hp with
  | some (.astore k, _, _) => bif Nat.blt k nL then some (hp + 2, eDr k lv) else none
  | some (.astore_n k, _, _) => bif Nat.blt k nL then some (hp + 1, eDr k lv) else none
  | _ => none
noncomputable abbrev eRs : Type := Option eA ⊕ Nat
/-- the checker: fuel, depth, method, loops' beginnings, place, cells, slots, what follows -/
noncomputable def eRun (G : List eC) (mt : Nat → sM) (md : eMd) (mx : Int) (mu : Option eMu) (fuel : Nat) : Bool → Nat → sM → List eCu → eQ → Nat → Nat → (eRs → eW → Bool) → Bool :=
  Nat.rec (motive := fun _ => Bool → Nat → sM → List eCu → eQ → Nat → Nat → (eRs → eW → Bool) → Bool) (fun _ _ _ _ _ _ _ _ => false) (fun _ ih lw d M cs q cl sl k =>
    match mE M q.1 with
    | none => false
    | some e => (match eP (mL M) e.1 q.1 q.2.1 q.2.2.1 q.2.2.2 with
      | some l => eAll (fun z => match eCf cs z.1 with
        | some _ => eAny (fun C => bif Nat.beq C.1 z.1 then eCov mx mu C z.2.1 z.2.2.1 z.2.2.2 cl sl else false) cs
        | none => ih lw d M cs z cl sl k) l
      | none => (match eH lw md e.1 e.2.2.1 e.2.2.2 q.1 q.2.1 q.2.2.1 q.2.2.2 with
        | some z => ih lw d M cs z cl sl k
        | none => (match eRt q.2.2.2 (mR M) e.1 q.2.2.1 with
          | some v => k (.inl v) q.2.2.2
          | none => bif Nat.ble 1000 e.2.2.1 then (match e.1 with
              | .new _ => bif Nat.ble (cl + 1) (mC M) then (bif Nat.ble (sl + 6) (mS M) then (bif Nat.ble (eSm1 q.2.2.1) 8 then k (.inr (e.2.2.1 - 1000)) q.2.2.2 else false) else false) else false
              | .invokestatic _ => (match eMath e.2.2.1 q.2.2.1 with
                | some r => bif Nat.ble (eSm1 r) 8 then ih lw d M cs (q.1 + 3, q.2.1, .inl (eNv q.2.2.2) :: r, eFn q.2.2.2) cl sl k else false
                | none => false)
              | _ => false)
            else (match eIn0 mt e.1 e.2.2.1 e.2.2.2 q.2.2.1 with
              | some (as, rest) => bif Nat.ble (eSm1 rest) 8 then (bif Nat.ble (cl + mC (mt e.2.2.1)) (mC M) then (bif Nat.ble (sl + mS (mt e.2.2.1)) (mS M) then (bif Nat.ble (eSm1 as) (mL (mt e.2.2.1)) then (bif Nat.ble 1 d then
                  (match eFd G e.2.2.1 as q.2.2.2 with
                  | some C => bif Nat.ble C.2.1 d then (bif eAll (fun z => eMa md z.1 z.2.1 z.2.2) C.2.2.2.2.1 then
                      (bif (match C.2.2.2.2.2.1 with
                        | none => ih lw d M cs (q.1 + 3, q.2.1, rest, (eMq C.2.2.2.2.2.2.2 (q.2.2.2.1, q.2.2.2.2.1, eKeep C.2.2.2.2.1 q.2.2.2.2.2))) (cl + mC (mt e.2.2.1)) (sl + mS (mt e.2.2.1)) k
                        | some f => (match eOf (eMq C.2.2.2.2.2.2.2 (q.2.2.2.1, q.2.2.2.2.1, eKeep C.2.2.2.2.1 q.2.2.2.2.2)) f with
                          | (W1, a) => ih lw d M cs (q.1 + 3, q.2.1, a :: rest, W1) (cl + mC (mt e.2.2.1)) (sl + mS (mt e.2.2.1)) k)) then
                      eAll (fun E => (match mT M with
                        | [] => k (.inr E) (eMq C.2.2.2.2.2.2.2 (q.2.2.2.1, q.2.2.2.2.1, eKeep C.2.2.2.2.1 q.2.2.2.2.2))
                        | t :: ts => (match sHd (mE M) E q.1 (t :: ts) with
                          | some hp => bif Nat.ble 6 E then false else (match eHk (mE M) q.2.1 (mL M) hp with
                            | some z => ih lw d M cs (z.1, z.2, [], (eMq C.2.2.2.2.2.2.2 (q.2.2.2.1, q.2.2.2.2.1, eKeep C.2.2.2.2.1 q.2.2.2.2.2))) (cl + mC (mt e.2.2.1)) (sl + mS (mt e.2.2.1)) k
                            | none => false)
                          | none => false))) C.2.2.2.2.2.2.1 else false) else false) else false
                  | none => ih false (d - 1) (mt e.2.2.1) [] (0, ePd (mL (mt e.2.2.1)) (eAg as), [], q.2.2.2) 0 0 (fun res W1 => match res with
                    | .inl v => ih lw d M cs (q.1 + 3, q.2.1, v.toList ++ rest, W1) (cl + mC (mt e.2.2.1)) (sl + mS (mt e.2.2.1)) k
                    | .inr E => (match mT M with
                      | [] => k (.inr E) W1
                      | t :: ts => (match sHd (mE M) E q.1 (t :: ts) with
                        | some hp => bif Nat.ble 6 E then false else (match eHk (mE M) q.2.1 (mL M) hp with
                          | some z => ih lw d M cs (z.1, z.2, [], W1) (cl + mC (mt e.2.2.1)) (sl + mS (mt e.2.2.1)) k
                          | none => false)
                        | none => false)))) else false) else false) else false) else false) else false
              | none => (match e.1 with
                | .newarray t => (match t, q.2.2.1 with
                  | .int, .inl u :: r => bif eBt q.2.2.2 u 6 6 then (bif Nat.ble (cl + 1) (mC M) then (bif Nat.ble (sl + 6) (mS M) then ih lw d M cs (q.1 + 2, q.2.1, eK 8 :: r, q.2.2.2) (cl + 1) (sl + 6) k else false) else false) else false
                  | _, _ => false)
                | _ => false)))))) fuel
theorem eRun_e (G : List eC) (mt : Nat → sM) (md : eMd) (mx : Int) (mu : Option eMu) (fuel : Nat) (lw : Bool) (d : Nat) (M : sM) (cs : List eCu) (q : eQ) (cl sl : Nat) (k : eRs → eW → Bool) : eRun G mt md mx mu (fuel + 1) lw d M cs q cl sl k = (match mE M q.1 with
    | none => false
    | some e => (match eP (mL M) e.1 q.1 q.2.1 q.2.2.1 q.2.2.2 with
      | some l => eAll (fun z => match eCf cs z.1 with
        | some _ => eAny (fun C => bif Nat.beq C.1 z.1 then eCov mx mu C z.2.1 z.2.2.1 z.2.2.2 cl sl else false) cs
        | none => eRun G mt md mx mu fuel lw d M cs z cl sl k) l
      | none => (match eH lw md e.1 e.2.2.1 e.2.2.2 q.1 q.2.1 q.2.2.1 q.2.2.2 with
        | some z => eRun G mt md mx mu fuel lw d M cs z cl sl k
        | none => (match eRt q.2.2.2 (mR M) e.1 q.2.2.1 with
          | some v => k (.inl v) q.2.2.2
          | none => bif Nat.ble 1000 e.2.2.1 then (match e.1 with
              | .new _ => bif Nat.ble (cl + 1) (mC M) then (bif Nat.ble (sl + 6) (mS M) then (bif Nat.ble (eSm1 q.2.2.1) 8 then k (.inr (e.2.2.1 - 1000)) q.2.2.2 else false) else false) else false
              | .invokestatic _ => (match eMath e.2.2.1 q.2.2.1 with
                | some r => bif Nat.ble (eSm1 r) 8 then eRun G mt md mx mu fuel lw d M cs (q.1 + 3, q.2.1, .inl (eNv q.2.2.2) :: r, eFn q.2.2.2) cl sl k else false
                | none => false)
              | _ => false)
            else (match eIn0 mt e.1 e.2.2.1 e.2.2.2 q.2.2.1 with
              | some (as, rest) => bif Nat.ble (eSm1 rest) 8 then (bif Nat.ble (cl + mC (mt e.2.2.1)) (mC M) then (bif Nat.ble (sl + mS (mt e.2.2.1)) (mS M) then (bif Nat.ble (eSm1 as) (mL (mt e.2.2.1)) then (bif Nat.ble 1 d then
                  (match eFd G e.2.2.1 as q.2.2.2 with
                  | some C => bif Nat.ble C.2.1 d then (bif eAll (fun z => eMa md z.1 z.2.1 z.2.2) C.2.2.2.2.1 then
                      (bif (match C.2.2.2.2.2.1 with
                        | none => eRun G mt md mx mu fuel lw d M cs (q.1 + 3, q.2.1, rest, (eMq C.2.2.2.2.2.2.2 (q.2.2.2.1, q.2.2.2.2.1, eKeep C.2.2.2.2.1 q.2.2.2.2.2))) (cl + mC (mt e.2.2.1)) (sl + mS (mt e.2.2.1)) k
                        | some f => (match eOf (eMq C.2.2.2.2.2.2.2 (q.2.2.2.1, q.2.2.2.2.1, eKeep C.2.2.2.2.1 q.2.2.2.2.2)) f with
                          | (W1, a) => eRun G mt md mx mu fuel lw d M cs (q.1 + 3, q.2.1, a :: rest, W1) (cl + mC (mt e.2.2.1)) (sl + mS (mt e.2.2.1)) k)) then
                      eAll (fun E => (match mT M with
                        | [] => k (.inr E) (eMq C.2.2.2.2.2.2.2 (q.2.2.2.1, q.2.2.2.2.1, eKeep C.2.2.2.2.1 q.2.2.2.2.2))
                        | t :: ts => (match sHd (mE M) E q.1 (t :: ts) with
                          | some hp => bif Nat.ble 6 E then false else (match eHk (mE M) q.2.1 (mL M) hp with
                            | some z => eRun G mt md mx mu fuel lw d M cs (z.1, z.2, [], (eMq C.2.2.2.2.2.2.2 (q.2.2.2.1, q.2.2.2.2.1, eKeep C.2.2.2.2.1 q.2.2.2.2.2))) (cl + mC (mt e.2.2.1)) (sl + mS (mt e.2.2.1)) k
                            | none => false)
                          | none => false))) C.2.2.2.2.2.2.1 else false) else false) else false
                  | none => eRun G mt md mx mu fuel false (d - 1) (mt e.2.2.1) [] (0, ePd (mL (mt e.2.2.1)) (eAg as), [], q.2.2.2) 0 0 (fun res W1 => match res with
                    | .inl v => eRun G mt md mx mu fuel lw d M cs (q.1 + 3, q.2.1, v.toList ++ rest, W1) (cl + mC (mt e.2.2.1)) (sl + mS (mt e.2.2.1)) k
                    | .inr E => (match mT M with
                      | [] => k (.inr E) W1
                      | t :: ts => (match sHd (mE M) E q.1 (t :: ts) with
                        | some hp => bif Nat.ble 6 E then false else (match eHk (mE M) q.2.1 (mL M) hp with
                          | some z => eRun G mt md mx mu fuel lw d M cs (z.1, z.2, [], W1) (cl + mC (mt e.2.2.1)) (sl + mS (mt e.2.2.1)) k
                          | none => false)
                        | none => false)))) else false) else false) else false) else false) else false
              | none => (match e.1 with
                | .newarray t => (match t, q.2.2.1 with
                  | .int, .inl u :: r => bif eBt q.2.2.2 u 6 6 then (bif Nat.ble (cl + 1) (mC M) then (bif Nat.ble (sl + 6) (mS M) then eRun G mt md mx mu fuel lw d M cs (q.1 + 2, q.2.1, eK 8 :: r, q.2.2.2) (cl + 1) (sl + 6) k else false) else false) else false
                  | _, _ => false)
                | _ => false)))))) := rfl
