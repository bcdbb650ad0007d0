/-! comparisons and indices by plain numbers -/
def tn (x : Int32) : Nat := x.toUInt32.toBitVec.toFin.val
def kb (x : Int32) : Nat := (tn x + 2147483648) % 4294967296
theorem tn_lt (x : Int32) : tn x < 4294967296 := x.toUInt32.toBitVec.toFin.isLt
theorem tn_int (x : Int32) : x.toInt = if 2 * tn x < 4294967296 then (tn x : Int) else (tn x : Int) - 4294967296 := by
  show x.toBitVec.toInt = _
  rw [BitVec.toInt_eq_toNat_cond]
  rfl
theorem kb_int (x : Int32) : (kb x : Int) = x.toInt + 2147483648 := by
  have h := tn_lt x
  rw [tn_int]
  unfold kb
  split <;> omega
theorem kb_lt (x y : Int32) : Nat.blt (kb x) (kb y) = decide (x < y) := by
  have h1 := kb_int x
  have h2 := kb_int y
  rw [Bool.eq_iff_iff, decide_eq_true_eq, Int32.lt_iff_toInt_lt, Nat.blt_eq]
  omega
theorem kb_le (x y : Int32) : Nat.ble (kb x) (kb y) = decide (x ≤ y) := by
  have h1 := kb_int x
  have h2 := kb_int y
  rw [Bool.eq_iff_iff, decide_eq_true_eq, Int32.le_iff_toInt_le, Nat.ble_eq]
  omega
theorem kb_eq (x y : Int32) : Nat.beq (kb x) (kb y) = decide (x = y) := by
  have h1 := kb_int x
  have h2 := kb_int y
  rw [Bool.eq_iff_iff, decide_eq_true_eq, Nat.beq_eq, ← Int32.toInt_inj]
  omega
def qC2 (c : Jvm.ClassFile.Cond) (x y : Int32) : Bool := match c with
  | .eq => Nat.beq (kb x) (kb y)
  | .ne => !Nat.beq (kb x) (kb y)
  | .lt => Nat.blt (kb x) (kb y)
  | .ge => Nat.ble (kb y) (kb x)
  | .gt => Nat.blt (kb y) (kb x)
  | .le => Nat.ble (kb x) (kb y)
theorem qC2_eq (c : Jvm.ClassFile.Cond) (x y : Int32) : qC2 c x y = sC2 c x y := by
  cases c <;> unfold qC2 sC2 <;> dsimp only
  · exact kb_eq x y
  · rw [kb_eq]; by_cases h : x = y <;> simp [h]
  · exact kb_lt x y
  · exact kb_le y x
  · exact kb_lt y x
  · exact kb_le x y
theorem qC1_eq (c : Jvm.ClassFile.Cond) (x : Int32) : qC2 c x 0 = sC1 c x := by
  rw [qC2_eq]
  cases c <;> rfl
theorem tn_in {i : Int32} {n : Nat} (h : tn i < n) (h2 : Nat.blt (tn i) 2147483648 = true) : sIn i n = true ∧ i.toNatClampNeg = tn i := by
  have h2 : tn i < 2147483648 := Nat.blt_eq.mp h2
  have h3 : i.toInt = (tn i : Int) := by rw [tn_int, if_pos (by omega)]
  have h4 : i.toNatClampNeg = tn i := by
    show i.toInt.toNat = _
    rw [h3]; rfl
  refine ⟨?_, h4⟩
  unfold sIn
  rw [h4]
  have h5 : ¬ i < 0 := by rw [Int32.lt_iff_toInt_lt, h3]; show ¬ ((tn i : Int) < 0); omega
  simp [h5, h]
def mk32 (n : Nat) : Int32 := ⟨⟨⟨⟨n % 4294967296, Nat.mod_lt _ (by decide)⟩⟩⟩⟩
def nAdd (x y : Int32) : Int32 := mk32 (tn x + tn y)
def nSub (x y : Int32) : Int32 := mk32 (4294967296 - tn y + tn x)
def nMul (x y : Int32) : Int32 := mk32 (tn x * tn y)
theorem nAdd_eq (x y : Int32) : nAdd x y = x + y := by
  apply Int32.toBitVec_inj.mp
  apply BitVec.eq_of_toNat_eq
  rw [Int32.toBitVec_add, BitVec.toNat_add]
  rfl
theorem nSub_eq (x y : Int32) : nSub x y = x - y := by
  apply Int32.toBitVec_inj.mp
  apply BitVec.eq_of_toNat_eq
  rw [Int32.toBitVec_sub, BitVec.toNat_sub]
  rfl
theorem nMul_eq (x y : Int32) : nMul x y = x * y := by
  apply Int32.toBitVec_inj.mp
  apply BitVec.eq_of_toNat_eq
  rw [Int32.toBitVec_mul, BitVec.toNat_mul]
  rfl
theorem nNeg_eq (x : Int32) : nSub 0 x = -x := by
  rw [nSub_eq]
  apply Int32.toBitVec_inj.mp
  rw [Int32.toBitVec_sub, Int32.toBitVec_neg]
  show 0#32 - x.toBitVec = _
  exact BitVec.zero_sub _
/-! a quicker machine for closed runs: each instruction a function of its own -/
abbrev qF : Type := (Nat → List Value → sH → Option sR) → sK → Option (sK ⊕ sR)
def qS (M : sM) (pc : Nat) (f : qF) : Prop := ∀ call cf z, cf.1 = pc → f call cf = some z → sStep mtv call M none cf = some z
noncomputable def hGet {α : Type} (l : List α) (a : Nat) : Option α := Nat.rec (motive := fun _ => List α → Option α) (fun l => List.rec (motive := fun _ => Option α) none (fun x _ _ => some x) l) (fun _ ih l => List.rec (motive := fun _ => Option α) none (fun _ t _ => ih t) l) a l
noncomputable def hSet {α : Type} (l : List α) (a : Nat) (c : α) : List α := Nat.rec (motive := fun _ => List α → List α) (fun l => List.rec (motive := fun _ => List α) [] (fun _ t _ => c :: t) l) (fun _ ih l => List.rec (motive := fun _ => List α) [] (fun x t _ => x :: ih t) l) a l
theorem hGet_eq {α : Type} : ∀ (a : Nat) (l : List α), hGet l a = l[a]?
  | 0, [] => rfl
  | 0, _ :: _ => rfl
  | _ + 1, [] => rfl
  | a + 1, _ :: t => hGet_eq a t
theorem hSet_eq {α : Type} {c : α} : ∀ (a : Nat) (l : List α), hSet l a c = l.set a c
  | 0, [] => rfl
  | 0, _ :: _ => rfl
  | _ + 1, [] => rfl
  | a + 1, x :: t => congrArg (x :: ·) (hSet_eq a t)
theorem hGetD_eq {a : Nat} {l : List Value} {v : Value} : (hGet l a).getD v = l.getD a v := by rw [hGet_eq, List.getD_eq_getElem?_getD]
noncomputable def fLk (i : Nat) (l : sL) : Option Value := List.rec (motive := fun _ => Option Value) none (fun q _ ih => cond (Nat.beq q.1 i) (some q.2) ih) l
theorem fLk_eq (i : Nat) : ∀ l : sL, fLk i l = sLk i l
  | [] => rfl
  | q :: l => by
    show cond (Nat.beq q.1 i) (some q.2) (fLk i l) = if q.1 = i then some q.2 else sLk i l
    rw [fLk_eq i l]
    cases hb : Nat.beq q.1 i with
    | true => rw [if_pos (Nat.eq_of_beq_eq_true hb)]; rfl
    | false => rw [if_neg (Nat.ne_of_beq_eq_false hb)]; rfl
noncomputable def fDr (i : Nat) (l : sL) : sL := List.rec (motive := fun _ => sL) [] (fun q _ ih => cond (Nat.beq q.1 i) ih (cond (Nat.beq (q.1 + 1) i) (cond (Nat.beq q.2.category 2) ih (q :: ih)) (q :: ih))) l
theorem fDr_eq (i : Nat) : ∀ l : sL, fDr i l = sDr i l
  | [] => rfl
  | q :: l => by
    show cond (Nat.beq q.1 i) (fDr i l) (cond (Nat.beq (q.1 + 1) i) (cond (Nat.beq q.2.category 2) (fDr i l) (q :: fDr i l)) (q :: fDr i l)) = _
    rw [fDr_eq i l]
    unfold sDr
    rw [List.filter_cons]
    have e : ∀ a b : Nat, (a == b) = Nat.beq a b := fun a b => by rw [Bool.eq_iff_iff, beq_iff_eq, Nat.beq_eq]
    rw [e, e, e]
    cases Nat.beq q.1 i <;> cases Nat.beq (q.1 + 1) i <;> cases Nat.beq q.2.category 2 <;> rfl
noncomputable def fS1 (i : Nat) (v : Value) (l : sL) : sL := (i, v) :: fDr i l
theorem fS1_eq (i : Nat) (v : Value) (l : sL) : fS1 i v l = sS1 i v l := by unfold fS1 sS1; rw [fDr_eq]
noncomputable def fLdI (i n : Nat) : qF := fun _ cf => match fLk i cf.2.1 with
  | some (.int x) => some (.inl (n, cf.2.1, .int x :: cf.2.2.1, cf.2.2.2))
  | _ => none
noncomputable def fLdL (i n : Nat) : qF := fun _ cf => match fLk i cf.2.1 with
  | some (.long x) => some (.inl (n, cf.2.1, .long x :: cf.2.2.1, cf.2.2.2))
  | _ => none
noncomputable def fLdA (i n : Nat) : qF := fun _ cf => match fLk i cf.2.1 with
  | some (.ref x) => some (.inl (n, cf.2.1, .ref x :: cf.2.2.1, cf.2.2.2))
  | _ => none
noncomputable def fPu (v : Value) (n : Nat) : qF := fun _ cf => some (.inl (n, cf.2.1, v :: cf.2.2.1, cf.2.2.2))
noncomputable def fStI (i n : Nat) : qF := fun _ cf => match cf.2.2.1 with
  | .int x :: r => some (.inl (n, fS1 i (.int x) cf.2.1, r, cf.2.2.2))
  | _ => none
def fGo (n : Nat) : qF := fun _ cf => some (.inl (n, cf.2))
def fBi (f : Int32 → Int32 → Int32) (n : Nat) : qF := fun _ cf => match cf.2.2.1 with
  | .int y :: .int x :: r => some (.inl (n, cf.2.1, .int (f x y) :: r, cf.2.2.2))
  | _ => none
def fBl (f : Int64 → Int64 → Int64) (n : Nat) : qF := fun _ cf => match cf.2.2.1 with
  | .long y :: .long x :: r => some (.inl (n, cf.2.1, .long (f x y) :: r, cf.2.2.2))
  | _ => none
def fIf (c : Jvm.ClassFile.Cond) (t n : Nat) : qF := fun _ cf => match cf.2.2.1 with
  | .int x :: r => some (.inl (cond (qC2 c x 0) t n, cf.2.1, r, cf.2.2.2))
  | _ => none
def fIc (c : Jvm.ClassFile.Cond) (t n : Nat) : qF := fun _ cf => match cf.2.2.1 with
  | .int y :: .int x :: r => some (.inl (cond (qC2 c x y) t n, cf.2.1, r, cf.2.2.2))
  | _ => none
noncomputable def fInc (i : Nat) (c : Int32) (n : Nat) : qF := fun _ cf => match fLk i cf.2.1 with
  | some (.int x) => some (.inl (n, fS1 i (.int (nAdd x c)) cf.2.1, cf.2.2))
  | _ => none
def fDu2 (n : Nat) : qF := fun _ cf => match cf.2.2.1 with
  | .int x :: .ref o :: r => some (.inl (n, cf.2.1, .int x :: .ref o :: .int x :: .ref o :: r, cf.2.2.2))
  | _ => none
noncomputable def fGet (a1 a2 n : Nat) : qF := fun _ cf => match cf.2.2.1 with
  | .ref o :: r => match hGet cf.2.2.2.1 o with
    | some (.inr q) => cond (Nat.beq q.1 a1) (match hGet q.2 a2 with
      | some v => some (.inl (n, cf.2.1, v :: r, cf.2.2.2))
      | none => none) none
    | _ => none
  | _ => none
noncomputable def fIal (n : Nat) : qF := fun _ cf => match cf.2.2.1 with
  | .int i :: .ref a :: r => match hGet cf.2.2.2.1 a with
    | some (.inl (0, w)) => match hGet w (tn i) with
      | some v => cond (Nat.blt (tn i) 2147483648) (some (.inl (n, cf.2.1, .int (iOf v) :: r, cf.2.2.2))) none
      | none => none
    | _ => none
  | _ => none
noncomputable def fIas (n : Nat) : qF := fun _ cf => match cf.2.2.1 with
  | .int x :: .int i :: .ref a :: r => match hGet cf.2.2.2.1 a with
    | some (.inl (0, w)) => match hGet w (tn i) with
      | some _ => cond (Nat.blt (tn i) 2147483648) (some (.inl (n, cf.2.1, r, hSet cf.2.2.2.1 a (.inl (0, hSet w (tn i) (.int x))), cf.2.2.2.2))) none
      | none => none
    | _ => none
  | _ => none
def fAb (n : Nat) : qF := fun _ cf => match cf.2.2.1 with
  | .int x :: r => cond (Nat.ble (sCat r) 8) (some (.inl (n, cf.2.1, .int (cond (Nat.ble (kb 0) (kb x)) x (nSub 0 x)) :: r, cf.2.2.2))) none
  | _ => none
def fNe (n : Nat) : qF := fun _ cf => match cf.2.2.1 with
  | .int x :: r => some (.inl (n, cf.2.1, .int (nSub 0 x) :: r, cf.2.2.2))
  | _ => none
def fMa (a1 n : Nat) : qF := fun _ cf => match sMath a1 cf.2.2.1 with
  | some q => cond (Nat.ble (sCat q.2) 8) (some (.inl (n, cf.2.1, q.1 :: q.2, cf.2.2.2))) none
  | none => none
def fRI (ty : FieldType) : qF := fun _ cf => match cf.2.2.1 with
  | [.int x] => cond (sNr ty x) (some (.inr (.inl (some (.int x)), cf.2.2.2.1))) none
  | _ => none
def fCs (mc ms k c C S n : Nat) : qF := fun call cf => cond (Nat.ble c cf.2.2.1.length && (Nat.ble (sCat (cf.2.2.1.drop c)) 8 && (Nat.ble (cf.2.2.2.2.1 + C) mc && Nat.ble (cf.2.2.2.2.2 + S) ms))) (match call k (sArgs c cf.2.2.1) cf.2.2.2.1 with
    | some (.inl v, h1) => some (.inl (n, cf.2.1, v.toList ++ cf.2.2.1.drop c, h1, cf.2.2.2.2.1 + C, cf.2.2.2.2.2 + S))
    | _ => none) none
noncomputable def fCv (mc ms k a2 c C S n : Nat) : qF := fun call cf => match cf.2.2.1.drop c with
  | .ref o :: rest => match hGet cf.2.2.2.1 o with
    | some (.inr q) => cond (Nat.beq q.1 a2 && (Nat.ble c cf.2.2.1.length && (Nat.ble (sCat rest) 8 && (Nat.ble (cf.2.2.2.2.1 + C) mc && Nat.ble (cf.2.2.2.2.2 + S) ms)))) (match call k (.ref o :: sArgs c cf.2.2.1) cf.2.2.2.1 with
      | some (.inl v, h1) => some (.inl (n, cf.2.1, v.toList ++ rest, h1, cf.2.2.2.2.1 + C, cf.2.2.2.2.2 + S))
      | _ => none) none
    | _ => none
  | _ => none
def fSl (M : sM) : qF := fun call cf => sStep mtv call M none cf
section QS
variable {M : sM} {pc n ln a1 a2 : Nat}
theorem q_sl : qS M pc (fSl M) := fun _ _ _ _ h => h
theorem q_iload {i : Nat} (he : mE M pc = some (.iload i, ln, a1, a2)) (hn : pc + 2 = n) : qS M pc (fLdI i n) := by
  rintro call ⟨p, lv, st, h, cl, sl⟩ z rfl hz
  subst hn
  unfold fLdI at hz; dsimp only at hz
  simp only [fLk_eq, fS1_eq] at hz
  split at hz
  · next x hx => cases hz; exact sStep_P (q := (_, _, _)) he (by show sLdI _ _ _ _ = _; unfold sLdI; rw [hx])
  · cases hz
theorem q_iload_n {i : Fin 4} {j : Nat} (he : mE M pc = some (.iload_n i, ln, a1, a2)) (hj : (i : Nat) = j) (hn : pc + 1 = n) : qS M pc (fLdI j n) := by
  rintro call ⟨p, lv, st, h, cl, sl⟩ z rfl hz
  subst hn; subst hj
  unfold fLdI at hz; dsimp only at hz
  simp only [fLk_eq, fS1_eq] at hz
  split at hz
  · next x hx => cases hz; exact sStep_P (q := (_, _, _)) he (by show sLdI _ _ _ _ = _; unfold sLdI; rw [hx])
  · cases hz
theorem q_lload {i : Nat} (he : mE M pc = some (.lload i, ln, a1, a2)) (hn : pc + 2 = n) : qS M pc (fLdL i n) := by
  rintro call ⟨p, lv, st, h, cl, sl⟩ z rfl hz
  subst hn
  unfold fLdL at hz; dsimp only at hz
  simp only [fLk_eq, fS1_eq] at hz
  split at hz
  · next x hx => cases hz; exact sStep_P (q := (_, _, _)) he (by show sLdL _ _ _ _ = _; unfold sLdL; rw [hx])
  · cases hz
theorem q_lload_n {i : Fin 4} {j : Nat} (he : mE M pc = some (.lload_n i, ln, a1, a2)) (hj : (i : Nat) = j) (hn : pc + 1 = n) : qS M pc (fLdL j n) := by
  rintro call ⟨p, lv, st, h, cl, sl⟩ z rfl hz
  subst hn; subst hj
  unfold fLdL at hz; dsimp only at hz
  simp only [fLk_eq, fS1_eq] at hz
  split at hz
  · next x hx => cases hz; exact sStep_P (q := (_, _, _)) he (by show sLdL _ _ _ _ = _; unfold sLdL; rw [hx])
  · cases hz
theorem q_aload {i : Nat} (he : mE M pc = some (.aload i, ln, a1, a2)) (hn : pc + 2 = n) : qS M pc (fLdA i n) := by
  rintro call ⟨p, lv, st, h, cl, sl⟩ z rfl hz
  subst hn
  unfold fLdA at hz; dsimp only at hz
  simp only [fLk_eq, fS1_eq] at hz
  split at hz
  · next x hx => cases hz; exact sStep_P (q := (_, _, _)) he (by show sLdA _ _ _ _ = _; unfold sLdA; rw [hx])
  · cases hz
theorem q_aload_n {i : Fin 4} {j : Nat} (he : mE M pc = some (.aload_n i, ln, a1, a2)) (hj : (i : Nat) = j) (hn : pc + 1 = n) : qS M pc (fLdA j n) := by
  rintro call ⟨p, lv, st, h, cl, sl⟩ z rfl hz
  subst hn; subst hj
  unfold fLdA at hz; dsimp only at hz
  simp only [fLk_eq, fS1_eq] at hz
  split at hz
  · next x hx => cases hz; exact sStep_P (q := (_, _, _)) he (by show sLdA _ _ _ _ = _; unfold sLdA; rw [hx])
  · cases hz
theorem q_pu {v : Value} {e : sE} (he : mE M pc = some e) (hP : ∀ lv st, sP (mL M) e.1 pc lv st = some (n, lv, v :: st)) : qS M pc (fPu v n) := by
  rintro call ⟨p, lv, st, h, cl, sl⟩ z rfl hz
  cases hz
  exact sStep_P (q := (_, _, _)) he (hP _ _)
theorem q_istore {i : Nat} (he : mE M pc = some (.istore i, ln, a1, a2)) (hi : i < mL M) (hn : pc + 2 = n) : qS M pc (fStI i n) := by
  rintro call ⟨p, lv, st, h, cl, sl⟩ z rfl hz
  subst hn
  unfold fStI at hz; dsimp only at hz
  simp only [fLk_eq, fS1_eq] at hz
  split at hz
  · next x r => cases hz; exact sStep_P (q := (_, _, _)) he (by unfold sP sStI; exact if_pos hi)
  · cases hz
theorem q_istore_n {i : Fin 4} {j : Nat} (he : mE M pc = some (.istore_n i, ln, a1, a2)) (hj : (i : Nat) = j) (hi : j < mL M) (hn : pc + 1 = n) : qS M pc (fStI j n) := by
  rintro call ⟨p, lv, st, h, cl, sl⟩ z rfl hz
  subst hn; subst hj
  unfold fStI at hz; dsimp only at hz
  simp only [fLk_eq, fS1_eq] at hz
  split at hz
  · next x r => cases hz; exact sStep_P (q := (_, _, _)) he (by unfold sP sStI; exact if_pos hi)
  · cases hz
theorem q_goto {off : Int} (he : mE M pc = some (.goto off, ln, a1, a2)) (ht : sTg pc off = some n) : qS M pc (fGo n) := by
  rintro call ⟨p, lv, st, h, cl, sl⟩ z rfl hz
  cases hz
  exact sStep_P (q := (_, _, _)) he (by unfold sP; dsimp only; rw [ht])
theorem q_bi {f : Int32 → Int32 → Int32} {e : sE} (he : mE M pc = some e) (hP : ∀ lv x y r, sP (mL M) e.1 pc lv (.int y :: .int x :: r) = some (n, lv, .int (f x y) :: r)) : qS M pc (fBi f n) := by
  rintro call ⟨p, lv, st, h, cl, sl⟩ z rfl hz
  unfold fBi at hz; dsimp only at hz
  split at hz
  · next y x r => cases hz; exact sStep_P (q := (_, _, _)) he (hP _ _ _ _)
  · cases hz
theorem q_bl {f : Int64 → Int64 → Int64} {e : sE} (he : mE M pc = some e) (hP : ∀ lv x y r, sP (mL M) e.1 pc lv (.long y :: .long x :: r) = some (n, lv, .long (f x y) :: r)) : qS M pc (fBl f n) := by
  rintro call ⟨p, lv, st, h, cl, sl⟩ z rfl hz
  unfold fBl at hz; dsimp only at hz
  split at hz
  · next y x r => cases hz; exact sStep_P (q := (_, _, _)) he (hP _ _ _ _)
  · cases hz
theorem q_if {c : Jvm.ClassFile.Cond} {off : Int} {t : Nat} (he : mE M pc = some (.ifCond c off, ln, a1, a2)) (ht : sTg pc off = some t) (hn : pc + 3 = n) : qS M pc (fIf c t n) := by
  rintro call ⟨p, lv, st, h, cl, sl⟩ z rfl hz
  subst hn
  unfold fIf at hz; dsimp only at hz
  simp only [qC1_eq] at hz
  split at hz
  · next x r => cases hz; exact sStep_P (q := (_, _, _)) he (by cases c <;> (dsimp only; unfold sP sIf; dsimp only; rw [ht]; rfl))
  · cases hz
theorem q_ic {c : Jvm.ClassFile.Cond} {off : Int} {t : Nat} (he : mE M pc = some (.if_icmp c off, ln, a1, a2)) (ht : sTg pc off = some t) (hn : pc + 3 = n) : qS M pc (fIc c t n) := by
  rintro call ⟨p, lv, st, h, cl, sl⟩ z rfl hz
  subst hn
  unfold fIc at hz; dsimp only at hz
  simp only [qC2_eq] at hz
  split at hz
  · next y x r => cases hz; exact sStep_P (q := (_, _, _)) he (by cases c <;> (dsimp only; unfold sP sIc; dsimp only; rw [ht]; rfl))
  · cases hz
theorem q_inc {i : Nat} {k : Int} {c : Int32} (he : mE M pc = some (.iinc i k, ln, a1, a2)) (hi : i < mL M) (hc : Int32.ofInt k = c) (hn : pc + 3 = n) : qS M pc (fInc i c n) := by
  rintro call ⟨p, lv, st, h, cl, sl⟩ z rfl hz
  subst hn; subst hc
  unfold fInc at hz; dsimp only at hz
  simp only [nAdd_eq, fLk_eq, fS1_eq] at hz
  split at hz
  · next x hx => cases hz; exact sStep_P (q := (_, _, _)) he (by unfold sP; dsimp only; rw [hx]; exact if_pos hi)
  · cases hz
theorem q_du2 (he : mE M pc = some (.dup2, ln, a1, a2)) (hn : pc + 1 = n) : qS M pc (fDu2 n) := by
  rintro call ⟨p, lv, st, h, cl, sl⟩ z rfl hz
  subst hn
  unfold fDu2 at hz; dsimp only at hz
  split at hz
  · next x o r => cases hz; exact sStep_P (q := (_, _, _)) he rfl
  · cases hz
theorem sStep_H {mt : Nat → sM} {call : Nat → List Value → sH → Option sR} {xs : Option (List Int32)} {cf : sK} {e : sE} {q : Nat × sL × List Value × sH} (he : mE M cf.1 = some e) (hP : sP (mL M) e.1 cf.1 cf.2.1 cf.2.2.1 = none) (hq : sHp xs e.1 e.2.2.1 e.2.2.2 cf.1 cf.2.1 cf.2.2.1 cf.2.2.2.1 = some q) : sStep mt call M xs cf = some (.inl (q.1, q.2.1, q.2.2.1, q.2.2.2, cf.2.2.2.2)) := by
  unfold sStep; rw [he]; dsimp only; rw [hP]; dsimp only; rw [hq]
theorem q_get {ix : Nat} (he : mE M pc = some (.getfield ix, ln, a1, a2)) (hn : pc + 3 = n) : qS M pc (fGet a1 a2 n) := by
  rintro call ⟨p, lv, st, h, cl, sl⟩ z rfl hz
  subst hn
  unfold fGet at hz; dsimp only at hz
  simp only [hGet_eq, hSet_eq, hGetD_eq] at hz
  split at hz
  · next o r =>
    split at hz
    · next q ho =>
      cases hb : Nat.beq q.1 a1 with
      | true =>
        rw [hb] at hz
        have hq1 : q.1 = a1 := Nat.eq_of_beq_eq_true hb
        dsimp only [cond] at hz
        split at hz
        · next v hv =>
          cases hz
          exact sStep_H (q := (_, _, _, _)) he rfl (by unfold sHp; dsimp only; rw [ho]; dsimp only; rw [if_pos hq1, hv])
        · cases hz
      | false => rw [hb] at hz; cases hz
    · cases hz
  · cases hz
theorem q_ial (he : mE M pc = some (.iaload, ln, a1, a2)) (hn : pc + 1 = n) : qS M pc (fIal n) := by
  rintro call ⟨p, lv, st, h, cl, sl⟩ z rfl hz
  subst hn
  unfold fIal at hz; dsimp only at hz
  simp only [hGet_eq, hSet_eq] at hz
  split at hz
  · next i a r =>
    split at hz
    · next w ho =>
      split at hz
      · next v hv =>
        cases hb : Nat.blt (tn i) 2147483648 with
        | true =>
          rw [hb] at hz
          cases hz
          obtain ⟨hk, hv2⟩ := List.getElem?_eq_some_iff.mp hv
          obtain ⟨h1, h2⟩ := tn_in hk hb
          exact sStep_H (q := (_, _, _, _)) he rfl (by
            unfold sHp; dsimp only; rw [ho]
            refine (if_pos h1).trans ?_
            rw [h2, List.getD_eq_getElem?_getD, hv]
            rfl)
        | false => rw [hb] at hz; cases hz
      · cases hz
    · cases hz
  · cases hz
theorem q_ias (he : mE M pc = some (.iastore, ln, a1, a2)) (hn : pc + 1 = n) : qS M pc (fIas n) := by
  rintro call ⟨p, lv, st, h, cl, sl⟩ z rfl hz
  subst hn
  unfold fIas at hz; dsimp only at hz
  simp only [hGet_eq, hSet_eq] at hz
  split at hz
  · next x i a r =>
    split at hz
    · next w ho =>
      split at hz
      · next v hv =>
        cases hb : Nat.blt (tn i) 2147483648 with
        | true =>
          rw [hb] at hz
          cases hz
          obtain ⟨hk, hv2⟩ := List.getElem?_eq_some_iff.mp hv
          obtain ⟨h1, h2⟩ := tn_in hk hb
          exact sStep_H (q := (_, _, _, _)) he rfl (by
            unfold sHp; dsimp only; rw [ho]
            refine (if_pos h1).trans ?_
            rw [h2])
        | false => rw [hb] at hz; cases hz
      · cases hz
    · cases hz
  · cases hz
theorem q_ne (he : mE M pc = some (.ineg, ln, a1, a2)) (hn : pc + 1 = n) : qS M pc (fNe n) := by
  rintro call ⟨p, lv, st, h, cl, sl⟩ z rfl hz
  subst hn
  unfold fNe at hz; dsimp only at hz
  simp only [nNeg_eq] at hz
  split at hz
  · next x r => cases hz; exact sStep_P (q := (_, _, _)) he rfl
  · cases hz
theorem q_ab {ix : Nat} (he : mE M pc = some (.invokestatic ix, ln, 1001, a2)) (hn : pc + 3 = n) : qS M pc (fAb n) := by
  rintro call ⟨p, lv, st, h, cl, sl⟩ z rfl hz
  subst hn
  unfold fAb at hz; dsimp only at hz
  split at hz
  · next x r =>
    cases hb : Nat.ble (sCat r) 8 with
    | true =>
      rw [hb] at hz
      cases hz
      have h9 : (cond (Nat.ble (kb 0) (kb x)) x (nSub 0 x)) = (if 0 ≤ x then x else 0 - x) := by
        rw [kb_le, nSub_eq]
        by_cases h : 0 ≤ x
        · rw [decide_eq_true h, if_pos h]; rfl
        · rw [decide_eq_false h, if_neg h]; rfl
      rw [h9]
      unfold sStep; rw [he]; dsimp only
      rw [show sP (mL M) (.invokestatic ix) p lv (.int x :: r) = none from rfl]; dsimp only
      rw [show sHp none (.invokestatic ix) 1001 a2 p lv (.int x :: r) h = none from rfl]; dsimp only
      rw [show sRet (mR M) (.invokestatic ix) (.int x :: r) = none from rfl]; dsimp only
      rw [if_pos (by decide)]
      rw [show sMath 1001 (.int x :: r) = some (.int (if 0 ≤ x then x else 0 - x), r) from rfl]; dsimp only
      rw [if_pos (Nat.le_of_ble_eq_true hb)]
    | false => rw [hb] at hz; cases hz
  · cases hz
theorem q_ma {ix : Nat} (he : mE M pc = some (.invokestatic ix, ln, a1, a2)) (h1 : 1000 ≤ a1) (hn : pc + 3 = n) : qS M pc (fMa a1 n) := by
  rintro call ⟨p, lv, st, h, cl, sl⟩ z rfl hz
  subst hn
  unfold fMa at hz; dsimp only at hz
  split at hz
  · next q hq =>
    cases hb : Nat.ble (sCat q.2) 8 with
    | true =>
      rw [hb] at hz
      cases hz
      unfold sStep; rw [he]; dsimp only
      rw [show sP (mL M) (.invokestatic ix) p lv st = none from rfl]; dsimp only
      rw [show sHp none (.invokestatic ix) a1 a2 p lv st h = none from rfl]; dsimp only
      rw [show sRet (mR M) (.invokestatic ix) st = none from rfl]; dsimp only
      rw [if_pos h1, hq]; dsimp only; rw [if_pos (Nat.le_of_ble_eq_true hb)]
    | false => rw [hb] at hz; cases hz
  · cases hz
theorem q_ri {ty : FieldType} (he : mE M pc = some (.ireturn, ln, a1, a2)) (hr : mR M = some ty) : qS M pc (fRI ty) := by
  rintro call ⟨p, lv, st, h, cl, sl⟩ z rfl hz
  unfold fRI at hz; dsimp only at hz
  split at hz
  · next x =>
    cases hb : sNr ty x with
    | true =>
      rw [hb] at hz
      cases hz
      unfold sStep; rw [he]; dsimp only
      rw [show sP (mL M) .ireturn p lv [.int x] = none from rfl]; dsimp only
      rw [show sHp none .ireturn a1 a2 p lv [.int x] h = none from rfl]; dsimp only
      unfold sRet; dsimp only; rw [hr]; dsimp only; rw [if_pos hb]
    | false => rw [hb] at hz; cases hz
  · cases hz
theorem q_cs {ix mc ms c C S : Nat} (he : mE M pc = some (.invokestatic ix, ln, a1, a2)) (h1 : ¬ 1000 ≤ a1) (hc : mN (mtv a1) = c) (hC : mC (mtv a1) = C) (hS : mS (mtv a1) = S) (hmc : mC M = mc) (hms : mS M = ms) (hn : pc + 3 = n) : qS M pc (fCs mc ms a1 c C S n) := by
  rintro call ⟨p, lv, st, h, cl, sl⟩ z rfl hz
  subst hn; subst hc; subst hC; subst hS; subst hmc; subst hms
  unfold fCs at hz; dsimp only at hz
  cases hb : (Nat.ble (mN (mtv a1)) st.length && (Nat.ble (sCat (st.drop (mN (mtv a1)))) 8 && (Nat.ble (cl + mC (mtv a1)) (mC M) && Nat.ble (sl + mS (mtv a1)) (mS M)))) with
  | true =>
    rw [hb] at hz
    dsimp only [cond] at hz
    simp only [Bool.and_eq_true] at hb
    split at hz
    · next v h9 hc9 =>
      cases hz
      unfold sStep; rw [he]; dsimp only
      rw [show sP (mL M) (.invokestatic ix) p lv st = none from rfl]; dsimp only
      rw [show sHp none (.invokestatic ix) a1 a2 p lv st h = none from rfl]; dsimp only
      rw [show sRet (mR M) (.invokestatic ix) st = none from rfl]; dsimp only
      rw [if_neg h1]
      unfold sInv0; dsimp only
      rw [if_pos (Nat.le_of_ble_eq_true hb.1)]; dsimp only
      rw [if_pos ⟨Nat.le_of_ble_eq_true hb.2.1, Nat.le_of_ble_eq_true hb.2.2.1, Nat.le_of_ble_eq_true hb.2.2.2⟩, hc9]
    · cases hz
  | false => rw [hb] at hz; cases hz
theorem q_cv {ix mc ms c C S : Nat} (he : mE M pc = some (.invokevirtual ix, ln, a1, a2)) (h1 : ¬ 1000 ≤ a1) (hc : mN (mtv a1) = c) (hC : mC (mtv a1) = C) (hS : mS (mtv a1) = S) (hmc : mC M = mc) (hms : mS M = ms) (hn : pc + 3 = n) : qS M pc (fCv mc ms a1 a2 c C S n) := by
  rintro call ⟨p, lv, st, h, cl, sl⟩ z rfl hz
  subst hn; subst hc; subst hC; subst hS; subst hmc; subst hms
  unfold fCv at hz; dsimp only at hz
  simp only [hGet_eq, hSet_eq, hGetD_eq] at hz
  split at hz
  · next o rest hd =>
    split at hz
    · next q ho =>
      cases hb : (Nat.beq q.1 a2 && (Nat.ble (mN (mtv a1)) st.length && (Nat.ble (sCat rest) 8 && (Nat.ble (cl + mC (mtv a1)) (mC M) && Nat.ble (sl + mS (mtv a1)) (mS M))))) with
      | true =>
        rw [hb] at hz
        dsimp only [cond] at hz
        simp only [Bool.and_eq_true] at hb
        split at hz
        · next v h9 hc9 =>
          cases hz
          unfold sStep; rw [he]; dsimp only
          rw [show sP (mL M) (.invokevirtual ix) p lv st = none from rfl]; dsimp only
          rw [show sHp none (.invokevirtual ix) a1 a2 p lv st h = none from rfl]; dsimp only
          rw [show sRet (mR M) (.invokevirtual ix) st = none from rfl]; dsimp only
          rw [if_neg h1]
          unfold sInv0; dsimp only
          rw [if_pos (Nat.le_of_ble_eq_true hb.2.1), hd]; dsimp only
          rw [ho]; dsimp only
          rw [if_pos (Nat.eq_of_beq_eq_true hb.1)]; dsimp only
          rw [if_pos ⟨Nat.le_of_ble_eq_true hb.2.2.1, Nat.le_of_ble_eq_true hb.2.2.2.1, Nat.le_of_ble_eq_true hb.2.2.2.2⟩, hc9]
        · cases hz
      | false => rw [hb] at hz; cases hz
    · cases hz
  · cases hz
end QS
/-! tables, runs -/
def qOk (M : sM) (C : Nat → Option qF) : Prop := ∀ pc f, C pc = some f → qS M pc f
theorem qOk_l {M : sM} {k : Nat} {f : qF} (h : qS M k f) : qOk M (fun pc => bif Nat.beq pc k then some f else none) := by
  intro pc f' h'
  have h' : (bif Nat.beq pc k then some f else none) = some f' := h'
  cases hb : Nat.beq pc k with
  | true =>
    rw [hb] at h'
    cases h'
    rw [Nat.eq_of_beq_eq_true hb]
    exact h
  | false => rw [hb] at h'; cases h'
theorem qOk_b {M : sM} {c : Nat} {f g : Nat → Option qF} (hf : qOk M f) (hg : qOk M g) : qOk M (fun pc => bif Nat.blt pc c then f pc else g pc) := by
  intro pc e' h'
  have h' : (bif Nat.blt pc c then f pc else g pc) = some e' := h'
  cases hb : Nat.blt pc c with
  | true => rw [hb] at h'; exact hf pc e' h'
  | false => rw [hb] at h'; exact hg pc e' h'
noncomputable def qRun (call : Nat → List Value → sH → Option sR) (C : Nat → Option qF) (n : Nat) : sK → Option sR :=
  Nat.rec (fun _ => none) (fun _ ih cf => match C cf.1 with
    | some f => match f call cf with
      | some (.inl k) => ih k
      | some (.inr r) => some r
      | none => none
    | none => none) n
noncomputable def qGo (T : Nat → Option (Nat → Option qF)) (F d : Nat) : Nat → List Value → sH → Option sR :=
  Nat.rec (fun _ _ _ => none) (fun _ ih k as h => match T k with
    | some C => cond (Nat.ble (sCat as) (mL (mtv k))) (qRun ih C F (0, lv_args 0 as, [], h, 0, 0)) none
    | none => none) d
theorem qRun_ok {call : Nat → List Value → sH → Option sR} {M : sM} {C : Nat → Option qF} (hC : qOk M C) : ∀ (n : Nat) (cf : sK) (r : sR), qRun call C n cf = some r → sRun mtv call M none n cf = some r
  | 0, cf, r, h => nomatch h
  | n + 1, cf, r, h => by
    have h : (match C cf.1 with
      | some f => match f call cf with
        | some (.inl k) => qRun call C n k
        | some (.inr r) => some r
        | none => none
      | none => none) = some r := h
    rw [sRun_s]
    split at h
    · next f hf =>
      split at h
      · next k hk => rw [hC _ _ hf call cf _ rfl hk]; exact qRun_ok hC n k r h
      · next r' hk => rw [hC _ _ hf call cf _ rfl hk]; exact h
      · cases h
    · cases h
