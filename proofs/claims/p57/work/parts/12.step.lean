/-! the step, the run -/
def sCat (st : List Value) : Nat := (st.map fun v => v.category).sum
def sArgs (n : Nat) (st : List Value) : List Value := (st.take n).reverse
def sNr (ty : FieldType) (x : Int32) : Bool := match ty with
  | .int => true
  | .boolean => decide (x = 0) || decide (x = 1)
  | .char => decide ((x.toUInt32 % 65536).toInt32 = x)
  | _ => false
/-- a method's end -/
def sRet (ret : Option FieldType) (i : Instr) (st : List Value) : Option (Option Value) := match i with
  | .return_ => match st, ret with
    | [], none => some none
    | _, _ => none
  | .ireturn => match st, ret with
    | [.int x], some ty => if sNr ty x = true then some (some (.int x)) else none
    | _, _ => none
  | .lreturn => match st, ret with
    | [.long x], some .long => some (some (.long x))
    | _, _ => none
  | .freturn => match st, ret with
    | [.float x], some .float => some (some (.float x))
    | _, _ => none
  | .dreturn => match st, ret with
    | [.double x], some .double => some (some (.double x))
    | _, _ => none
  | _ => none
/-- Math.abs, max, min of ints -/
def sMath (a1 : Nat) (st : List Value) : Option (Value × List Value) := match a1 with
  | 1001 => match st with
    | .int x :: r => some (.int (if 0 ≤ x then x else 0 - x), r)
    | _ => none
  | 1002 => match st with
    | .int y :: .int x :: r => some (.int (if x < y then y else x), r)
    | _ => none
  | 1003 => match st with
    | .int y :: .int x :: r => some (.int (if y < x then y else x), r)
    | _ => none
  | _ => none
/-- what a call is of: the method's number, its arguments, what stays on the stack -/
def sInv0 (mt : Nat → sM) (i : Instr) (a1 a2 : Nat) (st : List Value) (h : sH) : Option (List Value × List Value) := match i with
  | .invokestatic _ => if mN (mt a1) ≤ st.length then some (sArgs (mN (mt a1)) st, st.drop (mN (mt a1))) else none
  | .invokevirtual _ => if mN (mt a1) ≤ st.length then match st.drop (mN (mt a1)) with
    | .ref o :: rest => match h[o]? with
      | some (.inr q) => if q.1 = a2 then some (.ref o :: sArgs (mN (mt a1)) st, rest) else none
      | _ => none
    | _ => none
    else none
  | .invokespecial _ => if mN (mt a1) ≤ st.length then match st.drop (mN (mt a1)) with
    | .ref o :: rest => some (.ref o :: sArgs (mN (mt a1)) st, rest)
    | _ => none
    else none
  | _ => none
/-- the handler of this method's table for an exception -/
def sHd (C : Nat → Option sE) (E : Nat) (pc : Nat) : sT → Option Nat
  | [] => none
  | q :: r => if q.1 ≤ pc ∧ pc < q.2.1 then (match C q.2.2.1 with
      | some e => if e.2.2.1 = E then some q.2.2.1 else sHd C E pc r
      | none => none) else sHd C E pc r
def sCk (C : Nat → Option sE) (lv : sL) (h : sH) (cl sl : Nat) (nL hp : Nat) : Option (sK ⊕ sR) := match C hp with
  | some (.astore k, _, _) => if k < nL then some (.inl (hp + 2, sDr k lv, [], h, cl, sl)) else none
  | some (.astore_n k, _, _) => if (k : Nat) < nL then some (.inl (hp + 1, sDr k lv, [], h, cl, sl)) else none
  | _ => none
def sStep (mt : Nat → sM) (call : Nat → List Value → sH → Option sR) (M : sM) (xs : Option (List Int32)) (cf : sK) : Option (sK ⊕ sR) := match mE M cf.1 with
  | none => none
  | some e => match sP (mL M) e.1 cf.1 cf.2.1 cf.2.2.1 with
    | some q => some (.inl (q.1, q.2.1, q.2.2, cf.2.2.2))
    | none => match sHp xs e.1 e.2.2.1 e.2.2.2 cf.1 cf.2.1 cf.2.2.1 cf.2.2.2.1 with
      | some q => some (.inl (q.1, q.2.1, q.2.2.1, q.2.2.2, cf.2.2.2.2))
      | none => match sRet (mR M) e.1 cf.2.2.1 with
        | some v => some (.inr (.inl v, cf.2.2.2.1))
        | none => if 1000 ≤ e.2.2.1 then (match e.1 with
            | .new _ => if cf.2.2.2.2.1 + 1 ≤ mC M ∧ cf.2.2.2.2.2 + 6 ≤ mS M ∧ sCat cf.2.2.1 ≤ 8 then some (.inr (.inr (e.2.2.1 - 1000), cf.2.2.2.1)) else none
            | .invokespecial _ => match cf.2.2.1 with
              | .ref _ :: rest => if sCat rest ≤ 8 then some (.inl (cf.1 + 3, cf.2.1, rest, cf.2.2.2)) else none
              | _ => none
            | .invokestatic _ => match sMath e.2.2.1 cf.2.2.1 with
              | some q => if sCat q.2 ≤ 8 then some (.inl (cf.1 + 3, cf.2.1, q.1 :: q.2, cf.2.2.2)) else none
              | none => none
            | _ => none)
          else match sInv0 mt e.1 e.2.2.1 e.2.2.2 cf.2.2.1 cf.2.2.2.1 with
          | some q => if sCat q.2 ≤ 8 ∧ cf.2.2.2.2.1 + mC (mt e.2.2.1) ≤ mC M ∧ cf.2.2.2.2.2 + mS (mt e.2.2.1) ≤ mS M then (match call e.2.2.1 q.1 cf.2.2.2.1 with
              | some (.inl v, h1) => some (.inl (cf.1 + 3, cf.2.1, v.toList ++ q.2, h1, cf.2.2.2.2.1 + mC (mt e.2.2.1), cf.2.2.2.2.2 + mS (mt e.2.2.1)))
              | some (.inr E, h1) => (match mT M with
                | [] => some (.inr (.inr E, h1))
                | t :: ts => match sHd (mE M) E cf.1 (t :: ts) with
                  | some hp => if 6 ≤ E then none else sCk (mE M) cf.2.1 h1 (cf.2.2.2.2.1 + mC (mt e.2.2.1)) (cf.2.2.2.2.2 + mS (mt e.2.2.1)) (mL M) hp
                  | none => none)
              | none => none) else none
          | none => match sAl (mC M) (mS M) e.1 e.2.2.1 cf.1 cf.2.1 cf.2.2.1 cf.2.2.2.1 cf.2.2.2.2.1 cf.2.2.2.2.2 with
            | some q => some (.inl q)
            | none => none
noncomputable def sRun (mt : Nat → sM) (call : Nat → List Value → sH → Option sR) (M : sM) (xs : Option (List Int32)) (fuel : Nat) : sK → Option sR :=
  Nat.rec (fun _ => none) (fun _ ih cf => match sStep mt call M xs cf with
    | none => none
    | some (.inl k) => ih k
    | some (.inr r) => some r) fuel
noncomputable def sGo1 (mt : Nat → sM) (F d : Nat) : Nat → List Value → sH → Option sR :=
  Nat.rec (fun _ _ _ => none) (fun _ ih k as h => if sCat as ≤ mL (mt k) then sRun mt ih (mt k) none F (0, lv_args 0 as, [], h, 0, 0) else none) d
theorem sRun_s (mt : Nat → sM) (call : Nat → List Value → sH → Option sR) (M : sM) (xs : Option (List Int32)) (n : Nat) (cf : sK) : sRun mt call M xs (n + 1) cf = match sStep mt call M xs cf with
    | none => none
    | some (.inl k) => sRun mt call M xs n k
    | some (.inr r) => some r := rfl
theorem sGo1_s (mt : Nat → sM) (F d k : Nat) (as : List Value) (h : sH) : sGo1 mt F (d + 1) k as h = if sCat as ≤ mL (mt k) then sRun mt (sGo1 mt F d) (mt k) none F (0, lv_args 0 as, [], h, 0, 0) else none := rfl
/-! the words of calls, throws and handlers -/
def sThr (G : sG) (own : String) (cc : ByteArray) (pc : Nat) (ik : Nat) (E : String) : Bool :=
  decide (own = RX8) && (decide (Cond.classLink own ik E ∈ gB G) && (decide (Cond.initialized E ∈ gB G) && (decide (decode cc (pc + 3) = .ok (.dup, 1)) && (match decode cc (pc + 4) with
    | .ok (.ldc is, 2) => decide (E ≠ sEx 4) && (gS G).any (fun q => decide (q.1 = own) && decide (q.2.1 = is)) && (match decode cc (pc + 6) with
      | .ok (.invokespecial ic, 3) => decide (decode cc (pc + 9) = .ok (.athrow, 1)) && decide (Cond.methodLink own ic (Bundle.initS E) ∈ gB G)
      | _ => false)
    | .ok (.ldc_w is, 3) => (gS G).any (fun q => decide (q.1 = own) && decide (q.2.1 = is)) && (match decode cc (pc + 7) with
      | .ok (.invokespecial ic, 3) => decide (decode cc (pc + 10) = .ok (.athrow, 1)) && decide (Cond.methodLink own ic (Bundle.initS E) ∈ gB G)
      | _ => false)
    | _ => false))))
def sMw (G : sG) (own : String) (ix a1 : Nat) : Bool := match a1 with
  | 1001 => decide (Cond.methodLink own ix Lib.Math.abs.name ∈ gB G) && (decide (Cond.static Lib.Math.abs.name ∈ gB G) && (decide (Cond.initialized "java/lang/Math" ∈ gB G) && decide (Cond.code Lib.Math.abs.name Lib.Math.abs.code 1 (some .int) ∈ gB G)))
  | 1002 => decide (Cond.methodLink own ix Lib.Math.max.name ∈ gB G) && (decide (Cond.static Lib.Math.max.name ∈ gB G) && (decide (Cond.initialized "java/lang/Math" ∈ gB G) && decide (Cond.code Lib.Math.max.name Lib.Math.max.code 2 (some .int) ∈ gB G)))
  | 1003 => decide (Cond.methodLink own ix Lib.Math.min.name ∈ gB G) && (decide (Cond.static Lib.Math.min.name ∈ gB G) && (decide (Cond.initialized "java/lang/Math" ∈ gB G) && decide (Cond.code Lib.Math.min.name Lib.Math.min.code 2 (some .int) ∈ gB G)))
  | _ => false
def sCw (G : sG) (mt : Nat → sM) (own : String) (cc : ByteArray) (pc : Nat) (tbl : sT) (i : Instr) (a1 a2 : Nat) : Bool := match i with
  | .invokestatic ix => if 1000 ≤ a1 then sMw G own ix a1 else decide (Cond.static (mY (mt a1)) ∈ gB G) && (decide (Cond.methodLink own ix (mY (mt a1)) ∈ gB G) || (decide (Cond.methodLinkNest own ix (mY (mt a1)) RX8 ∈ gN G) && decide (mT (mt a1) = [])))
  | .invokevirtual ix => decide (a1 < 1000) && (decide (Cond.methodLink own ix (mY (mt a1)) ∈ gB G) && (decide (Cond.instanceMethod (mY (mt a1)) ∈ gB G) && (decide (Cond.selects (mY (mt a1)).cls (mY (mt a1)) (mY (mt a1)) ∈ gB G) && (decide (a2 < 10) && (decide (sNm a2 = (mY (mt a1)).cls) && decide (mT (mt a1) = []))))))
  | .invokespecial ix => if 1000 ≤ a1 then decide (Cond.methodLink own ix objectInit ∈ gB G) && (decide (Cond.instanceMethod objectInit ∈ gB G) && decide (Cond.code objectInit ⟨#[0xb1]⟩ 1 none ∈ gB G)) else (decide ((mY (mt a1)).name = "<init>") && (decide (Cond.instanceMethod (mY (mt a1)) ∈ gB G) && (decide (mR (mt a1) = none) && (decide (mT (mt a1) = []) && (decide (Cond.methodLink own ix (mY (mt a1)) ∈ gB G) || decide (Cond.methodLinkNest own ix (mY (mt a1)) RX8 ∈ gN G))))))
  | .new ix => if 1000 ≤ a1 then decide (tbl = []) && sThr G own cc pc ix (sEx (a1 - 1000)) else true
  | _ => true
/-- all that is asked of an instruction -/
def sEok (G : sG) (mt : Nat → sM) (own : String) (isI : Bool) (cc : ByteArray) (tbl : sT) (pc : Nat) (e : sE) : Bool :=
  decide (decode cc pc = .ok (e.1, e.2.1)) && ((match e.1 with
    | .tableswitch _ _ _ _ => true
    | _ => decide (e.2.1 = sLen e.1)) && (sHw (gB G) own isI e.1 e.2.2.1 e.2.2.2 && (sCw G mt own cc pc tbl e.1 e.2.2.1 e.2.2.2 && (decide (1000 ≤ e.2.2.1) || sAw (gB G) own e.1 e.2.2.1))))
