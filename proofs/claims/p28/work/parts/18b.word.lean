/-! part 18b: a method's instructions, word by word (the words by their places, not by the kernel's look at strings) -/
theorem mt8 {α : Type} {a b0 b1 b2 b3 b4 b5 b6 b7 : α} {l : List α} (h : a ∈ l) : a ∈ b0 :: b1 :: b2 :: b3 :: b4 :: b5 :: b6 :: b7 :: l := .tail _ (.tail _ (.tail _ (.tail _ (.tail _ (.tail _ (.tail _ (.tail _ h)))))))
def sEw (own : String) (isI : Bool) (cc : ByteArray) (tbl : sT) (pc : Nat) (e : sE) : Bool := sHw (gB sGv) own isI e.1 e.2.2.1 e.2.2.2 && (sCw sGv mtv own cc pc tbl e.1 e.2.2.1 e.2.2.2 && (decide (1000 ≤ e.2.2.1) || sAw (gB sGv) own e.1 e.2.2.1))
def sNw (i : Instr) : Bool := match i with
  | .getfield _ | .putfield _ | .ldc _ | .ldc_w _ | .ldc2_w _ | .invokestatic _ | .invokevirtual _ | .invokespecial _ | .new _ | .newarray _ | .anewarray _ | .multianewarray _ _ => false
  | _ => true
section SW
variable {own : String} {isI : Bool} {cc : ByteArray} {tbl : sT} {pc ix ln a1 a2 : Nat}
theorem sEw_of {e : sE} (h1 : sHw (gB sGv) own isI e.1 e.2.2.1 e.2.2.2 = true) (h2 : sCw sGv mtv own cc pc tbl e.1 e.2.2.1 e.2.2.2 = true) (h3 : 1000 ≤ e.2.2.1 ∨ sAw (gB sGv) own e.1 e.2.2.1 = true) : sEw own isI cc tbl pc e = true := by
  unfold sEw
  rw [h1, h2, Bool.true_and, Bool.true_and]
  rcases h3 with h | h
  · rw [decide_eq_true h, Bool.true_or]
  · rw [h, Bool.or_true]
theorem sEw_n {e : sE} (h : sNw e.1 = true) : sEw own isI cc tbl pc e = true := by
  obtain ⟨i, ln, a1, a2⟩ := e
  cases i <;> first | exact Bool.noConfusion (show false = true from h) | exact sEw_of rfl rfl (Or.inr rfl)
theorem sw_get (h1 : a1 < 10) (h2 : a2 < sNf a1) (hw : Cond.fieldLink own ix (sT4 a1 a2).1 (sT4 a1 a2).2.1 (sT4 a1 a2).2.2.1 ∈ gB sGv) : sEw own isI cc tbl pc (.getfield ix, ln, a1, a2) = true := sEw_of (by
  simp only [sHw, Bool.and_eq_true, decide_eq_true_eq]; exact ⟨h1, h2, hw⟩) rfl (Or.inr rfl)
theorem sw_put (h1 : a1 < 10) (h2 : a2 < sNf a1) (hw : Cond.fieldLink own ix (sT4 a1 a2).1 (sT4 a1 a2).2.1 (sT4 a1 a2).2.2.1 ∈ gB sGv) (h3 : (sT4 a1 a2).2.2.2 = false ∨ (isI = true ∧ (sT4 a1 a2).1 = own)) : sEw own isI cc tbl pc (.putfield ix, ln, a1, a2) = true := sEw_of (by
  simp only [sHw, Bool.and_eq_true, Bool.or_eq_true, decide_eq_true_eq]; exact ⟨h1, h2, hw, h3⟩) rfl (Or.inr rfl)
theorem sw_ldc (hw : Cond.constant own ix (Int32.ofNat a1) ∈ gB sGv) : sEw own isI cc tbl pc (.ldc ix, ln, a1, a2) = true := sEw_of (by
  simp only [sHw, decide_eq_true_eq]; exact hw) rfl (Or.inr rfl)
theorem sw_ldc_w (hw : Cond.constant own ix (Int32.ofNat a1) ∈ gB sGv) : sEw own isI cc tbl pc (.ldc_w ix, ln, a1, a2) = true := sEw_of (by
  simp only [sHw, decide_eq_true_eq]; exact hw) rfl (Or.inr rfl)
theorem sw_ldc2 (hw : Cond.constantLong own ix (Int64.ofNat a1) ∈ gB sGv) : sEw own isI cc tbl pc (.ldc2_w ix, ln, a1, a2) = true := sEw_of (by
  simp only [sHw, decide_eq_true_eq]; exact hw) rfl (Or.inr rfl)
theorem sw_stat (h0 : ¬ 1000 ≤ a1) (hs : Cond.static (mY (mtv a1)) ∈ gB sGv) (hl : Cond.methodLink own ix (mY (mtv a1)) ∈ gB sGv ∨ (Cond.methodLinkNest own ix (mY (mtv a1)) RX8 ∈ gN sGv ∧ mT (mtv a1) = [])) : sEw own isI cc tbl pc (.invokestatic ix, ln, a1, a2) = true := sEw_of rfl (by
  simp only [sCw, if_neg h0, Bool.and_eq_true, Bool.or_eq_true, decide_eq_true_eq]; exact ⟨hs, hl⟩) (Or.inr rfl)
theorem sw_m1 (h1 : Cond.methodLink own ix Lib.Math.abs.name ∈ gB sGv) (h2 : Cond.static Lib.Math.abs.name ∈ gB sGv) (h3 : Cond.initialized "java/lang/Math" ∈ gB sGv) (h4 : Cond.code Lib.Math.abs.name Lib.Math.abs.code 1 (some .int) ∈ gB sGv) : sEw own isI cc tbl pc (.invokestatic ix, ln, 1001, a2) = true := sEw_of rfl (by
  show sMw sGv own ix 1001 = true
  simp only [sMw, Bool.and_eq_true, decide_eq_true_eq]; exact ⟨h1, h2, h3, h4⟩) (Or.inl (show 1000 ≤ 1001 by decide))
theorem sw_m2 (h1 : Cond.methodLink own ix Lib.Math.max.name ∈ gB sGv) (h2 : Cond.static Lib.Math.max.name ∈ gB sGv) (h3 : Cond.initialized "java/lang/Math" ∈ gB sGv) (h4 : Cond.code Lib.Math.max.name Lib.Math.max.code 2 (some .int) ∈ gB sGv) : sEw own isI cc tbl pc (.invokestatic ix, ln, 1002, a2) = true := sEw_of rfl (by
  show sMw sGv own ix 1002 = true
  simp only [sMw, Bool.and_eq_true, decide_eq_true_eq]; exact ⟨h1, h2, h3, h4⟩) (Or.inl (show 1000 ≤ 1002 by decide))
theorem sw_m3 (h1 : Cond.methodLink own ix Lib.Math.min.name ∈ gB sGv) (h2 : Cond.static Lib.Math.min.name ∈ gB sGv) (h3 : Cond.initialized "java/lang/Math" ∈ gB sGv) (h4 : Cond.code Lib.Math.min.name Lib.Math.min.code 2 (some .int) ∈ gB sGv) : sEw own isI cc tbl pc (.invokestatic ix, ln, 1003, a2) = true := sEw_of rfl (by
  show sMw sGv own ix 1003 = true
  simp only [sMw, Bool.and_eq_true, decide_eq_true_eq]; exact ⟨h1, h2, h3, h4⟩) (Or.inl (show 1000 ≤ 1003 by decide))
theorem sw_virt (h0 : a1 < 1000) (hl : Cond.methodLink own ix (mY (mtv a1)) ∈ gB sGv) (hi : Cond.instanceMethod (mY (mtv a1)) ∈ gB sGv) (hs : Cond.selects (mY (mtv a1)).cls (mY (mtv a1)) (mY (mtv a1)) ∈ gB sGv) (h2 : a2 < 10) (hn : sNm a2 = (mY (mtv a1)).cls) (hT : mT (mtv a1) = []) : sEw own isI cc tbl pc (.invokevirtual ix, ln, a1, a2) = true := sEw_of rfl (by
  simp only [sCw, Bool.and_eq_true, decide_eq_true_eq]; exact ⟨h0, hl, hi, hs, h2, hn, hT⟩) (Or.inr rfl)
theorem sw_obj (h0 : 1000 ≤ a1) (h1 : Cond.methodLink own ix objectInit ∈ gB sGv) (h2 : Cond.instanceMethod objectInit ∈ gB sGv) (h3 : Cond.code objectInit ⟨#[0xb1]⟩ 1 none ∈ gB sGv) : sEw own isI cc tbl pc (.invokespecial ix, ln, a1, a2) = true := sEw_of rfl (by
  simp only [sCw, if_pos h0, Bool.and_eq_true, decide_eq_true_eq]; exact ⟨h1, h2, h3⟩) (Or.inl h0)
theorem sw_spec (h0 : ¬ 1000 ≤ a1) (hn : (mY (mtv a1)).name = "<init>") (hi : Cond.instanceMethod (mY (mtv a1)) ∈ gB sGv) (hr : mR (mtv a1) = none) (hT : mT (mtv a1) = []) (hl : Cond.methodLink own ix (mY (mtv a1)) ∈ gB sGv ∨ Cond.methodLinkNest own ix (mY (mtv a1)) RX8 ∈ gN sGv) : sEw own isI cc tbl pc (.invokespecial ix, ln, a1, a2) = true := sEw_of rfl (by
  simp only [sCw, if_neg h0, Bool.and_eq_true, Bool.or_eq_true, decide_eq_true_eq]; exact ⟨hn, hi, hr, hT, hl⟩) (Or.inr rfl)
theorem sw_new (h0 : ¬ 1000 ≤ a1) (h1 : Cond.classLink own ix (sNm a1) ∈ gB sGv) (h2 : Cond.instantiable (sNm a1) (sNf a1) ∈ gB sGv) (h3 : Cond.initialized (sNm a1) ∈ gB sGv) : sEw own isI cc tbl pc (.new ix, ln, a1, a2) = true := sEw_of rfl (by
  simp only [sCw, if_neg h0]) (Or.inr (by
  simp only [sAw, Bool.and_eq_true, decide_eq_true_eq]; exact ⟨h1, h2, h3⟩))
theorem sw_na {t : _} (h1 : Cond.arrayClass (newarray.typeOf t) ∈ gB sGv) : sEw own isI cc tbl pc (.newarray t, ln, a1, a2) = true := sEw_of rfl rfl (Or.inr (by
  simp only [sAw, decide_eq_true_eq]; exact h1))
theorem sw_an (h1 : Cond.classLink own ix (sNm a1) ∈ gB sGv) : sEw own isI cc tbl pc (.anewarray ix, ln, a1, a2) = true := sEw_of rfl rfl (Or.inr (by
  simp only [sAw, decide_eq_true_eq]; exact h1))
theorem sw_ma {d : Nat} (h1 : Cond.classLink own ix ("[" ++ (FieldType.array .int).toString) ∈ gB sGv) (h2 : Cond.arrayClass .int ∈ gB sGv) : sEw own isI cc tbl pc (.multianewarray ix d, ln, a1, a2) = true := sEw_of rfl rfl (Or.inr (by
  simp only [sAw, Bool.and_eq_true, decide_eq_true_eq]; exact ⟨h1, h2⟩))
/-- what follows a thrown exception's making -/
def sThD (cc : ByteArray) (pc : Nat) (b : Bool) (is ic : Nat) : Bool := decide (decode cc (pc + 3) = .ok (.dup, 1)) && (bif b then decide (decode cc (pc + 4) = .ok (.ldc is, 2)) && (decide (decode cc (pc + 6) = .ok (.invokespecial ic, 3)) && decide (decode cc (pc + 9) = .ok (.athrow, 1)))
  else decide (decode cc (pc + 4) = .ok (.ldc_w is, 3)) && (decide (decode cc (pc + 7) = .ok (.invokespecial ic, 3)) && decide (decode cc (pc + 10) = .ok (.athrow, 1))))
theorem sw_thr {is ic : Nat} {b : Bool} (h0 : 1000 ≤ a1) (ht : tbl = []) (ho : own = RX8) (m1 : Cond.classLink own ix (sEx (a1 - 1000)) ∈ gB sGv) (m2 : Cond.initialized (sEx (a1 - 1000)) ∈ gB sGv) (hd : sThD cc pc b is ic = true) (hE : b = true → sEx (a1 - 1000) ≠ sEx 4) {t : String} (hs : (own, is, t) ∈ sSS) (m3 : Cond.methodLink own ic (Bundle.initS (sEx (a1 - 1000))) ∈ gB sGv) : sEw own isI cc tbl pc (.new ix, ln, a1, a2) = true := sEw_of rfl (by
  have hs : (gS sGv).any (fun q => decide (q.1 = own) && decide (q.2.1 = is)) = true := List.any_eq_true.mpr ⟨(own, is, t), hs, by
    rw [Bool.and_eq_true, decide_eq_true_eq, decide_eq_true_eq]; exact ⟨rfl, rfl⟩⟩
  simp only [sCw, if_pos h0, Bool.and_eq_true, decide_eq_true_eq]
  refine ⟨ht, ?_⟩
  unfold sThD at hd
  rw [Bool.and_eq_true, decide_eq_true_eq] at hd
  obtain ⟨d1, d2⟩ := hd
  unfold sThr
  rw [Bool.and_eq_true, Bool.and_eq_true, Bool.and_eq_true, Bool.and_eq_true]
  refine ⟨decide_eq_true ho, decide_eq_true m1, decide_eq_true m2, decide_eq_true d1, ?_⟩
  cases b with
  | true =>
    dsimp only [cond] at d2
    rw [Bool.and_eq_true, Bool.and_eq_true, decide_eq_true_eq, decide_eq_true_eq, decide_eq_true_eq] at d2
    obtain ⟨d2, d3, d4⟩ := d2
    simp only [d2, d3, decide_eq_true (hE rfl), hs, decide_eq_true d4, decide_eq_true m3, Bool.and_self]
  | false =>
    dsimp only [cond] at d2
    rw [Bool.and_eq_true, Bool.and_eq_true, decide_eq_true_eq, decide_eq_true_eq, decide_eq_true_eq] at d2
    obtain ⟨d2, d3, d4⟩ := d2
    simp only [d2, d3, hs, decide_eq_true d4, decide_eq_true m3, Bool.and_self]) (Or.inl h0)
end SW
def sWpc (M : sM) (pc : Nat) : Prop := ∀ e, mE M pc = some e → sEw (mY M).cls (decide ((mY M).name = "<init>")) (mB M) (mT M) pc e = true
theorem sW1 {M : sM} {pc : Nat} {e0 : sE} (hm : mE M pc = some e0) (h : sEw (mY M).cls (decide ((mY M).name = "<init>")) (mB M) (mT M) pc e0 = true) : sWpc M pc := fun e he => by
  rw [hm] at he
  cases he
  exact h
def sWall (M : sM) : List Nat → Prop
  | [] => True
  | pc :: l => sWpc M pc ∧ sWall M l
theorem sWall_s {M : sM} : ∀ {l : List Nat} {pc : Nat}, sWall M l → pc ∈ l → sWpc M pc
  | q :: l, pc, h, hp => by
    cases hp with
    | head => exact h.1
    | tail _ hp => exact sWall_s h.2 hp
def sB2 (M : sM) (n : Nat) (ps : List Nat) : Bool := (List.range n).all (fun pc => match mE M pc with
  | none => true
  | some e => decide (decode (mB M) pc = .ok (e.1, e.2.1)) && ((match e.1 with
    | .tableswitch _ _ _ _ => true
    | _ => decide (e.2.1 = sLen e.1)) && (sNw e.1 || ps.any (fun q => Nat.beq q pc))))
def sTr (M : sM) (q : Nat × Nat × Nat × Nat) : Bool := match mE M q.2.2.1 with
  | some e => decide (e.2.2.1 < 6) && (decide (q.2.2.2 ≠ 0) && (decide (Cond.classLink (mY M).cls q.2.2.2 (sEx e.2.2.1) ∈ gB sGv) && (decide (Cond.castable (sEx e.2.2.1) (sEx e.2.2.1) ∈ gN sGv) && (List.range 6).all (fun k => decide (k = e.2.2.1) || decide ((sEx k, sEx e.2.2.1) ∈ gC sGv)))))
  | none => false
theorem sTr_of {M : sM} {q : Nat × Nat × Nat × Nat} {e : sE} (hm : mE M q.2.2.1 = some e) (h1 : e.2.2.1 < 6) (h2 : q.2.2.2 ≠ 0) (h3 : Cond.classLink (mY M).cls q.2.2.2 (sEx e.2.2.1) ∈ gB sGv) (h4 : Cond.castable (sEx e.2.2.1) (sEx e.2.2.1) ∈ gN sGv) (h5 : (List.range 6).all (fun k => decide (k = e.2.2.1) || decide ((sEx k, sEx e.2.2.1) ∈ gC sGv)) = true) : sTr M q = true := by
  unfold sTr
  rw [hm]
  dsimp only
  rw [decide_eq_true h1, decide_eq_true h2, decide_eq_true h3, decide_eq_true h4, h5]
  rfl
def sTal (M : sM) : sT → Prop
  | [] => True
  | q :: l => sTr M q = true ∧ sTal M l
theorem sTal_s {M : sM} : ∀ {l : sT} {q : Nat × Nat × Nat × Nat}, sTal M l → q ∈ l → sTr M q = true
  | a :: l, q, h, hp => by
    cases hp with
    | head => exact h.1
    | tail _ hp => exact sTal_s h.2 hp
theorem sTok_of {M : sM} (h : sTal M (mT M)) : sTok sGv M = true := List.all_eq_true.mpr (fun q hq => sTal_s h hq)
abbrev sPn (c : String) : Prop := plainName c = true ∧ c ≠ "java/lang/invoke/MethodHandle" ∧ c ≠ "java/lang/invoke/VarHandle"
theorem sMok_of {M : sM} (h1 : sPn (mY M).cls) (h2 : (parseMethodDescriptor (mY M).desc).map (fun d => d.parameters.length) = some (mN M)) (h3 : sCd M ∈ gB sGv) (h4 : Cond.initialized (mY M).cls ∈ gB sGv) (h5 : mL M ≤ 150) : sMok sGv M = true := by
  simp only [sMok, Bool.and_eq_true, decide_eq_true_eq]
  exact ⟨h1.1, h1.2.1, h1.2.2, h2, h3, h4, h5⟩
theorem sPk_w {n : Nat} {M : sM} {f : Nat → Option sE} {ps : List Nat} (hn : mE M = sC0 n f) (hb : sB2 M n ps = true) (hW : sWall M ps) (hm : sMok sGv M = true) (ht : sTok sGv M = true) : sPk M := by
  refine ⟨hm, fun pc e he => ?_, ht⟩
  have h1 := List.all_eq_true.mp hb pc (List.mem_range.mpr (sC0_lt (n := n) (f := f) (by rw [← hn]; exact he)))
  rw [he] at h1
  dsimp only at h1
  rw [Bool.and_eq_true, Bool.and_eq_true, Bool.or_eq_true] at h1
  obtain ⟨g1, g2, g3⟩ := h1
  have g4 : sEw (mY M).cls (decide ((mY M).name = "<init>")) (mB M) (mT M) pc e = true := by
    rcases g3 with g | g
    · exact sEw_n g
    · obtain ⟨q, hq, e1⟩ := List.any_eq_true.mp g
      have e1 := Nat.eq_of_beq_eq_true e1
      subst e1
      exact sWall_s hW hq e he
  unfold sEok
  rw [Bool.and_eq_true, Bool.and_eq_true]
  exact ⟨g1, g2, g4⟩
