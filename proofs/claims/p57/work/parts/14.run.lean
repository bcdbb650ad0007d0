theorem sEok_s {G : sG} {mt : Nat → sM} {own : String} {isI : Bool} {cc : ByteArray} {tbl : sT} {pc : Nat} {e : sE} (h : sEok G mt own isI cc tbl pc e = true) :
    decode cc pc = .ok (e.1, e.2.1) ∧ ((∃ d lo hi o, e.1 = .tableswitch d lo hi o) ∨ e.2.1 = sLen e.1) ∧ sHw (gB G) own isI e.1 e.2.2.1 e.2.2.2 = true ∧ sCw G mt own cc pc tbl e.1 e.2.2.1 e.2.2.2 = true ∧ (1000 ≤ e.2.2.1 ∨ sAw (gB G) own e.1 e.2.2.1 = true) := by
  simp only [sEok, Bool.and_eq_true, Bool.or_eq_true, decide_eq_true_eq] at h
  obtain ⟨h1, h2, h3, h4, h5⟩ := h
  refine ⟨h1, ?_, h3, h4, h5⟩
  split at h2
  · next d lo hi o he => exact Or.inl ⟨d, lo, hi, o, he⟩
  · exact Or.inr (of_decide_eq_true h2)
theorem sAl_le {mc ms : Nat} {i : Instr} {a1 pc cells slots : Nat} {lv : sL} {st : List Value} {h : sH} {q : Nat × sL × List Value × sH × Nat × Nat} (hq : sAl mc ms i a1 pc lv st h cells slots = some q) : q.2.2.2.2.1 ≤ mc ∧ q.2.2.2.2.2 ≤ ms := by
  cases i with
  | new ix =>
    unfold sAl at hq; dsimp only at hq
    split at hq
    · next e1 => cases hq; exact ⟨e1.2.1, e1.2.2⟩
    · cases hq
  | newarray t =>
    unfold sAl at hq; dsimp only at hq
    split at hq
    · split at hq
      · next e1 => cases hq; exact ⟨e1.2.2.2.1, e1.2.2.2.2⟩
      · cases hq
    · cases hq
  | anewarray ix =>
    unfold sAl at hq; dsimp only at hq
    split at hq
    · split at hq
      · next e1 => cases hq; exact ⟨e1.2.2.2.1, e1.2.2.2.2⟩
      · cases hq
    · cases hq
  | multianewarray ix dm =>
    unfold sAl at hq; dsimp only at hq
    split at hq
    · split at hq
      · split at hq
        · next e1 =>
          cases hq
          obtain ⟨-, -, e3, e4⟩ := e1
          exact ⟨by show cells + 1 + _ ≤ _; omega, by show slots + _ + _ ≤ _; omega⟩
        · cases hq
      · cases hq
    · cases hq
  | _ => cases hq
/-- the rows of a method's table -/
def sTok (G : sG) (M : sM) : Bool := (mT M).all (fun q => match mE M q.2.2.1 with
  | some e => decide (e.2.2.1 < 6) && (decide (q.2.2.2 ≠ 0) && (decide (Cond.classLink (mY M).cls q.2.2.2 (sEx e.2.2.1) ∈ gB G) && (decide (Cond.castable (sEx e.2.2.1) (sEx e.2.2.1) ∈ gN G) && (List.range 6).all (fun k => decide (k = e.2.2.1) || decide ((sEx k, sEx e.2.2.1) ∈ gC G)))))
  | none => false)
theorem sHd_s {C : Nat → Option sE} {E pc hp : Nat} : ∀ {T : sT}, sHd C E pc T = some hp → ∃ (pre : sT) (x : Nat × Nat × Nat × Nat) (suf : sT), T = pre ++ x :: suf ∧ (x.1 ≤ pc ∧ pc < x.2.1) ∧ x.2.2.1 = hp ∧ (∃ e, C hp = some e ∧ e.2.2.1 = E) ∧ ∀ z ∈ pre, ¬ (z.1 ≤ pc ∧ pc < z.2.1) ∨ ∃ e, C z.2.2.1 = some e ∧ e.2.2.1 ≠ E
  | [], h => by cases h
  | q :: r, h => by
    unfold sHd at h
    split at h
    · next hcov =>
      split at h
      · next e he =>
        split at h
        · next hE =>
          cases h
          exact ⟨[], q, r, rfl, hcov, rfl, ⟨e, he, hE⟩, fun z hz => nomatch hz⟩
        · next hE =>
          obtain ⟨pre, x, suf, h1, h2, h3, h4, h5⟩ := sHd_s h
          exact ⟨q :: pre, x, suf, by rw [h1]; rfl, h2, h3, h4, fun z hz => (List.mem_cons.mp hz).elim (fun e9 => by rw [e9]; exact Or.inr ⟨e, he, hE⟩) (h5 z)⟩
      · cases h
    · next hcov =>
      obtain ⟨pre, x, suf, h1, h2, h3, h4, h5⟩ := sHd_s h
      exact ⟨q :: pre, x, suf, by rw [h1]; rfl, h2, h3, h4, fun z hz => (List.mem_cons.mp hz).elim (fun e9 => by rw [e9]; exact Or.inl hcov) (h5 z)⟩
section SR
variable {p : Program} {l : Launch} {e : Env} {R : Room} {s : State} {m : MethodId} {args : Array Value} {below : List Frame} {meth : Method} {c : Code} {Q : State → Prop}
variable {n0 b d : Nat} {D : va_G} {cA : Nat → ClassId} {A : Nat → Prop} {ad0 : Nat → Nat} {G : sG} {M : sM} {mt : Nat → sM} {call : Nat → List Value → sH → Option sR} {xs : Option (List Int32)} {r : sR}
/-- what a frame stands on -/
def sFr (p : Program) (l : Launch) (R : Room) (s : State) (m : MethodId) (args : Array Value) (meth : Method) (c : Code) (G : sG) (mt : Nat → sM) (M : sM) (D : va_G) (cA : Nat → ClassId) (b d : Nat) (A : Nat → Prop) (xs : Option (List Int32)) (call : Nat → List Value → sH → Option sR) : Prop :=
  (p.tables.exec = Jvm.exec ∧ c.code = mB M ∧ c.maxLocals = mL M ∧ s.vm.findClass (mY M).cls = some m.cls ∧ (∀ w ∈ gB G, w.before args s = true)) ∧ (sGok G ∧ va_K D sCl (sTys cA) s ∧ sZq A s s.heap ∧ sEnv G s ∧ (∀ q, s.heap.size ≤ q → A q)) ∧
  (((mY M).name = "<init>" → meth.name = "<init>") ∧ sScr A b xs s ∧ c.exceptionTable.toList = tableOf (mT M)) ∧ (∀ k, k < 1000 → sMok G (mt k) = true) ∧
  ((∀ pc e, mE M pc = some e → sEok G mt (mY M).cls (decide ((mY M).name = "<init>")) (mB M) (mT M) pc e = true) ∧ sTok G M = true) ∧ (∀ k as h r, call k as h = some r → sCon l G D cA b d (mt k) as h r) ∧
  (11 + d ≤ R.frames ∧ 400 + 200 * d ≤ R.locals ∧ mC M ≤ R.cells ∧ mS M ≤ R.slots)
/-- a method's end, with a value -/
def sEndV (p : Program) (l : Launch) (e : Env) (R : Room) (s : State) (m : MethodId) (args : Array Value) (below : List Frame) (meth : Method) (c : Code) (Q : State → Prop) (M : sM) (D : va_G) (cA : Nat → ClassId) (b : Nat) (A : Nat → Prop) (n0 : Nat) (ad0 : Nat → Nat) (r : sR) : Prop :=
  ∀ (i : Instr) (v : Option Value) (h : sH) (pc : Nat) (lv : sL) (st : List Value) (cl sl : Nat), r = (.inl v, h) → decode (mB M) pc = .ok (i, 1) → sRet (mR M) i st = some v → cl ≤ mC M → sl ≤ mS M → sJ p l e R s m args below meth c Q (mL M) D cA b A n0 ad0 pc lv st h cl sl
/-- .. with an exception that comes out of a call -/
def sEndX (p : Program) (l : Launch) (e : Env) (R : Room) (s : State) (m : MethodId) (args : Array Value) (below : List Frame) (meth : Method) (c : Code) (Q : State → Prop) (M : sM) (D : va_G) (cA : Nat → ClassId) (b : Nat) (A : Nat → Prop) (n0 : Nat) (ad0 : Nat → Nat) (r : sR) : Prop :=
  ∀ (k : Nat) (h : sH) (ad : Nat → Nat) (H : Heap) (locs : List Loc) (ls : Array Slot) (q : Addr) (ce : Cell) (pc : Nat) (rest : List Value) (cl sl : Nat), r = (.inr k, h) → mT M = [] → cl ≤ mC M → sl ≤ mS M → sInv D cA b A s.heap n0 ad0 ad h H locs → H[q]? = some ce → ce.vm = .none → s.vm.findClass (sEx k) = some ce.cls → vx_W p l e R s m args below meth c H locs cl sl Q (F0 m pc ls rest) q
/-- .. or one that it throws itself -/
def sEndT (p : Program) (l : Launch) (e : Env) (R : Room) (s : State) (m : MethodId) (args : Array Value) (below : List Frame) (meth : Method) (c : Code) (Q : State → Prop) (G : sG) (M : sM) (D : va_G) (cA : Nat → ClassId) (b : Nat) (A : Nat → Prop) (n0 : Nat) (ad0 : Nat → Nat) (r : sR) : Prop :=
  ∀ (k ik : Nat) (h : sH) (pc : Nat) (lv : sL) (st : List Value) (cl sl : Nat), r = (.inr k, h) → mT M = [] → decode (mB M) pc = .ok (.new ik, 3) → sThr G (mY M).cls (mB M) pc ik (sEx k) = true → cl + 1 ≤ mC M → sl + 6 ≤ mS M → sCat st ≤ 8 → sJ p l e R s m args below meth c Q (mL M) D cA b A n0 ad0 pc lv st h cl sl
set_option maxHeartbeats 2000000 in
theorem sStep_ok {pc cl sl : Nat} {lv : sL} {st : List Value} {h : sH} {z : sK ⊕ sR} (F : sFr p l R s m args meth c G mt M D cA b d A xs call)
    (eV : sEndV p l e R s m args below meth c Q M D cA b A n0 ad0 r) (eX : sEndX p l e R s m args below meth c Q M D cA b A n0 ad0 r) (eT : sEndT p l e R s m args below meth c Q G M D cA b A n0 ad0 r)
    (hcl : cl ≤ mC M) (hsl : sl ≤ mS M) (hs : sStep mt call M xs (pc, lv, st, h, cl, sl) = some z)
    (hk : ∀ k, z = .inl k → k.2.2.2.2.1 ≤ mC M → k.2.2.2.2.2 ≤ mS M → sJ p l e R s m args below meth c Q (mL M) D cA b A n0 ad0 k.1 k.2.1 k.2.2.1 k.2.2.2.1 k.2.2.2.2.1 k.2.2.2.2.2) (hr : ∀ r', z = .inr r' → r' = r) :
    sJ p l e R s m args below meth c Q (mL M) D cA b A n0 ad0 pc lv st h cl sl := by
  obtain ⟨⟨hx, hb, hml, hown, hts⟩, ⟨hG, hK, hZ, hE, hA⟩, ⟨hinit, hscr, htab⟩, hmk, ⟨hcode, htok⟩, hc, hRf, hRl, hmc, hms⟩ := F
  unfold sStep at hs; dsimp only at hs
  split at hs
  · cases hs
  next e0 he =>
  obtain ⟨hd, hsw, hHw, hCw, hAw⟩ := sEok_s (hcode pc e0 he)
  split at hs
  · next q hq =>
    cases hs
    intro ad H locs ls hI hl hw hst
    exact sP_ok hx hb hd hsw hq hl hw hst (fun ls' h1 h2 h3 => hk _ rfl hcl hsl ad H locs ls' hI h1 h2 h3)
  split at hs
  · next q hq =>
    cases hs
    rcases hsw with ⟨d9, lo9, hi9, o9, h9⟩ | hlen
    · rw [h9] at hq; cases hq
    · exact sHp_ok hx hb hown hts hK (fun hi => hinit (of_decide_eq_true hi)) hG.2.2 hscr hd hlen hHw hq (hk _ rfl hcl hsl)
  split at hs
  · next v hv =>
    cases hs
    have hr' := hr _ rfl
    rcases hsw with ⟨d9, lo9, hi9, o9, h9⟩ | hlen
    · rw [h9] at hv; cases hv
    · refine eV e0.1 v h pc lv st cl sl hr'.symm ?_ hv hcl hsl
      rw [hd, hlen]
      have h1 : sLen e0.1 = 1 := by
        revert hv
        cases e0.1 <;> intro hv <;> first | rfl | cases hv
      rw [h1]
  split at hs
  · next h1000 =>
    split at hs
    · next ik hnew =>
      split at hs
      · next hcond =>
        cases hs
        have hr' := hr _ rfl
        rw [hnew] at hd hCw hsw
        simp only [sCw, if_pos h1000, Bool.and_eq_true, decide_eq_true_eq] at hCw
        have hlen : e0.2.1 = 3 := hsw.elim (fun ⟨_, _, _, _, h9⟩ => by cases h9) id
        rw [hlen] at hd
        exact eT (e0.2.2.1 - 1000) ik h pc lv st cl sl hr'.symm hCw.1 hd hCw.2 hcond.1 hcond.2.1 hcond.2.2
      · cases hs
    · next ix hsp =>
      split at hs
      · next o rest y1 y2 y3 =>
        split at hs
        · next hcat =>
          cases hs
          rw [hsp] at hd hCw hsw
          simp only [sCw, if_pos h1000, Bool.and_eq_true, decide_eq_true_eq] at hCw
          have hlen : e0.2.1 = 3 := hsw.elim (fun ⟨_, _, _, _, h9⟩ => by cases h9) id
          rw [hlen] at hd
          intro ad H locs ls hI hl hw hst
          have hroom : 2 * (F0 m pc ls ((Value.ref o :: rest).map (sV ad b))).monitorRoom + ((rest.map (sV ad b)).map fun v => v.category).sum ≤ 8 := lv_room (by rw [sCat_map]; exact hcat)
          exact W.objInit hx hb hown (hts _ hCw.1) (hts _ hCw.2.1) (hts _ hCw.2.2) (g := F0 m pc ls ((Value.ref o :: rest).map (sV ad b))) rfl (hl.1.trans hml.symm) rfl hd (by omega) (by omega) (hk _ rfl hcl hsl ad H locs ls hI hl hw (sJ_tail hst))
        · cases hs
      · cases hs
    · next ix hsp =>
      rw [hsp] at hd hCw hsw
      have hlen : e0.2.1 = 3 := hsw.elim (fun ⟨_, _, _, _, h9⟩ => by cases h9) id
      rw [hlen] at hd
      simp only [sCw, if_pos h1000] at hCw
      split at hs
      · next q hq =>
        split at hs
        · next hcat =>
          cases hs
          intro ad H locs ls hI hl hw hst
          have hrl : ((q.2.map (sV ad b)).map fun v => v.category).sum + 13 ≤ R.locals := by rw [sCat_map]; omega
          unfold sMath at hq
          unfold sMw at hCw
          split at hq
          · next h9 =>
            simp only [h9, Bool.and_eq_true, decide_eq_true_eq] at hCw
            split at hq
            · cases hq
              exact va_mabs hx hb (hml.trans hl.1.symm) hown (hts _ hCw.1) (hts _ hCw.2.1) (hts _ hCw.2.2.1) (hts _ hCw.2.2.2) (by omega) hrl (by omega) (by omega) hd (hk _ rfl hcl hsl ad H locs ls hI hl hw (sJ_cons (by exact True.intro) (sJ_tail hst)))
            · cases hq
          · next h9 =>
            simp only [h9, Bool.and_eq_true, decide_eq_true_eq] at hCw
            split at hq
            · cases hq
              exact va_mmax hx hb (hml.trans hl.1.symm) hown (hts _ hCw.1) (hts _ hCw.2.1) (hts _ hCw.2.2.1) (hts _ hCw.2.2.2) (by omega) hrl (by omega) (by omega) hd (hk _ rfl hcl hsl ad H locs ls hI hl hw (sJ_cons (by exact True.intro) (sJ_tail (sJ_tail hst))))
            · cases hq
          · next h9 =>
            simp only [h9, Bool.and_eq_true, decide_eq_true_eq] at hCw
            split at hq
            · cases hq
              exact va_mmin hx hb (hml.trans hl.1.symm) hown (hts _ hCw.1) (hts _ hCw.2.1) (hts _ hCw.2.2.1) (hts _ hCw.2.2.2) (by omega) hrl (by omega) (by omega) hd (hk _ rfl hcl hsl ad H locs ls hI hl hw (sJ_cons (by exact True.intro) (sJ_tail (sJ_tail hst))))
            · cases hq
          · cases hq
        · cases hs
      · cases hs
    · cases hs
  next hn1000 =>
  split at hs
  · next q hq =>
    split at hs
    · next hcond =>
      have hlt : e0.2.2.1 < 1000 := Nat.not_le.mp hn1000
      have hlen : e0.2.1 = sLen e0.1 := hsw.elim (fun ⟨_, _, _, _, h9⟩ => by rw [h9] at hq; cases hq) id
      rw [hlen] at hd
      split at hs
      · next v h1 hcall =>
        cases hs
        exact sCall_ok hx hb hml hown hts hG hK hZ hE hA (hmk _ hlt) hd hlt hCw hq (hc _ _ _ _ hcall) hRf hRl (Nat.le_trans hcond.2.1 hmc) (Nat.le_trans hcond.2.2 hms) hcond.1
          (fun v' h1' hrr => by cases hrr; exact hk _ rfl hcond.2.1 hcond.2.2) (fun k h1' hrr => by cases hrr)
      · next E h1 hcall =>
        refine sCall_ok hx hb hml hown hts hG hK hZ hE hA (hmk _ hlt) hd hlt hCw hq (hc _ _ _ _ hcall) hRf hRl (Nat.le_trans hcond.2.1 hmc) (Nat.le_trans hcond.2.2 hms) hcond.1
          (fun v' h1' hrr => by cases hrr) (fun k h1' hrr ad1 H1 locs1 ls1 q9 ce hI1 hl1 hw1 hq1 hq2 hq3 => ?_)
        cases hrr
        split at hs
        · next hmT =>
          cases hs
          exact eX E h1 ad1 H1 locs1 ls1 q9 ce pc _ _ _ (hr _ rfl).symm hmT hcond.2.1 hcond.2.2 hI1 hq1 hq2 hq3
        · next t ts hmT =>
          split at hs
          · next hp hhd =>
            split at hs
            · cases hs
            · next hE6 =>
              obtain ⟨pre, x, suf, g1, g2, g3, ⟨ex, g4, g4'⟩, g5⟩ := sHd_s hhd
              have htk := List.all_eq_true.mp htok
              have row : ∀ z ∈ t :: ts, ∀ ez, mE M z.2.2.1 = some ez → ez.2.2.1 < 6 ∧ z.2.2.2 ≠ 0 ∧ Cond.classLink (mY M).cls z.2.2.2 (sEx ez.2.2.1) ∈ gB G ∧ Cond.castable (sEx ez.2.2.1) (sEx ez.2.2.1) ∈ gN G ∧ ∀ k, k < 6 → k = ez.2.2.1 ∨ (sEx k, sEx ez.2.2.1) ∈ gC G := by
                intro z hz ez hez
                have h9 := htk z (by rw [hmT]; exact hz)
                rw [hez] at h9
                simp only [Bool.and_eq_true, Bool.or_eq_true, decide_eq_true_eq, List.all_eq_true, List.mem_range] at h9
                exact h9
              obtain ⟨f1, f2, f3, f4, -⟩ := row x (by rw [g1]; simp) ex (by rw [g3]; exact g4)
              rw [g4'] at f3 f4
              have hsplit : c.exceptionTable.toList = pre.map (fun q => (⟨q.1, q.2.1, q.2.2.1, q.2.2.2⟩ : ExceptionTableEntry)) ++ (⟨x.1, x.2.1, x.2.2.1, x.2.2.2⟩ : ExceptionTableEntry) :: suf.map (fun q => (⟨q.1, q.2.1, q.2.2.1, q.2.2.2⟩ : ExceptionTableEntry)) := by
                rw [htab, hmT, g1]
                unfold tableOf
                rw [List.map_append]
                rfl
              refine vx_catch (E := sEx E) (name := sEx E) hown _ _ _ hsplit (fun z hz => ?_) (by simp only [covers, Bool.and_eq_true, decide_eq_true_eq]; exact g2) f2 (hts _ f3) (va_Nw.use rfl (hE.1 _ f4)) hq1 hq2 hq3 ?_
              · obtain ⟨z0, hz0, rfl⟩ := List.mem_map.mp hz
                rcases g5 z0 hz0 with h9 | ⟨ez, h9, h8⟩
                · refine Or.inl ?_
                  simp only [covers, Bool.and_eq_false_iff, decide_eq_false_iff_not]
                  exact Classical.not_and_iff_not_or_not.mp h9
                · obtain ⟨-, k2, k3, -, k5⟩ := row z0 (by rw [g1]; exact List.mem_append_left _ hz0) ez h9
                  refine Or.inr ⟨k2, sEx ez.2.2.1, hts _ k3, hE.2.2.1 (sEx E, sEx ez.2.2.1) ?_⟩
                  rcases k5 E (Nat.not_le.mp hE6) with h7 | h7
                  · exact absurd h7.symm h8
                  · exact h7
              · show W p l e R s m args below meth c H1 locs1 _ _ Q (F0 m x.2.2.1 ls1 [.ref q9])
                rw [g3]
                unfold sCk at hs
                obtain ⟨hd2, hsw2, -⟩ := sEok_s (hcode hp ex g4)
                rw [g4] at hs
                split at hs
                · next k0 y0 heq =>
                  cases heq
                  split at hs
                  · next hkL =>
                    cases hs
                    have hl2 : y0 = y0 := rfl
                    have hlen2 := hsw2.elim (fun ⟨_, _, _, _, h9⟩ => by cases h9) id
                    dsimp only at hd2 hlen2
                    rw [hlen2] at hd2
                    refine lv_astore hx hb hd2 hl1 hkL rfl (fun ls' h' => ?_)
                    exact hk _ rfl hcond.2.1 hcond.2.2 ad1 H1 locs1 ls' hI1 (by rw [← sDr_c]; exact ⟨h'.1, h'.2.1, fun q hq => h'.2.2 q (List.mem_cons_of_mem _ hq)⟩) (sOk_dr hw1) (fun v hv => nomatch hv)
                  · cases hs
                · next k0 y0 heq =>
                  cases heq
                  split at hs
                  · next hkL =>
                    cases hs
                    have hlen2 := hsw2.elim (fun ⟨_, _, _, _, h9⟩ => by cases h9) id
                    dsimp only at hd2 hlen2
                    rw [hlen2] at hd2
                    refine lv_astore_n hx hb hd2 rfl hl1 hkL rfl (fun ls' h' => ?_)
                    exact hk _ rfl hcond.2.1 hcond.2.2 ad1 H1 locs1 ls' hI1 (by rw [← sDr_c]; exact ⟨h'.1, h'.2.1, fun q hq => h'.2.2 q (List.mem_cons_of_mem _ hq)⟩) (sOk_dr hw1) (fun v hv => nomatch hv)
                  · cases hs
                · cases hs
          · cases hs
      · cases hs
    · cases hs
  split at hs
  · next q hq =>
    cases hs
    have hlen : e0.2.1 = sLen e0.1 := hsw.elim (fun ⟨_, _, _, _, h9⟩ => by rw [h9] at hq; cases hq) id
    have hle := sAl_le hq
    exact sAl_ok hx hb hown hts hK hG.2.2 hA hE.2.2.2.1 hE.2.2.2.2 hd hlen (hAw.resolve_left hn1000) hmc hms hq (hk _ rfl hle.1 hle.2)
  · cases hs
theorem sRun_ok (F : sFr p l R s m args meth c G mt M D cA b d A xs call)
    (eV : sEndV p l e R s m args below meth c Q M D cA b A n0 ad0 r) (eX : sEndX p l e R s m args below meth c Q M D cA b A n0 ad0 r) (eT : sEndT p l e R s m args below meth c Q G M D cA b A n0 ad0 r) :
    ∀ (fuel pc : Nat) (lv : sL) (st : List Value) (h : sH) (cl sl : Nat), cl ≤ mC M → sl ≤ mS M → sRun mt call M xs fuel (pc, lv, st, h, cl, sl) = some r → sJ p l e R s m args below meth c Q (mL M) D cA b A n0 ad0 pc lv st h cl sl := by
  intro fuel
  induction fuel with
  | zero => intro pc lv st h cl sl _ _ hr; cases hr
  | succ n ih =>
    intro pc lv st h cl sl hcl hsl hr
    rw [sRun_s] at hr
    cases hz : sStep mt call M xs (pc, lv, st, h, cl, sl) with
    | none => rw [hz] at hr; cases hr
    | some z =>
      rw [hz] at hr
      refine sStep_ok F eV eX eT hcl hsl hz (fun k hk h1 h2 => ?_) (fun r' hk => ?_)
      · rw [hk] at hr
        exact ih k.1 k.2.1 k.2.2.1 k.2.2.2.1 k.2.2.2.2.1 k.2.2.2.2.2 h1 h2 hr
      · rw [hk] at hr
        exact Option.some.inj hr
end SR
