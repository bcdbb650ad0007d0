/-! a method's run gives its contract -/
abbrev sNames : List String := ["java/lang/RuntimeException", "java/lang/Exception"]
def sMtOk (G : sG) (mt : Nat → sM) : Prop := ∀ k, sMok G (mt k) = true ∧ (∀ pc e, mE (mt k) pc = some e → sEok G mt (mY (mt k)).cls (decide ((mY (mt k)).name = "<init>")) (mB (mt k)) (mT (mt k)) pc e = true) ∧ sTok G (mt k) = true
def sNB : ByteArray := prog_26_method_4_code
def sAtOk (G : sG) : Prop := ∀ (k : Nat) (ic : Nat), Cond.methodLink RX8 ic (Bundle.initS (sEx k)) ∈ gB G → (k ≠ 4 → ∀ w ∈ vx_atS RX8 ic (sEx k) sNames, w ∈ gB G ∨ w ∈ gN G) ∧ (k = 4 → ∀ w ∈ sx_atS RX8 ic (sEx k) 13 sNB sNames, w ∈ gB G ∨ w ∈ gN G)
theorem sEx_fit (k : Nat) : Bundle.fit (sEx k) = true := by
  unfold sEx
  split <;> decide +kernel
theorem lv_args_map {ad : Nat → Nat} {b : Nat} : ∀ (i : Nat) (as : List Value), lv_args i (as.map (sV ad b)) = sLc ad b (lv_args i as)
  | _, [] => rfl
  | i, v :: vs => by
    show (i, sV ad b v) :: lv_args _ (vs.map (sV ad b)) = (i, sV ad b v) :: sLc ad b (lv_args _ vs)
    rw [sV_cat, lv_args_map]
theorem lv_args_ok {n : Nat} : ∀ (i : Nat) (as : List Value), (∀ v ∈ as, sOk n v) → ∀ q ∈ lv_args i as, sOk n q.2
  | _, [], _, q, hq => nomatch hq
  | i, v :: vs, h, q, hq => by
    rcases List.mem_cons.mp hq with e | hq
    · rw [e]; exact h v List.mem_cons_self
    · exact lv_args_ok _ vs (fun w hw => h w (List.mem_cons_of_mem _ hw)) q hq
theorem lg_sl_len : ∀ vs : List Value, (lg_sl vs).length = sCat vs
  | [] => rfl
  | v :: vs => by
    have h := lg_sl_len vs
    show ((if v.category = 2 then [Slot.val v, Slot.second] else [Slot.val v]) ++ lg_sl vs).length = v.category + sCat vs
    rw [List.length_append, h]
    rcases lv_cat v with e | e <;> rw [e] <;> rfl
section ST
variable {p : Program} {l : Launch} {e : Env} {R : Room} {s : State} {m : MethodId} {args : Array Value} {below : List Frame} {meth : Method} {c : Code} {Q : State → Prop}
variable {n0 b d mc ms : Nat} {D : va_G} {cA : Nat → ClassId} {A : Nat → Prop} {ad0 : Nat → Nat} {G : sG} {M : sM} {mt : Nat → sM} {call : Nat → List Value → sH → Option sR} {xs : Option (List Int32)} {r : sR}
theorem sPost_of {h : sH} {ad : Nat → Nat} {H : Heap} {locs : List Loc} {t : State} (hI : sInv D cA b A s.heap n0 ad0 ad h H locs) (ht : t.heap = H) : sPost D cA b A n0 ad0 ad h t :=
  ⟨by rw [ht]; exact hI.1, hI.2.1, hI.2.2.2.1, hI.2.2.2.2.1, hI.2.2.2.2.2⟩
theorem sEndV_ok (hx : p.tables.exec = Jvm.exec) (hb : c.code = mB M) (hret : meth.sig.returnType = mR M) (hlocks : meth.locks = false) :
    sEndV p l e R s m args below meth c (vx_MQ below (sQc D cA b A n0 ad0 r) (sXc D cA b A n0 ad0 r) args s (mC M) (mS M) A) M D cA b A n0 ad0 r := by
  intro i v h pc lv st cl sl hr hd hv hcl hsl ad H locs ls hI hl hw hst
  refine W.widen hcl hsl (vx_ret ?_)
  have hQ : ∀ (u : Option Value), v = u → (∀ w, u = some w → sV ad b w = w ∧ sOk h.length w) → ∀ t : State, t.heap = H → s.WarmedH t.vm → sQc D cA b A n0 ad0 r args s (.returned u) t := by
    intro u hu hok t ht hW
    subst hu
    refine ⟨⟨v, h, ad, hr, ?_, fun w hw9 => (hok w hw9).2, sPost_of hI ht⟩, hI.2.2.1.F ht⟩
    cases v with
    | none => rfl
    | some w => rw [Option.map_some, (hok w rfl).1]
  cases i with
  | return_ =>
    unfold sRet at hv; dsimp only at hv
    split at hv
    · next h1 =>
      cases hv
      exact W.vret hx hb (hret.trans h1) (hQ none rfl (fun w hw9 => nomatch hw9)) hI.2.2.1.2.2 hd hlocks
    · cases hv
  | ireturn =>
    unfold sRet at hv; dsimp only at hv
    split at hv
    · next x ty h1 =>
      split at hv
      · next h2 =>
        cases hv
        have hn : narrow ty (.int x) = .int x := by
          unfold sNr at h2
          split at h2
          · rfl
          · simp only [Bool.or_eq_true, decide_eq_true_eq] at h2
            rcases h2 with rfl | rfl <;> decide +kernel
          · have h3 := of_decide_eq_true h2
            show Value.int _ = Value.int _
            first | rw [h3] | (congr 1)
          · cases h2
        exact W.zret hx hb (hret.trans h1) hn (hQ _ rfl (fun w hw9 => by cases hw9; exact ⟨rfl, True.intro⟩)) hI.2.2.1.2.2 hd hlocks
      · cases hv
    · cases hv
  | lreturn =>
    unfold sRet at hv; dsimp only at hv
    split at hv
    · next x h1 =>
      cases hv
      exact W.lret hx hb (hret.trans h1) (hQ _ rfl (fun w hw9 => by cases hw9; exact ⟨rfl, True.intro⟩)) hI.2.2.1.2.2 hd hlocks
    · cases hv
  | freturn =>
    unfold sRet at hv; dsimp only at hv
    split at hv
    · next x h1 =>
      cases hv
      exact W.fret hx hb (hret.trans h1) (hQ _ rfl (fun w hw9 => by cases hw9; exact ⟨rfl, True.intro⟩)) hI.2.2.1.2.2 hd hlocks
    · cases hv
  | dreturn =>
    unfold sRet at hv; dsimp only at hv
    split at hv
    · next x h1 =>
      cases hv
      exact W.dret hx hb (hret.trans h1) (hQ _ rfl (fun w hw9 => by cases hw9; exact ⟨rfl, True.intro⟩)) hI.2.2.1.2.2 hd hlocks
    · cases hv
  | _ => cases hv
theorem sEndX_ok (hlocks : meth.locks = false) (htab : c.exceptionTable.toList = tableOf (mT M)) :
    sEndX p l e R s m args below meth c (vx_MQ below (sQc D cA b A n0 ad0 r) (sXc D cA b A n0 ad0 r) args s (mC M) (mS M) A) M D cA b A n0 ad0 r := by
  intro k h ad H locs ls q ce pc rest cl sl hr hmT hcl hsl hI hq1 hq2 hq3
  exact vx_out (fun x hx => by rw [htab, hmT] at hx; exact nomatch hx) hlocks hq1 hq2 hq3 (fun t ht _ => ⟨⟨k, h, ad, hr, rfl, sPost_of hI ht⟩, hI.2.2.1.F ht⟩) hI.2.2.1.2.2 hcl hsl
theorem sThr_c {own : String} {cc : ByteArray} {pc ik : Nat} {E : String} (h : sThr G own cc pc ik E = true) : own = RX8 ∧ Cond.classLink own ik E ∈ gB G ∧ Cond.initialized E ∈ gB G ∧ decode cc (pc + 3) = .ok (.dup, 1) ∧
    ((∃ is ic, decode cc (pc + 4) = .ok (.ldc is, 2) ∧ E ≠ sEx 4 ∧ (∃ q ∈ gS G, q.1 = own ∧ q.2.1 = is) ∧ decode cc (pc + 6) = .ok (.invokespecial ic, 3) ∧ decode cc (pc + 9) = .ok (.athrow, 1) ∧ Cond.methodLink own ic (Bundle.initS E) ∈ gB G) ∨
     (∃ is ic, decode cc (pc + 4) = .ok (.ldc_w is, 3) ∧ (∃ q ∈ gS G, q.1 = own ∧ q.2.1 = is) ∧ decode cc (pc + 7) = .ok (.invokespecial ic, 3) ∧ decode cc (pc + 10) = .ok (.athrow, 1) ∧ Cond.methodLink own ic (Bundle.initS E) ∈ gB G)) := by
  simp only [sThr, Bool.and_eq_true, decide_eq_true_eq] at h
  obtain ⟨h8, h1, h2, h3, h4⟩ := h
  refine ⟨h8, h1, h2, h3, ?_⟩
  split at h4
  · next is hd4 =>
    simp only [Bool.and_eq_true, List.any_eq_true, decide_eq_true_eq] at h4
    obtain ⟨⟨hne, q, hq, hq2⟩, h5⟩ := h4
    split at h5
    · next ic hd6 =>
      simp only [Bool.and_eq_true, decide_eq_true_eq] at h5
      exact Or.inl ⟨is, ic, hd4, hne, ⟨q, hq, hq2⟩, hd6, h5.1, h5.2⟩
    · cases h5
  · next is hd4 =>
    simp only [Bool.and_eq_true, List.any_eq_true, decide_eq_true_eq] at h4
    obtain ⟨⟨q, hq, hq2⟩, h5⟩ := h4
    split at h5
    · next ic hd6 =>
      simp only [Bool.and_eq_true, decide_eq_true_eq] at h5
      exact Or.inr ⟨is, ic, hd4, ⟨q, hq, hq2⟩, hd6, h5.1, h5.2⟩
    · cases h5
  · cases h4
theorem sEndT_ok (hx : p.tables.exec = Jvm.exec) (hb : c.code = mB M) (hl : l.stackTraces = false) (hml : c.maxLocals = mL M) (hown : s.vm.findClass (mY M).cls = some m.cls) (hts : ∀ w ∈ gB G, w.before args s = true) (hG : sGok G) (hZ : sZq A s s.heap) (hE : sEnv G s) (hat : sAtOk G) (hlocks : meth.locks = false) (htab : c.exceptionTable.toList = tableOf (mT M))
    (hRf : 11 + d ≤ R.frames) (hRl : 400 + 200 * d ≤ R.locals) (hmc : mC M ≤ R.cells) (hms : mS M ≤ R.slots) :
    sEndT p l e R s m args below meth c (vx_MQ below (sQc D cA b A n0 ad0 r) (sXc D cA b A n0 ad0 r) args s (mC M) (mS M) A) G M D cA b A n0 ad0 r := by
  intro k ik h pc lv st cl sl hr hmT hd0 hthr hcl hsl hcat ad H locs ls hI hll hw hst
  obtain ⟨h8, h1, h2, h3, h4⟩ := sThr_c hthr
  have hatw : ∀ L : List Cond, (∀ w ∈ L, w ∈ gB G ∨ w ∈ gN G) → (∀ w ∈ L, w.before args s = true) ∧ ∀ w ∈ Cond.classLink (mY M).cls ik (sEx k) :: Cond.initialized (sEx k) :: L, vx_ot w = true := by
    intro L hL
    have hg : ∀ w ∈ gB G, vx_ot w = true := fun w hw => by
      unfold vx_ot
      rw [hG.1 w hw, Bool.or_true]
    have hm : ∀ w, sMov w = true → w.onTables = true := fun w hw => by
      unfold sMov at hw
      split at hw <;> first | rfl | cases hw
    refine ⟨fun w hw => ?_, fun w hw => ?_⟩
    · rcases hL w hw with h9 | h9
      · exact hts w h9
      · exact va_Nw.use (hm w (hG.2.1 w h9)) (hE.1 w h9)
    · rcases List.mem_cons.mp hw with e9 | hw
      · rw [e9]; exact hg _ h1
      · rcases List.mem_cons.mp hw with e9 | hw
        · rw [e9]; exact hg _ h2
        · rcases hL w hw with h9 | h9
          · exact hg w h9
          · unfold vx_ot
            rw [hm w (hG.2.1 w h9)]
            rfl
  have hXC : ∀ t : State, s.vm.Alike t.vm → H.size ≤ t.heap.size → (∀ q : Nat, q < H.size → t.heap[q]? = H[q]?) → sXc D cA b A n0 ad0 r (sEx k) s t := by
    intro t hal hle hk9
    have hP : va_P D sCl (sW ad cA b h) t.heap := hI.1.kept (fun k1 q hq => hk9 q.1 ((hI.1 k1 q hq).lt))
    refine ⟨⟨k, h, ad, hr, rfl, hP, hI.2.1, hI.2.2.2.1, hI.2.2.2.2.1, hI.2.2.2.2.2⟩, Nat.le_trans hI.2.2.1.1 hle, fun q hq1 hq2 => ?_⟩
    rw [hk9 q (Nat.lt_of_lt_of_le hq1 hI.2.2.1.1)]
    exact hI.2.2.1.2.1 q hq1 hq2
  have hrl : ((st.map (sV ad b)).map fun v => v.category).sum + (13 * (sNames.length + 1) + 43) ≤ R.locals := by
    rw [sCat_map]
    show sCat st + (13 * (2 + 1) + 43) ≤ R.locals
    omega
  have hnm : ∀ n ∈ sNames, Bundle.fit n = true := by decide +kernel
  have hout : ∀ (z : Nat), ∀ x ∈ c.exceptionTable.toList, covers x z = false := fun z x hx9 => by rw [htab, hmT] at hx9; exact nomatch hx9
  rcases h4 with ⟨is, ic, g1, gne, ⟨q, g2, g3, g4⟩, g5, g6, g7⟩ | ⟨is, ic, g1, ⟨q, g2, g3, g4⟩, g5, g6, g7⟩
  · obtain ⟨sa, hstr⟩ := hE.2.1 q g2
    rw [g3, g4] at hstr
    have hk4 : k ≠ 4 := fun h9 => gne (by rw [h9])
    obtain ⟨a1, a2⟩ := hatw (vx_atS (mY M).cls ic (sEx k) sNames) (by rw [h8]; exact (hat k ic (by rw [← h8]; exact g7)).1 hk4)
    exact vx_throwS (names := sNames) hx hb hl hown (sEx_fit k) hnm (hts _ h1) (hts _ h2) hstr a1 a2 hZ.1 hZ.2 hI.2.2.1 (hll.1.trans hml.symm) hd0 h3 g1 g5 g6 (hout _) (by show 2 + 3 < R.frames; omega) hrl (by omega) (by omega) hlocks hXC hI.2.2.1.2.2 hcl hsl
  · obtain ⟨sa, hstr⟩ := hE.2.1 q g2
    rw [g3, g4] at hstr
    by_cases hk4 : k = 4
    · obtain ⟨a1, a2⟩ := hatw (sx_atS (mY M).cls ic (sEx k) 13 sNB sNames) (by rw [h8]; exact (hat k ic (by rw [← h8]; exact g7)).2 hk4)
      refine sx_throwSW (names := sNames) (rx := sNB) (ix := 13) hx hb hl (by decide +kernel) (by decide +kernel) (by decide +kernel) (by decide +kernel) hown (sEx_fit k) hnm (hts _ h1) (hts _ h2) hstr a1 a2 hZ.1 hZ.2 hI.2.2.1 (hll.1.trans hml.symm) hd0 h3 g1 g5 g6 (by show 2 + 3 < R.frames; omega) hrl (by omega) (by omega) (fun q9 ce H1 hq1 hq2 hq3 hle hk9 => ?_)
      have hS1 : va_S A s.heap H1 locs := ⟨Nat.le_trans hI.2.2.1.1 hle, fun z hz1 hz2 => (hk9 z (Nat.lt_of_lt_of_le hz1 hI.2.2.1.1)).trans (hI.2.2.1.2.1 z hz1 hz2), hI.2.2.1.2.2⟩
      have hP1 : va_P D sCl (sW ad cA b h) H1 := hI.1.kept (fun k1 q hq => hk9 q.1 ((hI.1 k1 q hq).lt))
      exact vx_out (hout _) hlocks hq1 hq2 hq3 (fun t ht hal => ⟨⟨k, h, ad, hr, rfl, by rw [ht]; exact hP1, hI.2.1, hI.2.2.2.1, hI.2.2.2.2.1, hI.2.2.2.2.2⟩, hS1.F ht⟩) hI.2.2.1.2.2 hcl hsl
    · obtain ⟨a1, a2⟩ := hatw (vx_atS (mY M).cls ic (sEx k) sNames) (by rw [h8]; exact (hat k ic (by rw [← h8]; exact g7)).1 hk4)
      exact vx_throwSW (names := sNames) hx hb hl hown (sEx_fit k) hnm (hts _ h1) (hts _ h2) hstr a1 a2 hZ.1 hZ.2 hI.2.2.1 (hll.1.trans hml.symm) hd0 h3 g1 g5 g6 (hout _) (by show 2 + 3 < R.frames; omega) hrl (by omega) (by omega) hlocks hXC hI.2.2.1.2.2 hcl hsl
end ST
/-- every run of a method by the pure machine gives its contract -/
theorem sGo_ok {l : Launch} {G : sG} {mt : Nat → sM} {D : va_G} {cA : Nat → ClassId} {b F : Nat} (hl : l.stackTraces = false) (hG : sGok G) (hat : sAtOk G) (hmt : sMtOk G mt) : ∀ (d k : Nat) (as : List Value) (h : sH) (r : sR), sGo1 mt F d k as h = some r → sCon l G D cA b d (mt k) as h r := by
  intro d
  induction d with
  | zero => intro k as h r hr; cases hr
  | succ d ih =>
    intro k as h r hr hasok hO ad sz
    rw [sGo1_s] at hr
    split at hr
    · next hcat =>
      obtain ⟨hpn, -, hcd, hini, hmL⟩ := sMok_s (hmt k).1
      have body : ∀ (p : Program) (e : Env) (s : State) (m : MethodId) (args : Array Value) (below : List Frame) (meth : Method) (c : Code) (s₁ : State), BodyLoose p l (mY (mt k)) (headSpec (sCd (mt k) :: gB G) (sRm (d + 1) (mt k))) (mB (mt k)) (mL (mt k)) (mR (mt k)) e s m args below meth c s₁ → c.maxLocals = mL (mt k) → c.exceptionTable.toList = tableOf (mT (mt k)) → sPc G D cA b as h ad sz args s →
          W p l e (headSpec (sCd (mt k) :: gB G) (sRm (d + 1) (mt k))).room s m args below meth c s.heap [] 0 0 (vx_MQ below (sQc D cA b (va_A (sW ad cA b h) sz) h.length ad r) (sXc D cA b (va_A (sW ad cA b h) sz) h.length ad r) args s (mC (mt k)) (mS (mt k)) (va_A (sW ad cA b h) sz)) (entryFrame m args (mL (mt k))) := by
        intro p e s m args below meth c s₁ B hml htab hv
        obtain ⟨rfl, hsz, hP, hK, hD0, hZ, hE⟩ := hv
        have hx := B.exec
        have hb := B.bytes
        have hret := B.returns
        have hts0 := atoms_spec (ws := sCd (mt k) :: gB G) B.pre
        have hts : ∀ w ∈ gB G, w.before (as.map (sV ad b)).toArray s = true := fun w hw => hts0 w (List.mem_cons_of_mem _ hw)
        have hown : s.vm.findClass (mY (mt k)).cls = some m.cls := findClass_of_methodNamed B.named
        have hlocks := B.notSynchronized
        have hin : (mY (mt k)).name = "<init>" → meth.name = "<init>" := fun h9 => ((name_of_methodNamed B.named B.method).1).trans h9
        subst hsz
        have hA : ∀ q : Nat, s.heap.size ≤ q → va_A (sW ad cA b h) s.heap.size q := fun q hq => Or.inr hq
        have hI : sInv D cA b (va_A (sW ad cA b h) s.heap.size) s.heap h.length ad ad h s.heap [] := ⟨hP, hD0.self, va_S.rf, hO, Nat.le_refl _, fun _ _ => rfl⟩
        have hrm : (headSpec (sCd (mt k) :: gB G) (sRm (d + 1) (mt k))).room = sRm (d + 1) (mt k) := rfl
        have hRf : 11 + d ≤ (sRm (d + 1) (mt k)).frames := by show 11 + d ≤ 10 + (d + 1); omega
        have hRl : 400 + 200 * d ≤ (sRm (d + 1) (mt k)).locals := by show 400 + 200 * d ≤ 200 + 200 * (d + 1); omega
        rw [hrm]
        have F9 : sFr p l (sRm (d + 1) (mt k)) s m (as.map (sV ad b)).toArray meth c G mt (mt k) D cA b d (va_A (sW ad cA b h) s.heap.size) none (sGo1 mt F d) :=
          ⟨⟨hx, hb, hml, hown, hts⟩, ⟨hG, hK, hZ, hE, hA⟩, ⟨hin, (fun ys hys => by cases hys), htab⟩, fun k9 _ => (hmt k9).1, (hmt k).2, ih, hRf, hRl, Nat.le_refl _, Nat.le_refl _⟩
        have key := sRun_ok (e := e) (below := below) (r := r) (n0 := h.length) (ad0 := ad) F9 (sEndV_ok hx hb hret hlocks) (sEndX_ok hlocks htab) (sEndT_ok (d := d) hx hb hl hml hown hts hG hZ hE hat hlocks htab hRf hRl (Nat.le_refl _) (Nat.le_refl _)) F 0 (lv_args 0 as) [] h 0 0 (Nat.zero_le _) (Nat.zero_le _) hr
        rw [lg_entry_eq]
        have hlen : (lg_sl (as.map (sV ad b))).length ≤ mL (mt k) := by rw [lg_sl_len]; show ((as.map (sV ad b)).map fun v => v.category).sum ≤ _; rw [sCat_map]; exact hcat
        have hl := lv_entry (as.map (sV ad b)) (n := mL (mt k)) hlen
        rw [lv_args_map] at hl
        exact key ad s.heap [] _ hI hl (lv_args_ok 0 as hasok) (fun v hv => nomatch hv)
      cases hmT : mT (mt k) with
      | nil =>
        refine vx_ofW (cc := mB (mt k)) (maxL := mL (mt k)) (ret := mR (mt k)) hpn (by unfold sCd; rw [hmT]) ?_
        intro p e s m args below meth c s₁ B hml htb hv
        refine body p e s m args below meth c s₁ B hml ?_ hv
        rw [hmT]
        cases ht9 : c.exceptionTable.toList with
        | nil => rfl
        | cons x xs => exact (htb x (by rw [ht9]; exact List.mem_cons_self)).elim
      | cons t ts =>
        have hcode : sCd (mt k) = .codeWith (mY (mt k)) (mB (mt k)) (mL (mt k)) (mR (mt k)) (t :: ts) := by unfold sCd; rw [hmT]
        refine vx_ofWH (hh := t :: ts) (cc := mB (mt k)) (maxL := mL (mt k)) (ret := mR (mt k)) hpn (by rw [hcode]) ?_
        intro p e s m args below meth c s₁ B hml hv
        refine body p e s m args below meth c s₁ B hml ?_ hv
        rw [hmT]
        exact vx_table (x := mY (mt k)) B (atoms_spec (ws := sCd (mt k) :: gB G) B.pre _ (by rw [hcode]; exact List.mem_cons_self))
    · cases hr
