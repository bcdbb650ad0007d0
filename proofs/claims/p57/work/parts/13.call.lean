def sMok (G : sG) (M : sM) : Bool :=
  plainName (mY M).cls && (decide ((mY M).cls ≠ "java/lang/invoke/MethodHandle") && (decide ((mY M).cls ≠ "java/lang/invoke/VarHandle") && (decide ((parseMethodDescriptor (mY M).desc).map (fun d => d.parameters.length) = some (mN M)) && (decide (sCd M ∈ gB G) && (decide (Cond.initialized (mY M).cls ∈ gB G) && decide (mL M ≤ 150))))))
theorem sMok_s {G : sG} {M : sM} (h : sMok G M = true) : plainName (mY M).cls = true ∧ ((mY M).cls ≠ "java/lang/invoke/MethodHandle" ∧ (mY M).cls ≠ "java/lang/invoke/VarHandle" ∧ (parseMethodDescriptor (mY M).desc).map (fun d => d.parameters.length) = some (mN M)) ∧ sCd M ∈ gB G ∧ Cond.initialized (mY M).cls ∈ gB G ∧ mL M ≤ 150 := by
  simp only [sMok, Bool.and_eq_true, decide_eq_true_eq] at h
  exact ⟨h.1, ⟨h.2.1, h.2.2.1, h.2.2.2.1⟩, h.2.2.2.2.1, h.2.2.2.2.2.1, h.2.2.2.2.2.2⟩
theorem sGood {G : sG} {ws : List Cond} (hG : sGok G) (h : ∀ w ∈ ws, w ∈ gB G) : GoodIn (gB G) ws := fun w hw => ⟨h w hw, good_of_word (hG.1 w (h w hw))⟩
theorem sArgs_len {n : Nat} {st : List Value} (h : n ≤ st.length) : (sArgs n st).length = n := by simp [sArgs, h]
theorem sArgs_rev {n : Nat} {st : List Value} (f : Value → Value) : st.map f = ((sArgs n st).map f).reverse ++ (st.drop n).map f := by
  rw [sArgs, List.map_reverse, List.reverse_reverse, ← List.map_append, List.take_append_drop]
theorem sCat_map {st : List Value} {ad : Nat → Nat} {b : Nat} : ((st.map (sV ad b)).map fun v => v.category).sum = sCat st := by
  unfold sCat
  rw [List.map_map]
  congr 1
  exact List.map_congr_left fun v _ => sV_cat ad b v
theorem sMap_v {v : Option Value} {rest : List Value} {f : Value → Value} : (v.toList ++ rest).map f = (v.map f).toList ++ rest.map f := by cases v <;> rfl
theorem sArgs_ok {n k : Nat} {st : List Value} (h : ∀ v ∈ st, sOk k v) : ∀ v ∈ sArgs n st, sOk k v := fun v hv => h v (List.mem_of_mem_take (List.mem_reverse.mp hv))
theorem sDrop_ok {n k : Nat} {st : List Value} (h : ∀ v ∈ st, sOk k v) : ∀ v ∈ st.drop n, sOk k v := fun v hv => h v (List.mem_of_mem_drop hv)
section SD
variable {p : Program} {l : Launch} {e : Env} {R : Room} {s : State} {m : MethodId} {args : Array Value} {below : List Frame} {meth : Method} {c : Code} {Q : State → Prop}
variable {cc : ByteArray} {pc nL a1 a2 cells slots n0 b d : Nat} {lv : sL} {st : List Value} {h0 : sH} {D : va_G} {cA : Nat → ClassId} {A : Nat → Prop} {ad0 : Nat → Nat} {own : String} {G : sG} {r : sR} {rest as : List Value} {mt : Nat → sM} {tbl : sT}
set_option maxHeartbeats 2000000 in
theorem sCall_ok {i : Instr} (hx : p.tables.exec = Jvm.exec) (hb : c.code = cc) (hml : c.maxLocals = nL) (hown : s.vm.findClass own = some m.cls) (hts : ∀ w ∈ gB G, w.before args s = true) (hG : sGok G) (hK : va_K D sCl (sTys cA) s) (hZ : sZq A s s.heap) (hE : sEnv G s) (hA : ∀ q, s.heap.size ≤ q → A q)
    (hmk : sMok G (mt a1) = true) (hd : decode cc pc = .ok (i, sLen i)) (hlt : a1 < 1000) (hw0 : sCw G mt own cc pc tbl i a1 a2 = true) (hi : sInv0 mt i a1 a2 st h0 = some (as, rest)) (hc : sCon l G D cA b d (mt a1) as h0 r)
    (hRf : 11 + d ≤ R.frames) (hRl : 400 + 200 * d ≤ R.locals) (hcm : cells + mC (mt a1) ≤ R.cells) (hsm : slots + mS (mt a1) ≤ R.slots) (hcat : sCat rest ≤ 8)
    (kr : ∀ (v : Option Value) (h1 : sH), r = (.inl v, h1) → sJ p l e R s m args below meth c Q nL D cA b A n0 ad0 (pc + 3) lv (v.toList ++ rest) h1 (cells + mC (mt a1)) (slots + mS (mt a1)))
    (kx : ∀ (k : Nat) (h1 : sH), r = (.inr k, h1) → ∀ (ad1 : Nat → Nat) (H1 : Heap) (locs1 : List Loc) (ls : Array Slot) (q : Addr) (ce : Cell), sInv D cA b A s.heap n0 ad0 ad1 h1 H1 locs1 → lv_has ls nL (sLc ad1 b lv) → (∀ q ∈ lv, sOk h1.length q.2) → H1[q]? = some ce → ce.vm = .none → s.vm.findClass (sEx k) = some ce.cls → vx_W p l e R s m args below meth c H1 locs1 (cells + mC (mt a1)) (slots + mS (mt a1)) Q (F0 m pc ls (rest.map (sV ad1 b))) q) :
    sJ p l e R s m args below meth c Q nL D cA b A n0 ad0 pc lv st h0 cells slots := by
  obtain ⟨hpn, hdsc, hcd, hini, hmL⟩ := sMok_s hmk
  intro ad H locs ls hI hl hw hs
  have hO := hI.2.2.2.1
  have hR1 : (sRm d (mt a1)).frames + 1 ≤ R.frames ∧ 8 + (mL (mt a1) + 11) + (sRm d (mt a1)).locals ≤ R.locals := ⟨by show 10 + d + 1 ≤ _; omega, by show 8 + (mL (mt a1) + 11) + (200 + 200 * d) ≤ _; omega⟩
  have hself : ∀ w ∈ sCd (mt a1) :: gB G, w ∈ gB G := fun w hw => (List.mem_cons.mp hw).elim (fun e => by rw [e]; exact hcd) id
  have hS : CallFix p m c cc nL s args (gB G) own := ⟨hx, hb, hml, hown, hts⟩
  have hls : ls.size = nL := hl.1
  -- what is behind the call
  have fin : ∀ (hrest : ∀ v ∈ rest, sOk h0.length v) (a : Array Value), vx_Run p l e R s m args below meth c H locs cells slots (mC (mt a1)) (mS (mt a1)) (F0 m pc ls (st.map (sV ad b))) (rest.map (sV ad b)) (sQc D cA b (va_A (sW ad cA b h0) H.size) h0.length ad r a) (sXc D cA b (va_A (sW ad cA b h0) H.size) h0.length ad r) (va_A (sW ad cA b h0) H.size) → W p l e R s m args below meth c H locs cells slots Q (F0 m pc ls (st.map (sV ad b))) := by
    intro hrest a hrun
    refine sCall_k hrun hI hA (fun k h1 hr ad1 H1 locs1 q ce hI1 hle hag h1q h2q h3q => ?_) (fun v h1 hr hok ad1 H1 locs1 hI1 hle hag => ?_)
    · rw [← sSt_ag hrest hag]
      exact kx k h1 hr ad1 H1 locs1 ls q ce hI1 (by rw [sLc_ag hw hag]; exact hl) (fun q hq => sOk_mono (hw q hq) hle) h1q h2q h3q
    · rw [← sSt_ag hrest hag, ← sMap_v]
      exact kr v h1 hr ad1 H1 locs1 ls hI1 (by rw [sLc_ag hw hag]; exact hl) (fun q hq => sOk_mono (hw q hq) hle) (fun w hq => by
        rcases List.mem_append.mp hq with h | h
        · exact hok w (by cases v with
            | none => cases h
            | some u => rw [List.mem_singleton.mp h])
        · exact sOk_mono (hrest w h) hle)
  have hroom : 2 * (F0 m pc ls (st.map (sV ad b))).monitorRoom + ((rest.map (sV ad b)).map fun v => v.category).sum ≤ 8 := lv_room (by rw [sCat_map]; exact hcat)
  cases i with
  | invokestatic ix =>
    unfold sInv0 at hi; dsimp only at hi
    split at hi
    · next hn =>
      cases hi
      simp only [sCw, if_neg (Nat.not_le.mpr hlt), Bool.and_eq_true, Bool.or_eq_true, decide_eq_true_eq] at hw0
      obtain ⟨hst, hlk⟩ := hw0
      have hM := hc (sArgs_ok hs) hO ad H.size
      have hp : PreS s H (sPc G D cA b (sArgs (mN (mt a1)) st) h0 ad H.size) ((sArgs (mN (mt a1)) st).map (sV ad b)) := ⟨sPc_blind hG, sPc_at hG hI hA hK hZ hE _⟩
      refine fin (sDrop_ok hs) ((sArgs (mN (mt a1)) st).map (sV ad b)).toArray ?_
      cases hmT : mT (mt a1) with
      | nil =>
        have hcode : sCd (mt a1) = .code (mY (mt a1)) (mB (mt a1)) (mL (mt a1)) (mR (mt a1)) := by unfold sCd; rw [hmT]
        rcases hlk with hlk | ⟨hlk, -⟩
        · exact vx_runS hS hM (va_cwS (bytes := mB (mt a1)) (maxL := mL (mt a1)) (ret := mR (mt a1)) (mN (mt a1)) hts (sGood hG (fun w hw => by
            rcases List.mem_append.mp hw with h | h
            · simp only [List.mem_cons, List.not_mem_nil, or_false] at h
              rcases h with rfl | rfl | rfl
              · exact hlk
              · exact hst
              · exact hini
            · exact hself w h)) (by rw [hcode]) rfl rfl hdsc hR1) hp rfl (by rw [List.length_map, sArgs_len hn]) hls (sArgs_rev _) hroom hd ⟨hcm, hsm⟩
        · exact vx_runSN (host := RX8) hS hM ⟨va_cnB (bytes := mB (mt a1)) (maxL := mL (mt a1)) (ret := mR (mt a1)) (mN (mt a1)) hts (sGood hG hself) (by rw [hcode]) rfl rfl (hE.1 _ hlk) (hts _ hini) hdsc hR1, hts _ hst, True.intro⟩ hp rfl (by rw [List.length_map, sArgs_len hn]) hls (sArgs_rev _) hroom hd ⟨hcm, hsm⟩
      | cons t ts =>
        have hcode : sCd (mt a1) = .codeWith (mY (mt a1)) (mB (mt a1)) (mL (mt a1)) (mR (mt a1)) (t :: ts) := by unfold sCd; rw [hmT]
        rcases hlk with hlk | ⟨-, hlk⟩
        · exact vx_runSX (hh := t :: ts) hS hM (vx_cwSW (bytes := mB (mt a1)) (maxL := mL (mt a1)) (ret := mR (mt a1)) (mN (mt a1)) hts (sGood hG (fun w hw => by
            rcases List.mem_append.mp hw with h | h
            · simp only [List.mem_cons, List.not_mem_nil, or_false] at h
              rcases h with rfl | rfl | rfl
              · exact hlk
              · exact hst
              · exact hini
            · exact hself w h)) (by rw [hcode]) rfl rfl hdsc hR1) hp rfl (by rw [List.length_map, sArgs_len hn]) hls (sArgs_rev _) hroom hd ⟨hcm, hsm⟩
        · rw [hmT] at hlk; cases hlk
    · cases hi
  | invokevirtual ix =>
    unfold sInv0 at hi; dsimp only at hi
    split at hi
    · next hn =>
      split at hi
      · next o rest0 hdr =>
        split at hi
        · next q hq =>
          split at hi
          · next hqc =>
            cases hi
            simp only [sCw, Bool.and_eq_true, decide_eq_true_eq] at hw0
            obtain ⟨-, hlk, hin, hsl, ha2, hnm, hmT⟩ := hw0
            subst hqc
            have hdo : ∀ v ∈ (Value.ref o :: rest), sOk h0.length v := by rw [← hdr]; exact sDrop_ok hs
            have hM := hc (sJ_cons (hdo _ List.mem_cons_self) (sArgs_ok hs)) hO ad H.size
            have hcode : sCd (mt a1) = .code (mY (mt a1)) (mB (mt a1)) (mL (mt a1)) (mR (mt a1)) := by unfold sCd; rw [hmT]
            have hp : PreV s H (mY (mt a1)).cls (ad o) (sPc G D cA b (.ref o :: sArgs (mN (mt a1)) st) h0 ad H.size) ((sArgs (mN (mt a1)) st).map (sV ad b)) := ⟨sPc_blind hG, by rw [← hnm]; exact va_recv hK hI.1 (sCl_at _ ha2) (sW_get hq), sPc_at hG hI hA hK hZ hE (.ref o :: sArgs (mN (mt a1)) st)⟩
            refine fin (sJ_tail hdo) (Value.ref (ad o) :: (sArgs (mN (mt a1)) st).map (sV ad b)).toArray ?_
            exact vx_runV (b := ad o) (As := (sArgs (mN (mt a1)) st).map (sV ad b)) hS hM (cwV (bytes := mB (mt a1)) (maxL := mL (mt a1)) (ret := mR (mt a1)) (mN (mt a1)) hts (sGood hG (fun w hw => by
              rcases List.mem_append.mp hw with h | h
              · simp only [List.mem_cons, List.not_mem_nil, or_false] at h
                rcases h with rfl | rfl | rfl | rfl
                · exact hlk
                · exact hin
                · exact hsl
                · exact hini
              · exact hself w h)) (by rw [hcode]) rfl rfl ⟨rfl, hdsc⟩ hR1) hp rfl (by rw [List.length_map, sArgs_len hn]) hls (by
                have h9 := sArgs_rev (n := mN (mt a1)) (st := st) (sV ad b)
                rw [hdr] at h9
                exact h9) hroom hd ⟨hcm, hsm⟩
          · cases hi
        · cases hi
      · cases hi
    · cases hi
  | invokespecial ix =>
    unfold sInv0 at hi; dsimp only at hi
    split at hi
    · next hn =>
      split at hi
      · next o rest0 hdr =>
        cases hi
        simp only [sCw, if_neg (Nat.not_le.mpr hlt), Bool.and_eq_true, Bool.or_eq_true, decide_eq_true_eq] at hw0
        obtain ⟨hnm, hin, hrt, hmT, hlk⟩ := hw0
        have hdo : ∀ v ∈ (Value.ref o :: rest), sOk h0.length v := by rw [← hdr]; exact sDrop_ok hs
        have hM := hc (sJ_cons (hdo _ List.mem_cons_self) (sArgs_ok hs)) hO ad H.size
        have hcode : sCd (mt a1) = .code (mY (mt a1)) (mB (mt a1)) (mL (mt a1)) none := by unfold sCd; rw [hmT, hrt]
        have hp : PreS s H (sPc G D cA b (.ref o :: sArgs (mN (mt a1)) st) h0 ad H.size) (.ref (ad o) :: (sArgs (mN (mt a1)) st).map (sV ad b)) := ⟨sPc_blind hG, sPc_at hG hI hA hK hZ hE (.ref o :: sArgs (mN (mt a1)) st)⟩
        have h9 := sArgs_rev (n := mN (mt a1)) (st := st) (sV ad b)
        rw [hdr] at h9
        refine fin (sJ_tail hdo) (Value.ref (ad o) :: (sArgs (mN (mt a1)) st).map (sV ad b)).toArray ?_
        rcases hlk with hlk | hlk
        · exact vx_runI (b := ad o) (As := (sArgs (mN (mt a1)) st).map (sV ad b)) hS hM (cwI (bytes := mB (mt a1)) (maxL := mL (mt a1)) (mN (mt a1)) hts (sGood hG hself) (by rw [hcode]) rfl rfl (hts _ hini) (hts _ hlk) (hts _ hin) hnm hdsc hR1) hp rfl (by rw [List.length_map, sArgs_len hn]) hls h9 hroom hd ⟨hcm, hsm⟩
        · exact vx_runIN (host := RX8) (b := ad o) (As := (sArgs (mN (mt a1)) st).map (sV ad b)) hS hM ⟨va_cnB (bytes := mB (mt a1)) (maxL := mL (mt a1)) (ret := none) (mN (mt a1)) hts (sGood hG hself) (by rw [hcode]) rfl rfl (hE.1 _ hlk) (hts _ hini) hdsc hR1, hnm, hts _ hin⟩ hp rfl (by rw [List.length_map, sArgs_len hn]) hls h9 hroom hd ⟨hcm, hsm⟩
      · cases hi
    · cases hi
  | _ => cases hi
end SD
