/-! instructions that make cells -/
def sNew (ci : Nat) : List Value := (List.range (sNf ci)).map (fun j => defaultValue (sFt ci j))
def sAt (t : ArrayType) : Nat := match t with
  | .int => 0
  | .boolean => 1
  | .long => 2
  | .double => 3
  | _ => 99
def sDv (t : Nat) : Value := match t with
  | 0 => .int 0
  | 1 => .int 0
  | 2 => .long 0
  | 3 => .double 0
  | _ => .null
abbrev sPa : Type := Option (Nat × sL × List Value × sH × Nat × Nat)
def sAl (mc ms : Nat) (i : Instr) (a1 pc : Nat) (l : sL) (st : List Value) (h : sH) (cells slots : Nat) : sPa := match i with
  | .new _ => if a1 < 10 ∧ cells + 1 ≤ mc ∧ slots + sNf a1 ≤ ms then some (pc + 3, l, .ref h.length :: st, h ++ [.inr (a1, sNew a1)], cells + 1, slots + sNf a1) else none
  | .newarray t => match st with
    | .int n :: r => if ¬ n < 0 ∧ n.toNatClampNeg ≤ 1000 ∧ sAt t < 4 ∧ cells + 1 ≤ mc ∧ slots + n.toNatClampNeg ≤ ms then some (pc + 2, l, .ref h.length :: r, h ++ [.inl (sAt t, List.replicate n.toNatClampNeg (sDv (sAt t)))], cells + 1, slots + n.toNatClampNeg) else none
    | _ => none
  | .anewarray _ => match st with
    | .int n :: r => if ¬ n < 0 ∧ n.toNatClampNeg ≤ 1000 ∧ a1 + 5 ∈ sTl ∧ cells + 1 ≤ mc ∧ slots + n.toNatClampNeg ≤ ms then some (pc + 3, l, .ref h.length :: r, h ++ [.inl (a1 + 5, List.replicate n.toNatClampNeg .null)], cells + 1, slots + n.toNatClampNeg) else none
    | _ => none
  | .multianewarray _ dm => if dm = 2 then match st with
    | .int k :: .int n :: r => if (¬ n < 0 ∧ ¬ k < 0) ∧ (n.toNatClampNeg ≤ 1000 ∧ k.toNatClampNeg ≤ 1000) ∧ cells + (1 + n.toNatClampNeg) ≤ mc ∧ slots + (n.toNatClampNeg + n.toNatClampNeg * k.toNatClampNeg) ≤ ms then
        some (pc + 4, l, .ref h.length :: r, (h ++ [.inl (4, (List.range n.toNatClampNeg).map (fun j => .ref (h.length + 1 + j)))]) ++ List.replicate n.toNatClampNeg (.inl (0, List.replicate k.toNatClampNeg (.int 0))), cells + 1 + n.toNatClampNeg, slots + n.toNatClampNeg + n.toNatClampNeg * k.toNatClampNeg) else none
    | _ => none
    else none
  | _ => none
def sAw (ws : List Cond) (own : String) (i : Instr) (a1 : Nat) : Bool := match i with
  | .new ix => decide (Cond.classLink own ix (sNm a1) ∈ ws) && (decide (Cond.instantiable (sNm a1) (sNf a1) ∈ ws) && decide (Cond.initialized (sNm a1) ∈ ws))
  | .newarray t => decide (Cond.arrayClass (newarray.typeOf t) ∈ ws)
  | .anewarray ix => decide (Cond.classLink own ix (sNm a1) ∈ ws)
  | .multianewarray ix _ => decide (Cond.classLink own ix ("[" ++ (FieldType.array .int).toString) ∈ ws) && decide (Cond.arrayClass .int ∈ ws)
  | _ => true
theorem sRA_inj {U : State} {x y : ClassId} {ty : FieldType} (h1 : va_RA U x ty) (h2 : va_RA U y ty) : x = y := by
  cases ty with
  | object C =>
    obtain ⟨-, -, -, -, -, g1⟩ := h1
    obtain ⟨-, -, -, -, -, g2⟩ := h2
    exact Option.some.inj (g1.symm.trans g2)
  | _ => exact Option.some.inj (Eq.trans (Eq.symm h1) h2)
theorem sV_df (ad : Nat → Nat) (b : Nat) (ty : FieldType) : sV ad b (defaultValue ty) = defaultValue ty := by cases ty <;> rfl
theorem sNew_map (ad : Nat → Nat) (b ci : Nat) : (sNew ci).map (sV ad b) = sNew ci := by
  unfold sNew
  rw [List.map_map]
  exact List.map_congr_left fun j _ => sV_df ad b _
theorem sNew_at {ci j : Nat} (hj : j < sNf ci) : defaultValue (sFt ci j) = vp_V (sNew ci) j := by
  unfold vp_V sNew
  rw [List.getD_eq_getElem?_getD, List.getElem?_map, List.getElem?_range hj]
  rfl
theorem sOk_df (n : Nat) (ty : FieldType) : sOk n (defaultValue ty) := by cases ty <;> exact True.intro
theorem sNew_ok (n ci : Nat) : sOkC n (.inr (ci, sNew ci)) := fun v hv => by
  obtain ⟨j, -, rfl⟩ := List.mem_map.mp hv
  exact sOk_df n _
theorem sDv_ok (n t : Nat) : sOk n (sDv t) := by unfold sDv; split <;> exact True.intro
theorem sRep_ok {n k : Nat} {v : Value} (h : sOk n v) : ∀ w ∈ List.replicate k v, sOk n w := fun w hw => by rw [(List.mem_replicate.mp hw).2]; exact h
theorem getD_rep (k j : Nat) (v d : Value) : (List.replicate k v).getD j d = if j < k then v else d := by
  rw [List.getD_eq_getElem?_getD]
  by_cases h : j < k
  · rw [List.getElem?_replicate_of_lt h, if_pos h]; rfl
  · rw [List.getElem?_eq_none (by rw [List.length_replicate]; omega), if_neg h]; rfl
theorem sLc_ag {ad ad' : Nat → Nat} {b n : Nat} {lv : sL} (h : ∀ q ∈ lv, sOk n q.2) (ha : ∀ k, k < n → ad' k = ad k) : sLc ad' b lv = sLc ad b lv := List.map_congr_left fun q hq => by rw [sV_ag (h q hq) ha]
theorem sSt_ag {ad ad' : Nat → Nat} {b n : Nat} {st : List Value} (h : ∀ v ∈ st, sOk n v) (ha : ∀ k, k < n → ad' k = ad k) : st.map (sV ad' b) = st.map (sV ad b) := List.map_congr_left fun v hv => sV_ag (h v hv) ha
theorem sW_ag {ad ad' : Nat → Nat} {cA : Nat → ClassId} {b : Nat} {h : sH} (hw : sOkH h.length h) (ha : ∀ k, k < h.length → ad' k = ad k) : sW ad' cA b h = sW ad cA b h := by
  apply List.ext_getElem?
  intro j
  cases hj : h[j]? with
  | none => simp [sW, List.getElem?_mapIdx, hj]
  | some c => rw [sW_get hj, sW_get hj, ha j (List.getElem?_eq_some_iff.mp hj).1, sCell_ag (hw _ (List.mem_of_getElem? hj)) ha]
theorem arrV_ext {x : ClassId} {f g : Nat → Value} {N : Nat} (h : ∀ j, j < N → f j = g j) : arrV x N f = arrV x N g := by
  unfold arrV
  congr 1
  apply Array.ext_getElem?
  intro j
  by_cases hj : j < N
  · simp [hj, h j hj]
  · simp [hj]
theorem sInner (x : ClassId) (K : Nat) (ad : Nat → Nat) : Jvm.Free.Multi.innerC x K (defaultValue .int) = vp_cell x (sCt ad 0 (List.replicate K (.int 0))) := by
  show ({ cls := x, slots := Array.replicate K (.int 0), vm := .none } : Cell) = arrV x (List.replicate _ _).length (fun j => .int (iOf ((List.replicate _ _).getD j .null)))
  rw [arrV_new, List.length_replicate]
  exact arrV_ext (fun j hj => by rw [getD_rep, if_pos hj]; rfl)
theorem sW_app {ad ad' : Nat → Nat} {cA : Nat → ClassId} {b : Nat} {h d : sH} (hw : sOkH h.length h) (ha : ∀ k, k < h.length → ad' k = ad k) : sW ad' cA b (h ++ d) = sW ad cA b h ++ d.mapIdx (fun k c => (ad' (k + h.length), sCell ad' cA b c)) := by
  rw [← sW_ag hw ha]
  unfold sW
  rw [List.mapIdx_append]
section SA
variable {p : Program} {l : Launch} {e : Env} {R : Room} {s : State} {m : MethodId} {args : Array Value} {below : List Frame} {meth : Method} {c : Code} {Q : State → Prop}
variable {cc : ByteArray} {pc pc1 nL a1 a2 cells slots n0 b c1 s1 : Nat} {lv lv' : sL} {st st' : List Value} {h0 h1 : sH} {D : va_G} {cA : Nat → ClassId} {A : Nat → Prop} {ad0 : Nat → Nat} {own : String} {Ts : List Cond} {isI : Bool}
theorem sJ_push {d : sC} {ee : va_E} {ad : Nat → Nat} {H H1 : Heap} {locs locs1 : List Loc} {ls : Array Slot} {q : Nat} (k : sJ p l e R s m args below meth c Q nL D cA b A n0 ad0 pc1 lv (.ref h0.length :: st) (h0 ++ [d]) c1 s1) (hI : sInv D cA b A s.heap n0 ad0 ad h0 H locs)
    (hdk : sOkC (h0.length + 1) d) (hee : ∀ ad' : Nat → Nat, ee = sCell ad' cA b d) (hP : va_P D sCl (sW ad cA b h0 ++ [(q, ee)]) H1) (hD : va_D A (sW ad cA b h0 ++ [(q, ee)])) (hS : va_S A s.heap H1 locs1)
    (hl : lv_has ls nL (sLc ad b lv)) (hw : ∀ q ∈ lv, sOk h0.length q.2) (hs : ∀ v ∈ st, sOk h0.length v) : W p l e R s m args below meth c H1 locs1 c1 s1 Q (F0 m pc1 ls (.ref q :: st.map (sV ad b))) := by
  obtain ⟨-, -, -, hO, hn, hag⟩ := hI
  have ha : ∀ j, j < h0.length → va_up ad h0.length q j = ad j := fun j hj => va_up_ne _ _ (Nat.ne_of_lt hj)
  have e1 : sW (va_up ad h0.length q) cA b (h0 ++ [d]) = sW ad cA b h0 ++ [(q, ee)] := by
    rw [sW_push hO ha, va_up_self, hee (va_up ad h0.length q)]
  have hlen : (h0 ++ [d]).length = h0.length + 1 := by simp
  have k1 := k (va_up ad h0.length q) H1 locs1 ls ⟨by rw [e1]; exact hP, by rw [e1]; exact hD, hS, fun c hc => by
      rw [hlen]
      rcases List.mem_append.mp hc with h | h
      · exact sOkC_mono (hO c h) (Nat.le_succ _)
      · rw [List.mem_singleton.mp h]; exact hdk, by rw [hlen]; omega, fun j hj => (ha j (Nat.lt_of_lt_of_le hj hn)).trans (hag j hj)⟩
    (by rw [sLc_ag hw ha]; exact hl) (fun q hq => by rw [hlen]; exact sOk_mono (hw q hq) (Nat.le_succ _)) (fun v hv => by
      rw [hlen]
      rcases List.mem_cons.mp hv with h | h
      · rw [h]; exact Nat.lt_succ_self _
      · exact sOk_mono (hs v h) (Nat.le_succ _))
  have e2 : (Value.ref h0.length :: st).map (sV (va_up ad h0.length q) b) = .ref q :: st.map (sV ad b) := by
    rw [List.map_cons, sSt_ag hs ha]
    show Value.ref (va_up ad h0.length q h0.length) :: _ = _
    rw [va_up_self]
  rw [e2] at k1
  exact k1
set_option maxHeartbeats 4000000 in
theorem sAl_ok {i : Instr} {len mc ms : Nat} (hx : p.tables.exec = Jvm.exec) (hb : c.code = cc) (hown : s.vm.findClass own = some m.cls) (hts : ∀ w ∈ Ts, w.before args s = true) (hK : va_K D sCl (sTys cA) s)
    (hcls : ∀ ci, ci < 10 → ∀ w ∈ u_ws (sNm ci) (sT4 ci) (sNf ci), w ∈ Ts) (hA : ∀ q, s.heap.size ≤ q → A q) (hAO : ∀ t, t + 5 ∈ sTl → va_AO (sNm t) s) (hAA : va_AOA .int s)
    (hd : decode cc pc = .ok (i, len)) (hlen : len = sLen i) (hwd : sAw Ts own i a1 = true) (hmc : mc ≤ R.cells) (hms : ms ≤ R.slots) (h : sAl mc ms i a1 pc lv st h0 cells slots = some (pc1, lv', st', h1, c1, s1))
    (k : sJ p l e R s m args below meth c Q nL D cA b A n0 ad0 pc1 lv' st' h1 c1 s1) : sJ p l e R s m args below meth c Q nL D cA b A n0 ad0 pc lv st h0 cells slots := by
  subst hlen
  cases i with
  | new ix =>
    unfold sAl at h; dsimp only at h
    split at h
    · next e1 =>
      cases h
      intro ad H locs ls hI hl hw hs
      obtain ⟨hP, hD, hS, hO, hn, hag⟩ := id hI
      simp only [sAw, Bool.and_eq_true, decide_eq_true_eq] at hwd
      obtain ⟨g1, g2, g3⟩ := hwd
      exact va_new (D := D) (ci := a1) (fs := sNew a1) (C := sNm a1) (T := sT4 a1) (N := sNf a1) hx hb hts (hcls _ e1.1) (sFt a1) (sFt_ok _ e1.1) hown (hts _ g1) (hts _ g2) (hts _ g3) hK hP hD hS hA (sCl_at _ e1.1) (fun j hj => sNew_at hj) (Nat.le_trans e1.2.1 hmc) (Nat.le_trans e1.2.2 hms) hd
        (fun q H1 hP1 hD1 hS1 => sJ_push k hI (sNew_ok _ _) (fun ad' => by show _ = Sum.inr (a1, (sNew a1).map (sV ad' b)); rw [sNew_map]) hP1 hD1 hS1 hl hw hs)
    · cases h
  | newarray t =>
    unfold sAl at h; dsimp only at h
    split at h
    · next n r =>
      split at h
      · next e1 =>
        cases h
        obtain ⟨e1, e2, e3, e4, e5⟩ := e1
        intro ad H locs ls hI hl hw hs
        obtain ⟨hP, hD, hS, hO, hn, hag⟩ := id hI
        simp only [sAw, decide_eq_true_eq] at hwd
        have hty : newarray.typeOf t = sTy (sAt t) := by
          cases t <;> first | rfl | exact absurd e3 (by decide)
        have hmem : sAt t ∈ sTl := by
          revert e3
          generalize sAt t = z
          intro e3
          match z, e3 with
          | 0, _ => decide
          | 1, _ => decide
          | 2, _ => decide
          | 3, _ => decide
        have hcb : n.toNatClampNeg * componentBytes (sTy (sAt t)) ≤ 536870912 := by
          have : componentBytes (sTy (sAt t)) ≤ 8 := by
            revert e3
            generalize sAt t = z
            intro e3
            match z, e3 with
            | 0, _ => decide
            | 1, _ => decide
            | 2, _ => decide
            | 3, _ => decide
          exact Nat.le_trans (Nat.mul_le_mul e2 this) (by decide)
        have hcell : ∀ x : ClassId, vp_cell x (sCt ad (sAt t) (List.replicate n.toNatClampNeg (sDv (sAt t)))) = arrV x n.toNatClampNeg (fun _ => defaultValue (sTy (sAt t))) := by
          intro x
          have harr : ∀ (f g : Nat → Value) (N : Nat), (∀ j, j < N → f j = g j) → arrV x N f = arrV x N g := fun f g N hfg => by
            unfold arrV
            congr 1
            apply Array.ext_getElem?
            intro j
            by_cases hj : j < N
            · simp [hj, hfg j hj]
            · simp [hj]
          revert e3
          generalize sAt t = z
          intro e3
          match z, e3 with
          | 0, _ =>
            show arrV x (List.replicate _ _).length (fun j => .int (iOf ((List.replicate _ _).getD j .null))) = _
            rw [List.length_replicate]
            exact harr _ _ _ (fun j hj => by rw [getD_rep, if_pos hj]; rfl)
          | 1, _ =>
            show arrV x (List.replicate _ _).length (fun j => .int (iOf ((List.replicate _ _).getD j .null))) = _
            rw [List.length_replicate]
            exact harr _ _ _ (fun j hj => by rw [getD_rep, if_pos hj]; rfl)
          | 2, _ =>
            show arrV x (List.replicate _ _).length (fun j => .long (lOf ((List.replicate _ _).getD j .null))) = _
            rw [List.length_replicate]
            exact harr _ _ _ (fun j hj => by rw [getD_rep, if_pos hj]; rfl)
          | 3, _ =>
            show arrV x (List.replicate _ _).length (fun j => .double (dOf ((List.replicate _ _).getD j .null))) = _
            rw [List.length_replicate]
            exact harr _ _ _ (fun j hj => by rw [getD_rep, if_pos hj]; rfl)
        obtain ⟨t0, ht0⟩ := sTys_at (cA := cA) hmem
        refine va_newa (D := D) (ty := sTy (sAt t)) (N' := n.toNatClampNeg) (a0 := sCt ad (sAt t) (List.replicate n.toNatClampNeg (sDv (sAt t)))) hx hb (hts _ hwd) hty hK hP hD hS hA hcell e1 rfl hcb (Nat.le_trans e4 hmc) (Nat.le_trans e5 hms) hd (fun q cx H1 hK1 hP1 hD1 hS1 => ?_)
        have hcx : cx = cA (sAt t) := sRA_inj (hK1.2 (sTys cA).length (cx, sTy (sAt t)) (by rw [List.getElem?_append_right (Nat.le_refl _), Nat.sub_self]; rfl)).2 (hK.2 t0 _ ht0).2
        subst hcx
        refine sJ_push k hI (d := .inl (sAt t, List.replicate n.toNatClampNeg (sDv (sAt t)))) (sRep_ok (sDv_ok _ _)) (fun ad' => ?_) hP1 hD1 hS1 hl hw (sJ_tail hs)
        show Sum.inl (cA (sAt t), _) = Sum.inl (cA (sAt t), _)
        congr 2
        revert e3
        generalize sAt t = z
        intro e3
        match z, e3 with
        | 0, _ => rfl
        | 1, _ => rfl
        | 2, _ => rfl
        | 3, _ => rfl
      · cases h
    · cases h
  | anewarray ix =>
    unfold sAl at h; dsimp only at h
    split at h
    · next n r =>
      split at h
      · next e1 =>
        cases h
        obtain ⟨e1, e2, e3, e4, e5⟩ := e1
        intro ad H locs ls hI hl hw hs
        obtain ⟨hP, hD, hS, hO, hn, hag⟩ := id hI
        simp only [sAw, decide_eq_true_eq] at hwd
        obtain ⟨t0, ht0⟩ := sTys_at (cA := cA) e3
        refine va_newq (D := D) (C := sNm a1) (N' := n.toNatClampNeg) hx hb hown (hts _ hwd) (hAO a1 e3) hK hP hD hS hA e1 rfl (Nat.le_trans (Nat.mul_le_mul e2 (Nat.le_refl 4)) (by decide)) (Nat.le_trans e4 hmc) (Nat.le_trans e5 hms) hd (fun q cx H1 hK1 hP1 hD1 hS1 => ?_)
        have hcx : cx = cA (a1 + 5) := sRA_inj (ty := .object (sNm a1)) (hK1.2 (sTys cA).length (cx, .object (sNm a1)) (by rw [List.getElem?_append_right (Nat.le_refl _), Nat.sub_self]; rfl)).2 (hK.2 t0 _ ht0).2
        subst hcx
        refine sJ_push k hI (d := .inl (a1 + 5, List.replicate n.toNatClampNeg .null)) (sRep_ok (by exact True.intro)) (fun ad' => ?_) hP1 hD1 hS1 hl hw (sJ_tail hs)
        show Sum.inl (cA (a1 + 5), (n.toNatClampNeg, _)) = Sum.inl (cA (a1 + 5), ((List.replicate n.toNatClampNeg Value.null).length, _))
        rw [List.length_replicate]
        congr 7
        funext j
        show none = rAd ad' ((List.replicate n.toNatClampNeg Value.null).getD j .null)
        rw [getD_rep]
        split <;> rfl
      · cases h
    · cases h
  | multianewarray ix dm =>
    unfold sAl at h; dsimp only at h
    split at h
    · next hdm =>
      subst hdm
      split at h
      · next k9 n r =>
        split at h
        · next e1 =>
          cases h
          obtain ⟨⟨e1, e2⟩, ⟨e3, e4⟩, e5, e6⟩ := e1
          intro ad H locs ls hI hl hw hs
          obtain ⟨hP, hD, hS, hO, hn, hag⟩ := id hI
          simp only [sAw, Bool.and_eq_true, decide_eq_true_eq] at hwd
          obtain ⟨g1, g2⟩ := hwd
          obtain ⟨t0, ht0⟩ := sTys_at (cA := cA) (t := 0) (by decide)
          obtain ⟨t4, ht4⟩ := sTys_at (cA := cA) (t := 4) (by decide)
          have hP' : va_P D sCl (sW ad cA b h0 ++ va_pl [] (fun _ => .inr (0, []))) H := by rw [show va_pl [] (fun _ => (.inr (0, []) : va_E)) = [] from rfl, List.append_nil]; exact hP
          have hD' : va_D A (sW ad cA b h0 ++ va_pl [] (fun _ => .inr (0, []))) := by rw [show va_pl [] (fun _ => (.inr (0, []) : va_E)) = [] from rfl, List.append_nil]; exact hD
          generalize hN : n.toNatClampNeg = N at *
          generalize hKk : k9.toNatClampNeg = K at *
          refine va_mna (D := D) (ty := .int) (cy := cA 0) (L := []) (z := sCt ad 0 (List.replicate K (.int 0))) hx hb hown (hts _ g1) hAA (hts _ g2) (hK.2 t0 _ ht0).2 hK hP' hD' hS hA e1 e2 hN hKk (Nat.le_trans (Nat.mul_le_mul e3 (Nat.le_refl 4)) (by decide)) (Nat.le_trans (Nat.mul_le_mul e4 (Nat.le_refl 4)) (by decide)) (Nat.le_trans e4 (by decide)) (by decide +kernel) (by decide +kernel) (Nat.le_trans e5 hmc) (Nat.le_trans e6 hms) (fun x => sInner x K ad) hd (fun q rr cx H1 hrr hrL hK1 hP1 hD1 hS1 => ?_)
          have hcx : cx = cA 4 := sRA_inj (ty := .array .int) (hK1.2 (sTys cA).length (cx, .array .int) (by rw [List.getElem?_append_right (Nat.le_refl _), Nat.sub_self]; rfl)).2 (hK.2 t4 _ ht4).2
          subst hcx
          obtain ⟨ad', hadd⟩ : ∃ z : Nat → Nat, z = fun j => if j < h0.length then ad j else if j = h0.length then q else rr (j - h0.length - 1) := ⟨_, rfl⟩
          have ha : ∀ j, j < h0.length → ad' j = ad j := fun j hj => by rw [hadd]; exact if_pos hj
          have ha0 : ad' h0.length = q := by rw [hadd]; simp
          have ha1 : ∀ j, ad' (h0.length + 1 + j) = rr j := fun j => by
            rw [hadd]
            show (if h0.length + 1 + j < h0.length then _ else if h0.length + 1 + j = h0.length then q else rr (h0.length + 1 + j - h0.length - 1)) = _
            rw [if_neg (by omega), if_neg (by omega), show h0.length + 1 + j - h0.length - 1 = j by omega]
          have hout : (sCell ad' cA b (.inl (4, (List.range N).map (fun j => .ref (h0.length + 1 + j))))) = (.inl (cA 4, N, .inr (.inr (.inr (.inr (fun i => if i < N then some (rr i) else none))))) : va_E) := by
            show Sum.inl (cA 4, ((List.range N).map (fun j => Value.ref (h0.length + 1 + j))).length, _) = _
            rw [List.length_map, List.length_range]
            congr 7
            funext i
            show rAd ad' (((List.range N).map (fun j => Value.ref (h0.length + 1 + j))).getD i .null) = _
            rw [List.getD_eq_getElem?_getD, List.getElem?_map]
            by_cases hi : i < N
            · rw [List.getElem?_range hi, if_pos hi, ← ha1 i]; rfl
            · rw [List.getElem?_eq_none (by rw [List.length_range]; omega), if_neg hi]; rfl
          have e9 : sW ad' cA b ((h0 ++ [.inl (4, (List.range N).map (fun j => .ref (h0.length + 1 + j)))]) ++ List.replicate N (.inl (0, List.replicate K (.int 0)))) = (sW ad cA b h0 ++ [(q, .inl (cA 4, N, .inr (.inr (.inr (.inr (fun i => if i < N then some (rr i) else none))))))]) ++ va_pl ([] ++ (List.range N).map rr) (vr_up (fun _ => .inr (0, [])) ((List.range N).map rr) (.inl (cA 0, sCt ad 0 (List.replicate K (.int 0))))) := by
            rw [List.append_assoc, sW_app hO ha, List.append_assoc]
            congr 1
            rw [List.singleton_append, List.singleton_append, List.mapIdx_cons, Nat.zero_add, ha0, hout]
            congr 1
            apply List.ext_getElem?
            intro i
            unfold va_pl
            rw [List.nil_append, List.getElem?_map, List.getElem?_map, List.getElem?_mapIdx]
            by_cases hi : i < N
            · rw [List.getElem?_replicate_of_lt hi, List.getElem?_range hi]
              show some (ad' (i + 1 + h0.length), _) = some (rr i, _)
              rw [show i + 1 + h0.length = h0.length + 1 + i by omega, ha1 i, vr_up_in (List.mem_map.mpr ⟨i, List.mem_range.mpr hi, rfl⟩)]
              rfl
            · rw [List.getElem?_eq_none (by rw [List.length_replicate]; omega), List.getElem?_eq_none (by rw [List.length_range]; omega)]; rfl
          have hlen : ((h0 ++ [.inl (4, (List.range N).map (fun j => .ref (h0.length + 1 + j)))]) ++ List.replicate N (.inl (0, List.replicate K (.int 0))) : sH).length = h0.length + 1 + N := by simp; omega
          have k1 := k ad' H1 locs ls ⟨by rw [e9]; exact hP1, by rw [e9]; exact hD1, hS1, fun cc9 hc => by
              rw [hlen]
              rcases List.mem_append.mp hc with h | h
              · rcases List.mem_append.mp h with h | h
                · exact sOkC_mono (hO cc9 h) (by omega)
                · rw [List.mem_singleton.mp h]
                  intro v hv
                  obtain ⟨j, hj, rfl⟩ := List.mem_map.mp hv
                  have := List.mem_range.mp hj
                  show h0.length + 1 + j < h0.length + 1 + N
                  omega
              · rw [(List.mem_replicate.mp h).2]; exact sRep_ok (by exact True.intro), by rw [hlen]; omega, fun j hj => (ha j (Nat.lt_of_lt_of_le hj hn)).trans (hag j hj)⟩
            (by rw [sLc_ag hw ha]; exact hl) (fun q hq => by rw [hlen]; exact sOk_mono (hw q hq) (by omega)) (fun v hv => by
              rw [hlen]
              rcases List.mem_cons.mp hv with h | h
              · rw [h]; show h0.length < _; omega
              · exact sOk_mono (hs v (List.mem_cons_of_mem _ (List.mem_cons_of_mem _ h))) (by omega))
          have e2 : (Value.ref h0.length :: r).map (sV ad' b) = .ref q :: r.map (sV ad b) := by
            rw [List.map_cons, sSt_ag (sJ_tail (sJ_tail hs)) ha]
            show Value.ref (ad' h0.length) :: _ = _
            rw [ha0]
          rw [e2] at k1
          exact k1
        · cases h
      · cases h
    · cases h
  | _ => cases h
end SA
