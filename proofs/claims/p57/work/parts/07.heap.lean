/-! the heap of the pure machine, in the machine -/
def sT4 (ci : Nat) : u_T := match ci with
  | 0 => TX0
  | 1 => TX1
  | 2 => TX2
  | 3 => TX3
  | 4 => TX4
  | 5 => TX5
  | 6 => TX6
  | 7 => TX7
  | 8 => TX8
  | _ => TX9
theorem lt10 {P : Nat → Prop} (h0 : P 0) (h1 : P 1) (h2 : P 2) (h3 : P 3) (h4 : P 4) (h5 : P 5) (h6 : P 6) (h7 : P 7) (h8 : P 8) (h9 : P 9) : ∀ k, k < 10 → P k := by
  intro k hk
  match k, hk with
  | 0, _ => exact h0
  | 1, _ => exact h1
  | 2, _ => exact h2
  | 3, _ => exact h3
  | 4, _ => exact h4
  | 5, _ => exact h5
  | 6, _ => exact h6
  | 7, _ => exact h7
  | 8, _ => exact h8
  | 9, _ => exact h9
theorem sCl_at : ∀ ci, ci < 10 → sCl[ci]? = some (sNm ci, sT4 ci, sNf ci) := lt10 rfl rfl rfl rfl rfl rfl rfl rfl rfl rfl
theorem sFt_ok : ∀ ci, ci < 10 → ∀ k, k < sNf ci → parseFieldDescriptor (sT4 ci k).2.2.1 = some (sFt ci k) := lt10 tyX0_ok tyX1_ok tyX2_ok tyX3_ok tyX4_ok tyX5_ok tyX6_ok tyX7_ok tyX8_ok tyX9_ok
theorem sNm_ok : ∀ ci, ci < 10 → ∀ a, a < sNf ci → ∀ b, b < sNf ci → a ≠ b → (sT4 ci a).2.1 ≠ (sT4 ci b).2.1 := lt10 nmX0 nmX1 nmX2 nmX3 nmX4 nmX5 nmX6 nmX7 nmX8 nmX9
/-- the kinds of arrays that are made here -/
def sTl : List Nat := [0, 1, 2, 3, 4, 5, 6, 7, 8, 10, 11]
def sTys (cA : Nat → ClassId) : List (ClassId × FieldType) := sTl.map (fun t => (cA t, sTy t))
theorem sTys_at {cA : Nat → ClassId} {t : Nat} (h : t ∈ sTl) : ∃ t0 : Nat, (sTys cA)[t0]? = some (cA t, sTy t) := List.getElem?_of_mem (List.mem_map.mpr ⟨t, h, rfl⟩)
def rAd (ad : Nat → Nat) (v : Value) : Option Nat := match v with
  | .ref k => some (ad k)
  | _ => none
theorem rAd_rf (ad : Nat → Nat) (b : Nat) (v : Value) : va_rf (rAd ad v) = sV ad b (rOf v) := by cases v <;> rfl
def sCt (ad : Nat → Nat) (t : Nat) (l : List Value) : vp_A := match t with
  | 0 => (l.length, .inl (fun j => iOf (l.getD j .null)))
  | 1 => (l.length, .inl (fun j => iOf (l.getD j .null)))
  | 2 => (l.length, .inr (.inl (fun j => lOf (l.getD j .null))))
  | 3 => (l.length, .inr (.inr (.inr (.inl (fun j => dOf (l.getD j .null))))))
  | _ + 4 => (l.length, .inr (.inr (.inr (.inr (fun j => rAd ad (l.getD j .null))))))
theorem sCt_len (ad : Nat → Nat) (t : Nat) (l : List Value) : (sCt ad t l).1 = l.length := by
  unfold sCt; split <;> rfl
def sCell (ad : Nat → Nat) (cA : Nat → ClassId) (b : Nat) (c : sC) : va_E := match c with
  | .inl q => .inl (cA q.1, sCt ad q.1 q.2)
  | .inr q => .inr (q.1, q.2.map (sV ad b))
def sW (ad : Nat → Nat) (cA : Nat → ClassId) (b : Nat) (h : sH) : va_W := h.mapIdx (fun k c => (ad k, sCell ad cA b c))
def sVs (c : sC) : List Value := match c with
  | .inl q => q.2
  | .inr q => q.2
def sOkC (n : Nat) (c : sC) : Prop := ∀ v ∈ sVs c, sOk n v
def sOkH (n : Nat) (h : sH) : Prop := ∀ c ∈ h, sOkC n c
theorem sOk_mono {n n' : Nat} {v : Value} (h : sOk n v) (hn : n ≤ n') : sOk n' v := by
  cases v <;> first | exact Nat.lt_of_lt_of_le h hn | trivial
theorem sOkC_mono {n n' : Nat} {c : sC} (h : sOkC n c) (hn : n ≤ n') : sOkC n' c := fun v hv => sOk_mono (h v hv) hn
theorem sV_ag {ad ad' : Nat → Nat} {b n : Nat} {v : Value} (h : sOk n v) (ha : ∀ k, k < n → ad' k = ad k) : sV ad' b v = sV ad b v := by
  cases v <;> first | rfl | (show Value.ref _ = Value.ref _; rw [ha _ h])
theorem rAd_ag {ad ad' : Nat → Nat} {n : Nat} {v : Value} (h : sOk n v) (ha : ∀ k, k < n → ad' k = ad k) : rAd ad' v = rAd ad v := by
  cases v <;> first | rfl | (show some _ = some _; rw [ha _ h])
theorem getD_ok {n : Nat} {l : List Value} (h : ∀ v ∈ l, sOk n v) (j : Nat) : sOk n (l.getD j .null) := by
  rw [List.getD_eq_getElem?_getD]
  cases hj : l[j]? with
  | none => trivial
  | some v => exact h v (List.mem_of_getElem? hj)
theorem sCell_ag {ad ad' : Nat → Nat} {cA : Nat → ClassId} {b n : Nat} {c : sC} (h : sOkC n c) (ha : ∀ k, k < n → ad' k = ad k) : sCell ad' cA b c = sCell ad cA b c := by
  cases c with
  | inl q =>
    show Sum.inl _ = Sum.inl _
    congr 2
    obtain ⟨t, l⟩ := q
    show sCt ad' t l = sCt ad t l
    unfold sCt
    split <;> first
      | rfl
      | (have : (fun j => rAd ad' (l.getD j .null)) = (fun j => rAd ad (l.getD j .null)) := funext fun j => rAd_ag (getD_ok h j) ha
         rw [this])
  | inr q =>
    show Sum.inr _ = Sum.inr _
    congr 2
    exact List.map_congr_left fun v hv => sV_ag (h v hv) ha
theorem sW_get {ad : Nat → Nat} {cA : Nat → ClassId} {b k : Nat} {h : sH} {c : sC} (hk : h[k]? = some c) : (sW ad cA b h)[k]? = some (ad k, sCell ad cA b c) := by
  simp [sW, List.getElem?_mapIdx, hk]
theorem sW_set {ad : Nat → Nat} {cA : Nat → ClassId} {b k : Nat} {h : sH} {c : sC} : (sW ad cA b h).set k (ad k, sCell ad cA b c) = sW ad cA b (h.set k c) := by
  apply List.ext_getElem?
  intro j
  by_cases hj : k = j
  · subst hj
    by_cases hl : k < h.length
    · rw [List.getElem?_set_self (by simp [sW]; exact hl)]
      exact (sW_get (List.getElem?_set_self hl)).symm
    · rw [List.getElem?_eq_none (by simp [sW]; omega), List.getElem?_eq_none (by simp [sW]; omega)]
  · rw [List.getElem?_set_ne hj]
    simp [sW, List.getElem?_mapIdx, List.getElem?_set_ne hj]
theorem sW_push {ad ad' : Nat → Nat} {cA : Nat → ClassId} {b : Nat} {h : sH} {c : sC} (hw : sOkH h.length h) (ha : ∀ k, k < h.length → ad' k = ad k) : sW ad' cA b (h ++ [c]) = sW ad cA b h ++ [(ad' h.length, sCell ad' cA b c)] := by
  apply List.ext_getElem?
  intro j
  by_cases hj : j < h.length
  · rw [List.getElem?_append_left (by simp [sW]; exact hj)]
    simp only [sW, List.getElem?_mapIdx, List.getElem?_append_left hj]
    rw [List.getElem?_eq_getElem hj]
    simp only [Option.map_some]
    rw [ha j hj, sCell_ag (hw _ (List.getElem_mem hj)) ha]
  · by_cases hj2 : j = h.length
    · subst hj2
      rw [List.getElem?_append_right (by simp [sW])]
      simp [sW, List.getElem?_mapIdx]
    · rw [List.getElem?_eq_none (by simp [sW]; omega), List.getElem?_eq_none (by simp [sW]; omega)]
/-- what holds between the pure heap and the machine's -/
def sInv (D : va_G) (cA : Nat → ClassId) (b : Nat) (A : Nat → Prop) (H0 : Heap) (n0 : Nat) (ad0 ad : Nat → Nat) (h : sH) (H : Heap) (locs : List Loc) : Prop :=
  va_P D sCl (sW ad cA b h) H ∧ va_D A (sW ad cA b h) ∧ va_S A H0 H locs ∧ sOkH h.length h ∧ n0 ≤ h.length ∧ ∀ k, k < n0 → ad k = ad0 k
/-- from here on, in this frame -/
def sJ (p : Program) (l : Launch) (e : Env) (R : Room) (s : State) (m : MethodId) (args : Array Value) (below : List Frame) (meth : Method) (c : Code) (Q : State → Prop) (nL : Nat) (D : va_G) (cA : Nat → ClassId) (b : Nat) (A : Nat → Prop) (n0 : Nat) (ad0 : Nat → Nat) (pc : Nat) (lv : sL) (st : List Value) (h : sH) (cells slots : Nat) : Prop :=
  ∀ (ad : Nat → Nat) (H : Heap) (locs : List Loc) (ls : Array Slot), sInv D cA b A s.heap n0 ad0 ad h H locs → lv_has ls nL (sLc ad b lv) → (∀ q ∈ lv, sOk h.length q.2) → (∀ v ∈ st, sOk h.length v) → W p l e R s m args below meth c H locs cells slots Q (F0 m pc ls (st.map (sV ad b)))
/-- the script, where it is read -/
def sScr (A : Nat → Prop) (b : Nat) (xs : Option (List Int32)) (s : State) : Prop := ∀ ys, xs = some ys → va_X b ys.length (fun j => ys.getD j 0) s s.heap ∧ b < s.heap.size ∧ ¬ A b
theorem narrow_fit {ty : FieldType} {v : Value} {ad : Nat → Nat} {b : Nat} (h : sFit ty v = true) : narrow ty (sV ad b v) = sV ad b v ∧ fits ty (sV ad b v) = true := by
  cases ty <;> cases v <;> first
    | exact ⟨rfl, rfl⟩
    | (simp [sFit] at h; done)
    | (rename_i x
       simp only [sFit, Bool.or_eq_true, decide_eq_true_eq] at h
       rcases h with rfl | rfl
       · exact ⟨show narrow .boolean (.int 0) = .int 0 by decide +kernel, show fits .boolean (.int 0) = true by decide +kernel⟩
       · exact ⟨show narrow .boolean (.int 1) = .int 1 by decide +kernel, show fits .boolean (.int 1) = true by decide +kernel⟩)
theorem sOkH_set {n k : Nat} {h : sH} {c : sC} (hw : sOkH n h) (hc : sOkC n c) : sOkH n (h.set k c) := fun d hd => (List.mem_or_eq_of_mem_set hd).elim (hw d) (fun e => by rw [e]; exact hc)
