/-! contracts of the pure machine's methods, and calls -/
def sMov (w : Cond) : Bool := match w with
  | .castable _ _ => true
  | .declares _ => true
  | .methodLinkNest _ _ _ _ => true
  | _ => false
theorem sMov_warm {w : Cond} {s U : State} (hW : s.WarmedH U.vm) (hw : sMov w = true) (h : va_Nw w s) : va_Nw w U := by
  unfold sMov at hw
  split at hw
  · exact va_Nw.warmC hW h
  · exact va_Nw.warmD hW h
  · exact va_Nw.warmM hW h
  · cases hw
theorem sMov_same {w : Cond} {s U : State} (hv : s.vm = U.vm) (hw : sMov w = true) (h : va_Nw w s) : va_Nw w U := by
  unfold sMov at hw
  split at hw
  · exact va_tabs rfl hv h
  · exact va_tabs rfl hv h
  · exact va_tabs rfl hv h
  · cases hw
theorem va_AOA.moved {ty : FieldType} {u U : State} (hvm : u.vm.Alike U.vm) (h : va_AOA ty u) : va_AOA ty U := arrayOver_alikeB hvm h
/-- the words of the tables that any state bears on, those that warmth bears, the strings, the classes that are none of others' -/
abbrev sG : Type := List Cond × List Cond × List (String × Nat × String) × List (String × String)
def gB (G : sG) : List Cond := G.1
def gN (G : sG) : List Cond := G.2.1
def gS (G : sG) : List (String × Nat × String) := G.2.2.1
def gC (G : sG) : List (String × String) := G.2.2.2
def sEnv (G : sG) (U : State) : Prop := (∀ w ∈ gN G, va_Nw w U) ∧ (∀ q ∈ gS G, ∃ a, vk_R q.1 q.2.1 q.2.2 a U) ∧ (∀ q ∈ gC G, va_Nc q.1 q.2 U) ∧ (∀ t, t + 5 ∈ sTl → va_AO (sNm t) U) ∧ va_AOA .int U
def sGok (G : sG) : Prop := (∀ w ∈ gB G, goodWord w = true) ∧ (∀ w ∈ gN G, sMov w = true) ∧ ∀ ci, ci < 10 → ∀ w ∈ u_ws (sNm ci) (sT4 ci) (sNf ci), w ∈ gB G
theorem sEnv_warm {G : sG} {s U : State} (hG : sGok G) (hW : s.WarmedH U.vm) (h : sEnv G s) : sEnv G U :=
  ⟨fun w hw => sMov_warm hW (hG.2.1 w hw) (h.1 w hw), fun q hq => by obtain ⟨a, ha⟩ := h.2.1 q hq; exact ⟨a, ha.warm hW⟩, fun q hq => (h.2.2.1 q hq).moved hW.alike, fun t ht => (h.2.2.2.1 t ht).moved hW.alike, h.2.2.2.2.moved hW.alike⟩
theorem sEnv_same {G : sG} {s U : State} (hG : sGok G) (hv : U.vm = s.vm) (h : sEnv G s) : sEnv G U :=
  ⟨fun w hw => sMov_same hv.symm (hG.2.1 w hw) (h.1 w hw), fun q hq => by obtain ⟨a, ha⟩ := h.2.1 q hq; exact ⟨a, ha.same hv⟩, fun q hq => (h.2.2.1 q hq).moved (by rw [hv]; exact Vm.Alike.refl _), fun t ht => (h.2.2.2.1 t ht).moved (by rw [hv]; exact Vm.Alike.refl _), h.2.2.2.2.moved (by rw [hv]; exact Vm.Alike.refl _)⟩
def sRm (d : Nat) (M : sM) : Room := { frames := 10 + d, cells := mC M, slots := mS M, locals := 200 + 200 * d }
def sCd (M : sM) : Cond := match mT M with
  | [] => .code (mY M) (mB M) (mL M) (mR M)
  | q :: r => .codeWith (mY M) (mB M) (mL M) (mR M) (q :: r)
def sPost (D : va_G) (cA : Nat → ClassId) (b : Nat) (A : Nat → Prop) (n0 : Nat) (ad0 ad : Nat → Nat) (h : sH) (t : State) : Prop :=
  va_P D sCl (sW ad cA b h) t.heap ∧ va_D A (sW ad cA b h) ∧ sOkH h.length h ∧ n0 ≤ h.length ∧ ∀ k, k < n0 → ad k = ad0 k
def sQc (D : va_G) (cA : Nat → ClassId) (b : Nat) (A : Nat → Prop) (n0 : Nat) (ad0 : Nat → Nat) (r : sR) : Array Value → State → Outcome → State → Prop := fun _ st o t =>
  (∃ (v : Option Value) (h : sH) (ad : Nat → Nat), r = (.inl v, h) ∧ o = .returned (v.map (sV ad b)) ∧ (∀ w, v = some w → sOk h.length w) ∧ sPost D cA b A n0 ad0 ad h t) ∧ va_F A st t
def sXc (D : va_G) (cA : Nat → ClassId) (b : Nat) (A : Nat → Prop) (n0 : Nat) (ad0 : Nat → Nat) (r : sR) : String → State → State → Prop := fun E st t =>
  (∃ (k : Nat) (h : sH) (ad : Nat → Nat), r = (.inr k, h) ∧ E = sEx k ∧ sPost D cA b A n0 ad0 ad h t) ∧ va_F A st t
def sZq (A : Nat → Prop) (U : State) (H : Heap) : Prop := vx_Zq Bundle.tN "UNASSIGNED_STACK" Bundle.steD A U H ∧ vx_Zq Bundle.tN "SUPPRESSED_SENTINEL" Bundle.listD A U H
def sPc (G : sG) (D : va_G) (cA : Nat → ClassId) (b : Nat) (as : List Value) (h : sH) (ad : Nat → Nat) (sz : Nat) : Array Value → State → Prop :=
  va_Pc (as.map (sV ad b)) (fun U => U.heap.size = sz ∧ va_P D sCl (sW ad cA b h) U.heap ∧ va_K D sCl (sTys cA) U ∧ va_D (fun _ => True) (sW ad cA b h) ∧ sZq (va_A (sW ad cA b h) sz) U U.heap ∧ sEnv G U)
/-- the contract that a run of a method gives -/
def sCon (l : Launch) (G : sG) (D : va_G) (cA : Nat → ClassId) (b d : Nat) (M : sM) (as : List Value) (h : sH) (r : sR) : Prop :=
  (∀ v ∈ as, sOk h.length v) → sOkH h.length h → ∀ (ad : Nat → Nat) (sz : Nat), vx_Met l (mY M) (sCd M :: gB G) (sRm d M) (sPc G D cA b as h ad sz) (sQc D cA b (va_A (sW ad cA b h) sz) h.length ad r) (sXc D cA b (va_A (sW ad cA b h) sz) h.length ad r) (mC M) (mS M) (va_A (sW ad cA b h) sz)
theorem sPc_blind {G : sG} {D : va_G} {cA : Nat → ClassId} {b : Nat} {as : List Value} {h : sH} {ad : Nat → Nat} {sz : Nat} (hG : sGok G) : FrameBlind (sPc G D cA b as h ad sz) := by
  intro a U g mk hq
  obtain ⟨q0, q1, q2, q3, q4, q5, q6⟩ := hq
  exact ⟨q0, q1, q2, va_K.moved (u := U) (U := U.calling g mk a) (Vm.Alike.refl U.vm) q3, q4, ⟨vx_Zq.moved (u := U) (U := U.calling g mk a) (Vm.Alike.refl U.vm) q5.1, vx_Zq.moved (u := U) (U := U.calling g mk a) (Vm.Alike.refl U.vm) q5.2⟩, sEnv_same hG (U := U.calling g mk a) (s := U) rfl q6⟩
section SC
variable {p : Program} {l : Launch} {e : Env} {R : Room} {s : State} {m : MethodId} {args : Array Value} {below : List Frame} {meth : Method} {c : Code} {Q : State → Prop}
variable {cc : ByteArray} {pc nL a1 a2 cells slots n0 b d : Nat} {lv : sL} {st : List Value} {h0 : sH} {D : va_G} {cA : Nat → ClassId} {A : Nat → Prop} {ad0 ad : Nat → Nat} {own : String} {G : sG} {H : Heap} {locs : List Loc} {ls : Array Slot} {r : sR} {rest stk : List Value} {mc ms : Nat} {a : Array Value}
theorem sFree (hI : sInv D cA b A s.heap n0 ad0 ad h0 H locs) (hA : ∀ q, s.heap.size ≤ q → A q) : ∀ q, va_A (sW ad cA b h0) H.size q → A q := by
  intro q hq
  rcases hq with ⟨k, ee, hk⟩ | hq
  · exact hI.2.1.2 k _ hk
  · exact hA q (Nat.le_trans hI.2.2.1.1 hq)
theorem sCall_k (hrun : vx_Run p l e R s m args below meth c H locs cells slots mc ms (F0 m pc ls stk) rest (sQc D cA b (va_A (sW ad cA b h0) H.size) h0.length ad r a) (sXc D cA b (va_A (sW ad cA b h0) H.size) h0.length ad r) (va_A (sW ad cA b h0) H.size))
    (hI : sInv D cA b A s.heap n0 ad0 ad h0 H locs) (hA : ∀ q, s.heap.size ≤ q → A q)
    (kx : ∀ (k : Nat) (h1 : sH), r = (.inr k, h1) → ∀ (ad1 : Nat → Nat) (H1 : Heap) (locs1 : List Loc) (q : Addr) (ce : Cell), sInv D cA b A s.heap n0 ad0 ad1 h1 H1 locs1 → h0.length ≤ h1.length → (∀ k, k < h0.length → ad1 k = ad k) → H1[q]? = some ce → ce.vm = .none → s.vm.findClass (sEx k) = some ce.cls → vx_W p l e R s m args below meth c H1 locs1 (cells + mc) (slots + ms) Q (F0 m pc ls rest) q)
    (kr : ∀ (v : Option Value) (h1 : sH), r = (.inl v, h1) → (∀ w, v = some w → sOk h1.length w) → ∀ (ad1 : Nat → Nat) (H1 : Heap) (locs1 : List Loc), sInv D cA b A s.heap n0 ad0 ad1 h1 H1 locs1 → h0.length ≤ h1.length → (∀ k, k < h0.length → ad1 k = ad k) → W p l e R s m args below meth c H1 locs1 (cells + mc) (slots + ms) Q (F0 m (pc + 3) ls ((v.map (sV ad1 b)).toList ++ rest))) :
    W p l e R s m args below meth c H locs cells slots Q (F0 m pc ls stk) := by
  have hf := sFree hI hA
  intro T hT X
  rcases hrun T hT X with ⟨v, st₀, t, T', L, hh0, X', hL, e1, e2, ⟨⟨v1, h1, ad1, hr, ho, hok, hP1, hD1, hO1, hn1, hag1⟩, hF⟩, st⟩ | ⟨q, st₀, t, T', L, E, ce, hh0, X', hL, e1, e2, ⟨⟨kE, h1, ad1, hr, hEk, hP1, hD1, hO1, hn1, hag1⟩, hF⟩, hce, hcv, hcl, st⟩
  · cases ho
    obtain ⟨k1, k2, k3⟩ := vx_keep hh0 e1 hI.2.2.1 (fun q _ hq => hf q hq) hf hL hF
    have hI1 : sInv D cA b A s.heap n0 ad0 ad1 h1 T'.heap (locs ++ L) := ⟨by rw [e1]; exact hP1, hD1.weaken (fun _ q _ hq => hf _ hq), k3, hO1, Nat.le_trans hI.2.2.2.2.1 hn1, fun k hk => (hag1 k (Nat.lt_of_lt_of_le hk hI.2.2.2.2.1)).trans (hI.2.2.2.2.2 k hk)⟩
    obtain ⟨t2, x1, x2⟩ := kr v1 h1 hr hok ad1 T'.heap (locs ++ L) hI1 hn1 hag1 T' rfl X'
    exact ⟨t2, st t2 x1, x2⟩
  · obtain ⟨k1, k2, k3⟩ := vx_keep hh0 e1 hI.2.2.1 (fun q _ hq => hf q hq) hf hL hF
    have hI1 : sInv D cA b A s.heap n0 ad0 ad1 h1 T'.heap (locs ++ L) := ⟨by rw [e1]; exact hP1, hD1.weaken (fun _ q _ hq => hf _ hq), k3, hO1, Nat.le_trans hI.2.2.2.2.1 hn1, fun k hk => (hag1 k (Nat.lt_of_lt_of_le hk hI.2.2.2.2.1)).trans (hI.2.2.2.2.2 k hk)⟩
    subst hEk
    obtain ⟨t2, x1, x2⟩ := kx kE h1 hr ad1 T'.heap (locs ++ L) q ce hI1 hn1 hag1 (by rw [e1]; exact hce) hcv hcl T' rfl X'
    exact ⟨t2, st.trans x1, x2⟩
theorem sPc_at (hG : sGok G) (hI : sInv D cA b A s.heap n0 ad0 ad h0 H locs) (hA : ∀ q, s.heap.size ≤ q → A q) (hK : va_K D sCl (sTys cA) s) (hZ : sZq A s s.heap) (hE : sEnv G s) (as : List Value) : ∀ U : State, U.heap = H → s.WarmedH U.vm → sPc G D cA b as h0 ad H.size (as.map (sV ad b)).toArray U := by
  intro U hU hW
  have hf := sFree hI hA
  refine ⟨rfl, by rw [hU], by rw [hU]; exact hI.1, hK.moved hW.alike, hI.2.1.weaken (fun _ _ _ _ => True.intro), ?_, sEnv_warm hG hW hE⟩
  rw [hU]
  exact ⟨((hZ.1.moved hW.alike).kept hI.2.2.1.2.1).narrow hf, ((hZ.2.moved hW.alike).kept hI.2.2.1.2.1).narrow hf⟩
end SC
