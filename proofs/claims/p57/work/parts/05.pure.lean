/-! that sP does what the machine does -/
/-- a value of the pure machine, in the machine: references by the map of addresses; the script's place b -/
def sV (ad : Nat → Nat) (b : Nat) (v : Value) : Value := match v with
  | .ref k => .ref (ad k)
  | .retAddr _ => .ref b
  | w => w
def sLc (ad : Nat → Nat) (b : Nat) (l : sL) : List (Nat × Value) := l.map (fun q => (q.1, sV ad b q.2))
def sOk (n : Nat) (v : Value) : Prop := match v with
  | .ref k => k < n
  | _ => True
theorem sV_cat (ad : Nat → Nat) (b : Nat) (v : Value) : (sV ad b v).category = v.category := by cases v <;> rfl
theorem sLk_mem {i : Nat} {v : Value} : ∀ {l : sL}, sLk i l = some v → (i, v) ∈ l
  | [], h => by cases h
  | q :: l, h => by
    unfold sLk at h
    split at h
    · next e => cases h; rw [← e]; exact List.mem_cons_self
    · exact List.mem_cons_of_mem _ (sLk_mem h)
theorem sLc_at {ls : Array Slot} {nL i : Nat} {ad : Nat → Nat} {b : Nat} {l : sL} {v : Value} (hl : lv_has ls nL (sLc ad b l)) (h : sLk i l = some v) : ls[i]? = some (.val (sV ad b v)) :=
  hl.2.2 (i, sV ad b v) (List.mem_map.mpr ⟨(i, v), sLk_mem h, rfl⟩)
theorem sLc_f {ad : Nat → Nat} {b : Nat} (f : Nat → Nat → Bool) (l : sL) : (sLc ad b l).filter (fun q => f q.1 q.2.category) = sLc ad b (l.filter (fun q => f q.1 q.2.category)) := by
  unfold sLc
  rw [List.filter_map]
  congr 1
  apply List.filter_congr
  intro q _
  simp [Function.comp, sV_cat]
theorem sDr_c {ad : Nat → Nat} {b : Nat} (i : Nat) (l : sL) : (sLc ad b l).filter (fun q => !(q.1 == i) && !(q.1 + 1 == i && q.2.category == 2)) = sLc ad b (sDr i l) :=
  sLc_f (fun a c => !(a == i) && !(a + 1 == i && c == 2)) l
theorem sS2_c {ad : Nat → Nat} {b : Nat} (i : Nat) (v : Value) (l : sL) : (i, sV ad b v) :: (sLc ad b l).filter (fun q => !(q.1 == i) && (!(q.1 == i + 1) && !(q.1 + 1 == i && q.2.category == 2))) = sLc ad b (sS2 i v l) := by
  show _ = (i, sV ad b v) :: sLc ad b _
  rw [← sLc_f (fun a c => !(a == i) && (!(a == i + 1) && !(a + 1 == i && c == 2))) l]
theorem sS1_c {ad : Nat → Nat} {b : Nat} (i : Nat) (v : Value) (l : sL) : (i, sV ad b v) :: (sLc ad b l).filter (fun q => !(q.1 == i) && !(q.1 + 1 == i && q.2.category == 2)) = sLc ad b (sS1 i v l) := by
  rw [sDr_c]; rfl
theorem sOk_dr {n i : Nat} {l : sL} (h : ∀ q ∈ l, sOk n q.2) : ∀ q ∈ sDr i l, sOk n q.2 := fun q hq => h q (List.mem_filter.mp hq).1
theorem sOk_s1 {n i : Nat} {v : Value} {l : sL} (h : ∀ q ∈ l, sOk n q.2) (hv : sOk n v) : ∀ q ∈ sS1 i v l, sOk n q.2 := fun q hq => (List.mem_cons.mp hq).elim (fun e => by rw [e]; exact hv) (fun h1 => sOk_dr h q h1)
theorem sOk_s2 {n i : Nat} {v : Value} {l : sL} (h : ∀ q ∈ l, sOk n q.2) (hv : sOk n v) : ∀ q ∈ sS2 i v l, sOk n q.2 := fun q hq => (List.mem_cons.mp hq).elim (fun e => by rw [e]; exact hv) (fun h1 => h q (List.mem_filter.mp h1).1)
theorem sTg_of {pc t : Nat} {off : Int} (h : sTg pc off = some t) : (pc : Int) + off = (t : Int) := by
  unfold sTg at h
  split at h
  · next h0 => cases h; exact (Int.toNat_of_nonneg h0).symm
  · cases h
section SP
variable {p : Program} {l : Launch} {e : Env} {R : Room} {s : State} {m : MethodId} {args : Array Value} {below : List Frame} {meth : Method} {c : Code} {H : Heap} {locs : List Loc} {cells slots : Nat} {Q : State → Prop}
variable {cc : ByteArray} {pc len pc1 nL n i : Nat} {ls : Array Slot} {ad : Nat → Nat} {b : Nat} {lv lv' : sL} {st st' : List Value}
/-- what follows, for whatever locals -/
def sGo (p : Program) (l : Launch) (e : Env) (R : Room) (s : State) (m : MethodId) (args : Array Value) (below : List Frame) (meth : Method) (c : Code) (H : Heap) (locs : List Loc) (cells slots : Nat) (Q : State → Prop) (nL n : Nat) (ad : Nat → Nat) (b : Nat) (pc : Nat) (lv : sL) (st : List Value) : Prop :=
  ∀ ls : Array Slot, lv_has ls nL (sLc ad b lv) → (∀ q ∈ lv, sOk n q.2) → (∀ v ∈ st, sOk n v) → W p l e R s m args below meth c H locs cells slots Q (F0 m pc ls (st.map (sV ad b)))
theorem sGo_ld {v : Value} (hl : lv_has ls nL (sLc ad b lv)) (hw : ∀ q ∈ lv, sOk n q.2) (hs : ∀ v ∈ st, sOk n v) (hv : sLk i lv = some v)
    (row : ls[i]? = some (.val (sV ad b v)) → W p l e R s m args below meth c H locs cells slots Q (F0 m pc1 ls (sV ad b v :: st.map (sV ad b))) → W p l e R s m args below meth c H locs cells slots Q (F0 m pc ls (st.map (sV ad b))))
    (k : sGo p l e R s m args below meth c H locs cells slots Q nL n ad b pc1 lv (v :: st)) : W p l e R s m args below meth c H locs cells slots Q (F0 m pc ls (st.map (sV ad b))) :=
  row (sLc_at hl hv) (k ls hl hw (fun w h => (List.mem_cons.mp h).elim (fun e => by rw [e]; exact hw _ (sLk_mem hv)) (hs w)))
theorem sLdI_ok (hl : lv_has ls nL (sLc ad b lv)) (hw : ∀ q ∈ lv, sOk n q.2) (hs : ∀ v ∈ st, sOk n v) {pc2 : Nat} (h : sLdI pc2 i lv st = some (pc1, lv', st'))
    (row : ∀ x : Int32, ls[i]? = some (.val (.int x)) → W p l e R s m args below meth c H locs cells slots Q (F0 m pc2 ls (.int x :: st.map (sV ad b))) → W p l e R s m args below meth c H locs cells slots Q (F0 m pc ls (st.map (sV ad b))))
    (k : sGo p l e R s m args below meth c H locs cells slots Q nL n ad b pc1 lv' st') : W p l e R s m args below meth c H locs cells slots Q (F0 m pc ls (st.map (sV ad b))) := by
  unfold sLdI at h
  split at h
  · next x hv => cases h; exact sGo_ld hl hw hs hv (row x) k
  · cases h
theorem sLdL_ok (hl : lv_has ls nL (sLc ad b lv)) (hw : ∀ q ∈ lv, sOk n q.2) (hs : ∀ v ∈ st, sOk n v) {pc2 : Nat} (h : sLdL pc2 i lv st = some (pc1, lv', st'))
    (row : ∀ x : Int64, ls[i]? = some (.val (.long x)) → W p l e R s m args below meth c H locs cells slots Q (F0 m pc2 ls (.long x :: st.map (sV ad b))) → W p l e R s m args below meth c H locs cells slots Q (F0 m pc ls (st.map (sV ad b))))
    (k : sGo p l e R s m args below meth c H locs cells slots Q nL n ad b pc1 lv' st') : W p l e R s m args below meth c H locs cells slots Q (F0 m pc ls (st.map (sV ad b))) := by
  unfold sLdL at h
  split at h
  · next x hv => cases h; exact sGo_ld hl hw hs hv (row x) k
  · cases h
theorem sLdF_ok (hl : lv_has ls nL (sLc ad b lv)) (hw : ∀ q ∈ lv, sOk n q.2) (hs : ∀ v ∈ st, sOk n v) {pc2 : Nat} (h : sLdF pc2 i lv st = some (pc1, lv', st'))
    (row : ∀ x : UInt32, ls[i]? = some (.val (.float x)) → W p l e R s m args below meth c H locs cells slots Q (F0 m pc2 ls (.float x :: st.map (sV ad b))) → W p l e R s m args below meth c H locs cells slots Q (F0 m pc ls (st.map (sV ad b))))
    (k : sGo p l e R s m args below meth c H locs cells slots Q nL n ad b pc1 lv' st') : W p l e R s m args below meth c H locs cells slots Q (F0 m pc ls (st.map (sV ad b))) := by
  unfold sLdF at h
  split at h
  · next x hv => cases h; exact sGo_ld hl hw hs hv (row x) k
  · cases h
theorem sLdD_ok (hl : lv_has ls nL (sLc ad b lv)) (hw : ∀ q ∈ lv, sOk n q.2) (hs : ∀ v ∈ st, sOk n v) {pc2 : Nat} (h : sLdD pc2 i lv st = some (pc1, lv', st'))
    (row : ∀ x : UInt64, ls[i]? = some (.val (.double x)) → W p l e R s m args below meth c H locs cells slots Q (F0 m pc2 ls (.double x :: st.map (sV ad b))) → W p l e R s m args below meth c H locs cells slots Q (F0 m pc ls (st.map (sV ad b))))
    (k : sGo p l e R s m args below meth c H locs cells slots Q nL n ad b pc1 lv' st') : W p l e R s m args below meth c H locs cells slots Q (F0 m pc ls (st.map (sV ad b))) := by
  unfold sLdD at h
  split at h
  · next x hv => cases h; exact sGo_ld hl hw hs hv (row x) k
  · cases h
theorem sLdA_ok (hl : lv_has ls nL (sLc ad b lv)) (hw : ∀ q ∈ lv, sOk n q.2) (hs : ∀ v ∈ st, sOk n v) {pc2 : Nat} (h : sLdA pc2 i lv st = some (pc1, lv', st'))
    (row : ∀ x : Nat, ls[i]? = some (.val (.ref x)) → W p l e R s m args below meth c H locs cells slots Q (F0 m pc2 ls (.ref x :: st.map (sV ad b))) → W p l e R s m args below meth c H locs cells slots Q (F0 m pc ls (st.map (sV ad b))))
    (k : sGo p l e R s m args below meth c H locs cells slots Q nL n ad b pc1 lv' st') : W p l e R s m args below meth c H locs cells slots Q (F0 m pc ls (st.map (sV ad b))) := by
  unfold sLdA at h
  split at h
  · next x hv => cases h; exact sGo_ld hl hw hs hv (row (ad x)) k
  · next x hv => cases h; exact sGo_ld hl hw hs hv (row b) k
  · cases h
theorem sStI_ok (hl : lv_has ls nL (sLc ad b lv)) (hw : ∀ q ∈ lv, sOk n q.2) (hs : ∀ v ∈ st, sOk n v) {pc2 : Nat} (h : sStI nL pc2 i lv st = some (pc1, lv', st'))
    (row : ∀ (x : Int32) (r : List Value), i < nL → (∀ ls' : Array Slot, lv_has ls' nL ((i, Value.int x) :: (sLc ad b lv).filter (fun q => !(q.1 == i) && !(q.1 + 1 == i && q.2.category == 2))) → W p l e R s m args below meth c H locs cells slots Q (F0 m pc2 ls' r)) → W p l e R s m args below meth c H locs cells slots Q (F0 m pc ls (.int x :: r)))
    (k : sGo p l e R s m args below meth c H locs cells slots Q nL n ad b pc1 lv' st') : W p l e R s m args below meth c H locs cells slots Q (F0 m pc ls (st.map (sV ad b))) := by
  unfold sStI at h
  split at h
  · next x r =>
    split at h
    · next hi =>
      cases h
      exact row x _ hi (fun ls' h' => k ls' ((sS1_c i (.int x) lv) ▸ h') (sOk_s1 hw trivial) (fun v hv => hs v (List.mem_cons_of_mem _ hv)))
    · cases h
  · cases h
theorem sStF_ok (hl : lv_has ls nL (sLc ad b lv)) (hw : ∀ q ∈ lv, sOk n q.2) (hs : ∀ v ∈ st, sOk n v) {pc2 : Nat} (h : sStF nL pc2 i lv st = some (pc1, lv', st'))
    (row : ∀ (x : UInt32) (r : List Value), i < nL → (∀ ls' : Array Slot, lv_has ls' nL ((i, Value.float x) :: (sLc ad b lv).filter (fun q => !(q.1 == i) && !(q.1 + 1 == i && q.2.category == 2))) → W p l e R s m args below meth c H locs cells slots Q (F0 m pc2 ls' r)) → W p l e R s m args below meth c H locs cells slots Q (F0 m pc ls (.float x :: r)))
    (k : sGo p l e R s m args below meth c H locs cells slots Q nL n ad b pc1 lv' st') : W p l e R s m args below meth c H locs cells slots Q (F0 m pc ls (st.map (sV ad b))) := by
  unfold sStF at h
  split at h
  · next x r =>
    split at h
    · next hi =>
      cases h
      exact row x _ hi (fun ls' h' => k ls' ((sS1_c i (.float x) lv) ▸ h') (sOk_s1 hw trivial) (fun v hv => hs v (List.mem_cons_of_mem _ hv)))
    · cases h
  · cases h
theorem sStA_ok (hl : lv_has ls nL (sLc ad b lv)) (hw : ∀ q ∈ lv, sOk n q.2) (hs : ∀ v ∈ st, sOk n v) {pc2 : Nat} (h : sStA nL pc2 i lv st = some (pc1, lv', st'))
    (row : ∀ (x : Nat) (r : List Value), i < nL → (∀ ls' : Array Slot, lv_has ls' nL ((i, Value.ref x) :: (sLc ad b lv).filter (fun q => !(q.1 == i) && !(q.1 + 1 == i && q.2.category == 2))) → W p l e R s m args below meth c H locs cells slots Q (F0 m pc2 ls' r)) → W p l e R s m args below meth c H locs cells slots Q (F0 m pc ls (.ref x :: r)))
    (k : sGo p l e R s m args below meth c H locs cells slots Q nL n ad b pc1 lv' st') : W p l e R s m args below meth c H locs cells slots Q (F0 m pc ls (st.map (sV ad b))) := by
  unfold sStA at h
  split at h
  · next x r =>
    split at h
    · next hi =>
      cases h
      exact row (ad x) _ hi (fun ls' h' => k ls' ((sS1_c i (.ref x) lv) ▸ h') (sOk_s1 hw (hs (.ref x) List.mem_cons_self)) (fun v hv => hs v (List.mem_cons_of_mem _ hv)))
    · cases h
  · cases h
theorem sStL_ok (hl : lv_has ls nL (sLc ad b lv)) (hw : ∀ q ∈ lv, sOk n q.2) (hs : ∀ v ∈ st, sOk n v) {pc2 : Nat} (h : sStL nL pc2 i lv st = some (pc1, lv', st'))
    (row : ∀ (x : Int64) (r : List Value), i + 1 < nL → (∀ ls' : Array Slot, lv_has ls' nL ((i, Value.long x) :: (sLc ad b lv).filter (fun q => !(q.1 == i) && (!(q.1 == i + 1) && !(q.1 + 1 == i && q.2.category == 2)))) → W p l e R s m args below meth c H locs cells slots Q (F0 m pc2 ls' r)) → W p l e R s m args below meth c H locs cells slots Q (F0 m pc ls (.long x :: r)))
    (k : sGo p l e R s m args below meth c H locs cells slots Q nL n ad b pc1 lv' st') : W p l e R s m args below meth c H locs cells slots Q (F0 m pc ls (st.map (sV ad b))) := by
  unfold sStL at h
  split at h
  · next x r =>
    split at h
    · next hi =>
      cases h
      exact row x _ hi (fun ls' h' => k ls' ((sS2_c i (.long x) lv) ▸ h') (sOk_s2 hw trivial) (fun v hv => hs v (List.mem_cons_of_mem _ hv)))
    · cases h
  · cases h
theorem sStD_ok (hl : lv_has ls nL (sLc ad b lv)) (hw : ∀ q ∈ lv, sOk n q.2) (hs : ∀ v ∈ st, sOk n v) {pc2 : Nat} (h : sStD nL pc2 i lv st = some (pc1, lv', st'))
    (row : ∀ (x : UInt64) (r : List Value), i + 1 < nL → (∀ ls' : Array Slot, lv_has ls' nL ((i, Value.double x) :: (sLc ad b lv).filter (fun q => !(q.1 == i) && (!(q.1 == i + 1) && !(q.1 + 1 == i && q.2.category == 2)))) → W p l e R s m args below meth c H locs cells slots Q (F0 m pc2 ls' r)) → W p l e R s m args below meth c H locs cells slots Q (F0 m pc ls (.double x :: r)))
    (k : sGo p l e R s m args below meth c H locs cells slots Q nL n ad b pc1 lv' st') : W p l e R s m args below meth c H locs cells slots Q (F0 m pc ls (st.map (sV ad b))) := by
  unfold sStD at h
  split at h
  · next x r =>
    split at h
    · next hi =>
      cases h
      exact row x _ hi (fun ls' h' => k ls' ((sS2_c i (.double x) lv) ▸ h') (sOk_s2 hw trivial) (fun v hv => hs v (List.mem_cons_of_mem _ hv)))
    · cases h
  · cases h
theorem sBi_ok {f : Int32 → Int32 → Int32} (hl : lv_has ls nL (sLc ad b lv)) (hw : ∀ q ∈ lv, sOk n q.2) (hs : ∀ v ∈ st, sOk n v) {pc2 : Nat} (h : sBi f pc2 lv st = some (pc1, lv', st'))
    (row : ∀ (x y : Int32) (r : List Value), W p l e R s m args below meth c H locs cells slots Q (F0 m pc2 ls (.int (f x y) :: r)) → W p l e R s m args below meth c H locs cells slots Q (F0 m pc ls (.int y :: .int x :: r)))
    (k : sGo p l e R s m args below meth c H locs cells slots Q nL n ad b pc1 lv' st') : W p l e R s m args below meth c H locs cells slots Q (F0 m pc ls (st.map (sV ad b))) := by
  unfold sBi at h
  split at h
  · next y x r =>
    cases h
    exact row x y _ (k ls hl hw (fun v hv => (List.mem_cons.mp hv).elim (fun e => by rw [e]; trivial) (fun h2 => hs v (List.mem_cons_of_mem _ (List.mem_cons_of_mem _ h2)))))
  · cases h
theorem sBl_ok {f : Int64 → Int64 → Int64} (hl : lv_has ls nL (sLc ad b lv)) (hw : ∀ q ∈ lv, sOk n q.2) (hs : ∀ v ∈ st, sOk n v) {pc2 : Nat} (h : sBl f pc2 lv st = some (pc1, lv', st'))
    (row : ∀ (x y : Int64) (r : List Value), W p l e R s m args below meth c H locs cells slots Q (F0 m pc2 ls (.long (f x y) :: r)) → W p l e R s m args below meth c H locs cells slots Q (F0 m pc ls (.long y :: .long x :: r)))
    (k : sGo p l e R s m args below meth c H locs cells slots Q nL n ad b pc1 lv' st') : W p l e R s m args below meth c H locs cells slots Q (F0 m pc ls (st.map (sV ad b))) := by
  unfold sBl at h
  split at h
  · next y x r =>
    cases h
    exact row x y _ (k ls hl hw (fun v hv => (List.mem_cons.mp hv).elim (fun e => by rw [e]; trivial) (fun h2 => hs v (List.mem_cons_of_mem _ (List.mem_cons_of_mem _ h2)))))
  · cases h
theorem sBs_ok {f : Int64 → Int32 → Int64} (hl : lv_has ls nL (sLc ad b lv)) (hw : ∀ q ∈ lv, sOk n q.2) (hs : ∀ v ∈ st, sOk n v) {pc2 : Nat} (h : sBs f pc2 lv st = some (pc1, lv', st'))
    (row : ∀ (x : Int64) (y : Int32) (r : List Value), W p l e R s m args below meth c H locs cells slots Q (F0 m pc2 ls (.long (f x y) :: r)) → W p l e R s m args below meth c H locs cells slots Q (F0 m pc ls (.int y :: .long x :: r)))
    (k : sGo p l e R s m args below meth c H locs cells slots Q nL n ad b pc1 lv' st') : W p l e R s m args below meth c H locs cells slots Q (F0 m pc ls (st.map (sV ad b))) := by
  unfold sBs at h
  split at h
  · next y x r =>
    cases h
    exact row x y _ (k ls hl hw (fun v hv => (List.mem_cons.mp hv).elim (fun e => by rw [e]; trivial) (fun h2 => hs v (List.mem_cons_of_mem _ (List.mem_cons_of_mem _ h2)))))
  · cases h
theorem sIf_ok {cd : Int32 → Prop} (dec : ∀ x, Decidable (cd x)) {off : Int} (hl : lv_has ls nL (sLc ad b lv)) (hw : ∀ q ∈ lv, sOk n q.2) (hs : ∀ v ∈ st, sOk n v) (h : sIf (fun x => decide (cd x)) pc off lv st = some (pc1, lv', st'))
    (row : ∀ (x : Int32) (r : List Value) (tgt : Nat), (pc : Int) + off = (tgt : Int) → (cd x → W p l e R s m args below meth c H locs cells slots Q (F0 m tgt ls r)) → (¬ cd x → W p l e R s m args below meth c H locs cells slots Q (F0 m (pc + 3) ls r)) → W p l e R s m args below meth c H locs cells slots Q (F0 m pc ls (.int x :: r)))
    (k : sGo p l e R s m args below meth c H locs cells slots Q nL n ad b pc1 lv' st') : W p l e R s m args below meth c H locs cells slots Q (F0 m pc ls (st.map (sV ad b))) := by
  unfold sIf at h
  split at h
  · next x r =>
    split at h
    · next t ht =>
      cases h
      have k1 := k ls hl hw (fun v hv => hs v (List.mem_cons_of_mem _ hv))
      refine row x _ t (sTg_of ht) (fun hc => ?_) (fun hc => ?_)
      · dsimp only at k1; rw [decide_eq_true hc] at k1; exact k1
      · dsimp only at k1; rw [decide_eq_false hc] at k1; exact k1
    · cases h
  · cases h
theorem sIc_ok {cd : Int32 → Int32 → Prop} (dec : ∀ x y, Decidable (cd x y)) {off : Int} (hl : lv_has ls nL (sLc ad b lv)) (hw : ∀ q ∈ lv, sOk n q.2) (hs : ∀ v ∈ st, sOk n v) (h : sIc (fun x y => decide (cd x y)) pc off lv st = some (pc1, lv', st'))
    (row : ∀ (x y : Int32) (r : List Value) (tgt : Nat), (pc : Int) + off = (tgt : Int) → (cd x y → W p l e R s m args below meth c H locs cells slots Q (F0 m tgt ls r)) → (¬ cd x y → W p l e R s m args below meth c H locs cells slots Q (F0 m (pc + 3) ls r)) → W p l e R s m args below meth c H locs cells slots Q (F0 m pc ls (.int y :: .int x :: r)))
    (k : sGo p l e R s m args below meth c H locs cells slots Q nL n ad b pc1 lv' st') : W p l e R s m args below meth c H locs cells slots Q (F0 m pc ls (st.map (sV ad b))) := by
  unfold sIc at h
  split at h
  · next y x r =>
    split at h
    · next t ht =>
      cases h
      have k1 := k ls hl hw (fun v hv => hs v (List.mem_cons_of_mem _ (List.mem_cons_of_mem _ hv)))
      refine row x y _ t (sTg_of ht) (fun hc => ?_) (fun hc => ?_)
      · dsimp only at k1; rw [decide_eq_true hc] at k1; exact k1
      · dsimp only at k1; rw [decide_eq_false hc] at k1; exact k1
    · cases h
  · cases h
theorem sGo_push {v : Value} (hl : lv_has ls nL (sLc ad b lv)) (hw : ∀ q ∈ lv, sOk n q.2) (hs : ∀ v ∈ st, sOk n v) (hv : sOk n v)
    (k : sGo p l e R s m args below meth c H locs cells slots Q nL n ad b pc1 lv (v :: st)) : W p l e R s m args below meth c H locs cells slots Q (F0 m pc1 ls (sV ad b v :: st.map (sV ad b))) :=
  k ls hl hw (fun w h => (List.mem_cons.mp h).elim (fun e => by rw [e]; exact hv) (hs w))
theorem sGo_pop2 {v : Value} {r : List Value} (hl : lv_has ls nL (sLc ad b lv)) (hw : ∀ q ∈ lv, sOk n q.2) {u1 u2 : Value} (hs : ∀ v ∈ u1 :: u2 :: r, sOk n v) (hv : sOk n v)
    (k : sGo p l e R s m args below meth c H locs cells slots Q nL n ad b pc1 lv (v :: r)) : W p l e R s m args below meth c H locs cells slots Q (F0 m pc1 ls (sV ad b v :: r.map (sV ad b))) :=
  sGo_push hl hw (fun v h => hs v (List.mem_cons_of_mem _ (List.mem_cons_of_mem _ h))) hv k
theorem sGo_pop1 {v : Value} {r : List Value} (hl : lv_has ls nL (sLc ad b lv)) (hw : ∀ q ∈ lv, sOk n q.2) {u1 : Value} (hs : ∀ v ∈ u1 :: r, sOk n v) (hv : sOk n v)
    (k : sGo p l e R s m args below meth c H locs cells slots Q nL n ad b pc1 lv (v :: r)) : W p l e R s m args below meth c H locs cells slots Q (F0 m pc1 ls (sV ad b v :: r.map (sV ad b))) :=
  sGo_push hl hw (fun v h => hs v (List.mem_cons_of_mem _ h)) hv k
end SP
