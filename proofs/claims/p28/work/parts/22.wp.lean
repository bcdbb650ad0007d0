/-! what a comparison of the machine says -/
def sC1 (c : Jvm.ClassFile.Cond) (x : Int32) : Bool := match c with
  | .eq => decide (x = 0)
  | .ne => decide (¬ x = 0)
  | .lt => decide (x < 0)
  | .ge => decide (0 ≤ x)
  | .gt => decide (0 < x)
  | .le => decide (x ≤ 0)
def sC2 (c : Jvm.ClassFile.Cond) (x y : Int32) : Bool := match c with
  | .eq => decide (x = y)
  | .ne => decide (¬ x = y)
  | .lt => decide (x < y)
  | .ge => decide (y ≤ x)
  | .gt => decide (y < x)
  | .le => decide (x ≤ y)
theorem sStep_P {mt : Nat → sM} {call : Nat → List Value → sH → Option sR} {M : sM} {xs : Option (List Int32)} {cf : sK} {e : sE} {q : Nat × sL × List Value} (he : mE M cf.1 = some e) (hq : sP (mL M) e.1 cf.1 cf.2.1 cf.2.2.1 = some q) : sStep mt call M xs cf = some (.inl (q.1, q.2.1, q.2.2, cf.2.2.2)) := by
  unfold sStep
  rw [he]
  dsimp only
  rw [hq]
/-! runs to an end, step by step -/
/-- within B steps the run comes to an end of which Q holds -/
def sWp (mt : Nat → sM) (call : Nat → List Value → sH → Option sR) (M : sM) (xs : Option (List Int32)) (B : Nat) (cf : sK) (Q : sR → Prop) : Prop := ∃ r, Q r ∧ ∀ n, sRun mt call M xs (n + B) cf = some r
/-- what goes on behind a call -/
def wK (mt : Nat → sM) (call : Nat → List Value → sH → Option sR) (M : sM) (xs : Option (List Int32)) (B : Nat) (pc : Nat) (lv : sL) (rest : List Value) (cl sl : Nat) (Q : sR → Prop) (r : sR) : Prop := match r with
  | (.inl v, h1) => sWp mt call M xs B (pc + 3, lv, v.toList ++ rest, h1, cl, sl) Q
  | (.inr E, h1) => match mT M with
    | [] => Q (.inr E, h1)
    | t :: ts => ∃ hp k, sHd (mE M) E pc (t :: ts) = some hp ∧ E < 6 ∧ sCk (mE M) lv h1 cl sl (mL M) hp = some (.inl k) ∧ sWp mt call M xs B k Q
section WP
variable {mt : Nat → sM} {call : Nat → List Value → sH → Option sR} {M : sM} {xs : Option (List Int32)} {B cl sl pc a1 a2 ln : Nat} {Q : sR → Prop} {lv : sL} {st : List Value} {h : sH}
theorem wp_step {cf cf1 : sK} (hs : sStep mt call M xs cf = some (.inl cf1)) (k : sWp mt call M xs B cf1 Q) : sWp mt call M xs (B + 1) cf Q := by
  obtain ⟨r, hr, k⟩ := k
  refine ⟨r, hr, fun n => ?_⟩
  rw [← Nat.add_assoc, sRun_s, hs]
  exact k n
theorem wp_end {cf : sK} {r : sR} (hs : sStep mt call M xs cf = some (.inr r)) (k : Q r) : sWp mt call M xs (B + 1) cf Q := by
  refine ⟨r, k, fun n => ?_⟩
  rw [← Nat.add_assoc, sRun_s, hs]
theorem wp_le {cf : sK} {B' : Nat} (hB : B ≤ B') (k : sWp mt call M xs B cf Q) : sWp mt call M xs B' cf Q := by
  obtain ⟨r, hr, k⟩ := k
  refine ⟨r, hr, fun n => ?_⟩
  have h1 := k (n + (B' - B))
  rwa [Nat.add_assoc, Nat.sub_add_cancel hB] at h1
theorem wp_post {cf : sK} {Q' : sR → Prop} (hQ : ∀ r, Q' r → Q r) (k : sWp mt call M xs B cf Q') : sWp mt call M xs B cf Q := by
  obtain ⟨r, hr, k⟩ := k
  exact ⟨r, hQ r hr, k⟩
theorem wp_P {e : sE} {pc' : Nat} {lv' : sL} {st' : List Value} (he : mE M pc = some e) (hq : sP (mL M) e.1 pc lv st = some (pc', lv', st')) (k : sWp mt call M xs B (pc', lv', st', h, cl, sl) Q) : sWp mt call M xs (B + 1) (pc, lv, st, h, cl, sl) Q := wp_step (sStep_P he hq) k
theorem wp_H {e : sE} {pc' : Nat} {lv' : sL} {st' : List Value} {h' : sH} (he : mE M pc = some e) (hP : sP (mL M) e.1 pc lv st = none) (hq : sHp xs e.1 e.2.2.1 e.2.2.2 pc lv st h = some (pc', lv', st', h')) (k : sWp mt call M xs B (pc', lv', st', h', cl, sl) Q) : sWp mt call M xs (B + 1) (pc, lv, st, h, cl, sl) Q := wp_step (by unfold sStep; rw [he]; dsimp only; rw [hP]; dsimp only; rw [hq]) k
theorem wp_iload {i : Nat} {x : Int32} (he : mE M pc = some (.iload i, ln, a1, a2)) (hv : sLk i lv = some (.int x)) (k : sWp mt call M xs B (pc + 2, lv, .int x :: st, h, cl, sl) Q) : sWp mt call M xs (B + 1) (pc, lv, st, h, cl, sl) Q := wp_P he (by show sLdI _ _ _ _ = _; unfold sLdI; rw [hv]) k
theorem wp_iload_n {i : Fin 4} {x : Int32} (he : mE M pc = some (.iload_n i, ln, a1, a2)) (hv : sLk i lv = some (.int x)) (k : sWp mt call M xs B (pc + 1, lv, .int x :: st, h, cl, sl) Q) : sWp mt call M xs (B + 1) (pc, lv, st, h, cl, sl) Q := wp_P he (by show sLdI _ _ _ _ = _; unfold sLdI; rw [hv]) k
theorem wp_lload {i : Nat} {x : Int64} (he : mE M pc = some (.lload i, ln, a1, a2)) (hv : sLk i lv = some (.long x)) (k : sWp mt call M xs B (pc + 2, lv, .long x :: st, h, cl, sl) Q) : sWp mt call M xs (B + 1) (pc, lv, st, h, cl, sl) Q := wp_P he (by show sLdL _ _ _ _ = _; unfold sLdL; rw [hv]) k
theorem wp_lload_n {i : Fin 4} {x : Int64} (he : mE M pc = some (.lload_n i, ln, a1, a2)) (hv : sLk i lv = some (.long x)) (k : sWp mt call M xs B (pc + 1, lv, .long x :: st, h, cl, sl) Q) : sWp mt call M xs (B + 1) (pc, lv, st, h, cl, sl) Q := wp_P he (by show sLdL _ _ _ _ = _; unfold sLdL; rw [hv]) k
theorem wp_fload {i : Nat} {x : UInt32} (he : mE M pc = some (.fload i, ln, a1, a2)) (hv : sLk i lv = some (.float x)) (k : sWp mt call M xs B (pc + 2, lv, .float x :: st, h, cl, sl) Q) : sWp mt call M xs (B + 1) (pc, lv, st, h, cl, sl) Q := wp_P he (by show sLdF _ _ _ _ = _; unfold sLdF; rw [hv]) k
theorem wp_fload_n {i : Fin 4} {x : UInt32} (he : mE M pc = some (.fload_n i, ln, a1, a2)) (hv : sLk i lv = some (.float x)) (k : sWp mt call M xs B (pc + 1, lv, .float x :: st, h, cl, sl) Q) : sWp mt call M xs (B + 1) (pc, lv, st, h, cl, sl) Q := wp_P he (by show sLdF _ _ _ _ = _; unfold sLdF; rw [hv]) k
theorem wp_dload {i : Nat} {x : UInt64} (he : mE M pc = some (.dload i, ln, a1, a2)) (hv : sLk i lv = some (.double x)) (k : sWp mt call M xs B (pc + 2, lv, .double x :: st, h, cl, sl) Q) : sWp mt call M xs (B + 1) (pc, lv, st, h, cl, sl) Q := wp_P he (by show sLdD _ _ _ _ = _; unfold sLdD; rw [hv]) k
theorem wp_dload_n {i : Fin 4} {x : UInt64} (he : mE M pc = some (.dload_n i, ln, a1, a2)) (hv : sLk i lv = some (.double x)) (k : sWp mt call M xs B (pc + 1, lv, .double x :: st, h, cl, sl) Q) : sWp mt call M xs (B + 1) (pc, lv, st, h, cl, sl) Q := wp_P he (by show sLdD _ _ _ _ = _; unfold sLdD; rw [hv]) k
theorem wp_aload {i : Nat} {x : Nat} (he : mE M pc = some (.aload i, ln, a1, a2)) (hv : sLk i lv = some (.ref x)) (k : sWp mt call M xs B (pc + 2, lv, .ref x :: st, h, cl, sl) Q) : sWp mt call M xs (B + 1) (pc, lv, st, h, cl, sl) Q := wp_P he (by show sLdA _ _ _ _ = _; unfold sLdA; rw [hv]) k
theorem wp_aload_n {i : Fin 4} {x : Nat} (he : mE M pc = some (.aload_n i, ln, a1, a2)) (hv : sLk i lv = some (.ref x)) (k : sWp mt call M xs B (pc + 1, lv, .ref x :: st, h, cl, sl) Q) : sWp mt call M xs (B + 1) (pc, lv, st, h, cl, sl) Q := wp_P he (by show sLdA _ _ _ _ = _; unfold sLdA; rw [hv]) k
theorem wp_aload_ns {i : Fin 4} {x : Nat} (he : mE M pc = some (.aload_n i, ln, a1, a2)) (hv : sLk i lv = some (.retAddr x)) (k : sWp mt call M xs B (pc + 1, lv, .retAddr x :: st, h, cl, sl) Q) : sWp mt call M xs (B + 1) (pc, lv, st, h, cl, sl) Q := wp_P he (by show sLdA _ _ _ _ = _; unfold sLdA; rw [hv]) k
theorem wp_istore {i : Nat} {x : Int32} (he : mE M pc = some (.istore i, ln, a1, a2)) (hi : i < mL M) (k : sWp mt call M xs B (pc + 2, sS1 i (.int x) lv, st, h, cl, sl) Q) : sWp mt call M xs (B + 1) (pc, lv, .int x :: st, h, cl, sl) Q := wp_P he (by unfold sP sStI; exact if_pos hi) k
theorem wp_fstore {i : Nat} {x : UInt32} (he : mE M pc = some (.fstore i, ln, a1, a2)) (hi : i < mL M) (k : sWp mt call M xs B (pc + 2, sS1 i (.float x) lv, st, h, cl, sl) Q) : sWp mt call M xs (B + 1) (pc, lv, .float x :: st, h, cl, sl) Q := wp_P he (by unfold sP sStF; exact if_pos hi) k
theorem wp_istore_n {i : Fin 4} {x : Int32} (he : mE M pc = some (.istore_n i, ln, a1, a2)) (hi : (i : Nat) < mL M) (k : sWp mt call M xs B (pc + 1, sS1 i (.int x) lv, st, h, cl, sl) Q) : sWp mt call M xs (B + 1) (pc, lv, .int x :: st, h, cl, sl) Q := wp_P he (by unfold sP sStI; exact if_pos hi) k
theorem wp_astore {i : Nat} {x : Nat} (he : mE M pc = some (.astore i, ln, a1, a2)) (hi : i < mL M) (k : sWp mt call M xs B (pc + 2, sS1 i (.ref x) lv, st, h, cl, sl) Q) : sWp mt call M xs (B + 1) (pc, lv, .ref x :: st, h, cl, sl) Q := wp_P he (by unfold sP sStA; exact if_pos hi) k
theorem wp_astore_n {i : Fin 4} {x : Nat} (he : mE M pc = some (.astore_n i, ln, a1, a2)) (hi : (i : Nat) < mL M) (k : sWp mt call M xs B (pc + 1, sS1 i (.ref x) lv, st, h, cl, sl) Q) : sWp mt call M xs (B + 1) (pc, lv, .ref x :: st, h, cl, sl) Q := wp_P he (by unfold sP sStA; exact if_pos hi) k
theorem wp_lstore {i : Nat} {x : Int64} (he : mE M pc = some (.lstore i, ln, a1, a2)) (hi : i + 1 < mL M) (k : sWp mt call M xs B (pc + 2, sS2 i (.long x) lv, st, h, cl, sl) Q) : sWp mt call M xs (B + 1) (pc, lv, .long x :: st, h, cl, sl) Q := wp_P he (by unfold sP sStL; exact if_pos hi) k
theorem wp_lstore_n {i : Fin 4} {x : Int64} (he : mE M pc = some (.lstore_n i, ln, a1, a2)) (hi : (i : Nat) + 1 < mL M) (k : sWp mt call M xs B (pc + 1, sS2 i (.long x) lv, st, h, cl, sl) Q) : sWp mt call M xs (B + 1) (pc, lv, .long x :: st, h, cl, sl) Q := wp_P he (by unfold sP sStL; exact if_pos hi) k
theorem wp_dstore {i : Nat} {x : UInt64} (he : mE M pc = some (.dstore i, ln, a1, a2)) (hi : i + 1 < mL M) (k : sWp mt call M xs B (pc + 2, sS2 i (.double x) lv, st, h, cl, sl) Q) : sWp mt call M xs (B + 1) (pc, lv, .double x :: st, h, cl, sl) Q := wp_P he (by unfold sP sStD; exact if_pos hi) k
theorem wp_dstore_n {i : Fin 4} {x : UInt64} (he : mE M pc = some (.dstore_n i, ln, a1, a2)) (hi : (i : Nat) + 1 < mL M) (k : sWp mt call M xs B (pc + 1, sS2 i (.double x) lv, st, h, cl, sl) Q) : sWp mt call M xs (B + 1) (pc, lv, .double x :: st, h, cl, sl) Q := wp_P he (by unfold sP sStD; exact if_pos hi) k
theorem wp_iconst {i : Int} (he : mE M pc = some (.iconst i, ln, a1, a2)) (k : sWp mt call M xs B (pc + 1, lv, .int (Int32.ofInt i) :: st, h, cl, sl) Q) : sWp mt call M xs (B + 1) (pc, lv, st, h, cl, sl) Q := wp_P he rfl k
theorem wp_bipush {i : Int} (he : mE M pc = some (.bipush i, ln, a1, a2)) (k : sWp mt call M xs B (pc + 2, lv, .int (Int8.ofInt i).toInt32 :: st, h, cl, sl) Q) : sWp mt call M xs (B + 1) (pc, lv, st, h, cl, sl) Q := wp_P he rfl k
theorem wp_sipush {i : Int} (he : mE M pc = some (.sipush i, ln, a1, a2)) (k : sWp mt call M xs B (pc + 3, lv, .int (Int16.ofInt i).toInt32 :: st, h, cl, sl) Q) : sWp mt call M xs (B + 1) (pc, lv, st, h, cl, sl) Q := wp_P he rfl k
theorem wp_lconst {i : Fin 2} (he : mE M pc = some (.lconst i, ln, a1, a2)) (k : sWp mt call M xs B (pc + 1, lv, .long (Int64.ofNat (i : Nat)) :: st, h, cl, sl) Q) : sWp mt call M xs (B + 1) (pc, lv, st, h, cl, sl) Q := wp_P he rfl k
theorem wp_goto {off : Int} {t : Nat} (he : mE M pc = some (.goto off, ln, a1, a2)) (ht : sTg pc off = some t) (k : sWp mt call M xs B (t, lv, st, h, cl, sl) Q) : sWp mt call M xs (B + 1) (pc, lv, st, h, cl, sl) Q := wp_P he (by unfold sP; dsimp only; rw [ht]) k
theorem wp_iadd {x y : Int32} (he : mE M pc = some (.iadd, ln, a1, a2)) (k : sWp mt call M xs B (pc + 1, lv, .int (x + y) :: st, h, cl, sl) Q) : sWp mt call M xs (B + 1) (pc, lv, .int y :: .int x :: st, h, cl, sl) Q := wp_P he rfl k
theorem wp_isub {x y : Int32} (he : mE M pc = some (.isub, ln, a1, a2)) (k : sWp mt call M xs B (pc + 1, lv, .int (x - y) :: st, h, cl, sl) Q) : sWp mt call M xs (B + 1) (pc, lv, .int y :: .int x :: st, h, cl, sl) Q := wp_P he rfl k
theorem wp_imul {x y : Int32} (he : mE M pc = some (.imul, ln, a1, a2)) (k : sWp mt call M xs B (pc + 1, lv, .int (x * y) :: st, h, cl, sl) Q) : sWp mt call M xs (B + 1) (pc, lv, .int y :: .int x :: st, h, cl, sl) Q := wp_P he rfl k
theorem wp_iand {x y : Int32} (he : mE M pc = some (.iand, ln, a1, a2)) (k : sWp mt call M xs B (pc + 1, lv, .int (x &&& y) :: st, h, cl, sl) Q) : sWp mt call M xs (B + 1) (pc, lv, .int y :: .int x :: st, h, cl, sl) Q := wp_P he rfl k
theorem wp_ior {x y : Int32} (he : mE M pc = some (.ior, ln, a1, a2)) (k : sWp mt call M xs B (pc + 1, lv, .int (x ||| y) :: st, h, cl, sl) Q) : sWp mt call M xs (B + 1) (pc, lv, .int y :: .int x :: st, h, cl, sl) Q := wp_P he rfl k
theorem wp_ixor {x y : Int32} (he : mE M pc = some (.ixor, ln, a1, a2)) (k : sWp mt call M xs B (pc + 1, lv, .int (x ^^^ y) :: st, h, cl, sl) Q) : sWp mt call M xs (B + 1) (pc, lv, .int y :: .int x :: st, h, cl, sl) Q := wp_P he rfl k
theorem wp_ishl {x y : Int32} (he : mE M pc = some (.ishl, ln, a1, a2)) (k : sWp mt call M xs B (pc + 1, lv, .int (x <<< (y &&& 31)) :: st, h, cl, sl) Q) : sWp mt call M xs (B + 1) (pc, lv, .int y :: .int x :: st, h, cl, sl) Q := wp_P he rfl k
theorem wp_ishr {x y : Int32} (he : mE M pc = some (.ishr, ln, a1, a2)) (k : sWp mt call M xs B (pc + 1, lv, .int (x >>> (y &&& 31)) :: st, h, cl, sl) Q) : sWp mt call M xs (B + 1) (pc, lv, .int y :: .int x :: st, h, cl, sl) Q := wp_P he rfl k
theorem wp_ladd {x y : Int64} (he : mE M pc = some (.ladd, ln, a1, a2)) (k : sWp mt call M xs B (pc + 1, lv, .long (x + y) :: st, h, cl, sl) Q) : sWp mt call M xs (B + 1) (pc, lv, .long y :: .long x :: st, h, cl, sl) Q := wp_P he rfl k
theorem wp_lsub {x y : Int64} (he : mE M pc = some (.lsub, ln, a1, a2)) (k : sWp mt call M xs B (pc + 1, lv, .long (x - y) :: st, h, cl, sl) Q) : sWp mt call M xs (B + 1) (pc, lv, .long y :: .long x :: st, h, cl, sl) Q := wp_P he rfl k
theorem wp_lmul {x y : Int64} (he : mE M pc = some (.lmul, ln, a1, a2)) (k : sWp mt call M xs B (pc + 1, lv, .long (x * y) :: st, h, cl, sl) Q) : sWp mt call M xs (B + 1) (pc, lv, .long y :: .long x :: st, h, cl, sl) Q := wp_P he rfl k
theorem wp_land {x y : Int64} (he : mE M pc = some (.land, ln, a1, a2)) (k : sWp mt call M xs B (pc + 1, lv, .long (x &&& y) :: st, h, cl, sl) Q) : sWp mt call M xs (B + 1) (pc, lv, .long y :: .long x :: st, h, cl, sl) Q := wp_P he rfl k
theorem wp_lor {x y : Int64} (he : mE M pc = some (.lor, ln, a1, a2)) (k : sWp mt call M xs B (pc + 1, lv, .long (x ||| y) :: st, h, cl, sl) Q) : sWp mt call M xs (B + 1) (pc, lv, .long y :: .long x :: st, h, cl, sl) Q := wp_P he rfl k
theorem wp_lxor {x y : Int64} (he : mE M pc = some (.lxor, ln, a1, a2)) (k : sWp mt call M xs B (pc + 1, lv, .long (x ^^^ y) :: st, h, cl, sl) Q) : sWp mt call M xs (B + 1) (pc, lv, .long y :: .long x :: st, h, cl, sl) Q := wp_P he rfl k
theorem wp_lshl {x : Int64} {y : Int32} (he : mE M pc = some (.lshl, ln, a1, a2)) (k : sWp mt call M xs B (pc + 1, lv, .long (x <<< (y.toInt64 &&& 63)) :: st, h, cl, sl) Q) : sWp mt call M xs (B + 1) (pc, lv, .int y :: .long x :: st, h, cl, sl) Q := wp_P he rfl k
theorem wp_lcmp {x y : Int64} (he : mE M pc = some (.lcmp, ln, a1, a2)) (k : sWp mt call M xs B (pc + 1, lv, .int (lg_cmp x y) :: st, h, cl, sl) Q) : sWp mt call M xs (B + 1) (pc, lv, .long y :: .long x :: st, h, cl, sl) Q := wp_P he rfl k
theorem wp_i2l {x : Int32} (he : mE M pc = some (.i2l, ln, a1, a2)) (k : sWp mt call M xs B (pc + 1, lv, .long x.toInt64 :: st, h, cl, sl) Q) : sWp mt call M xs (B + 1) (pc, lv, .int x :: st, h, cl, sl) Q := wp_P he rfl k
theorem wp_l2i {x : Int64} (he : mE M pc = some (.l2i, ln, a1, a2)) (k : sWp mt call M xs B (pc + 1, lv, .int x.toInt32 :: st, h, cl, sl) Q) : sWp mt call M xs (B + 1) (pc, lv, .long x :: st, h, cl, sl) Q := wp_P he rfl k
theorem wp_ineg {x : Int32} (he : mE M pc = some (.ineg, ln, a1, a2)) (k : sWp mt call M xs B (pc + 1, lv, .int (-x) :: st, h, cl, sl) Q) : sWp mt call M xs (B + 1) (pc, lv, .int x :: st, h, cl, sl) Q := wp_P he rfl k
theorem wp_dup {v : Value} (he : mE M pc = some (.dup, ln, a1, a2)) (hc : v.category = 1) (k : sWp mt call M xs B (pc + 1, lv, v :: v :: st, h, cl, sl) Q) : sWp mt call M xs (B + 1) (pc, lv, v :: st, h, cl, sl) Q := wp_P he (by unfold sP; exact if_pos hc) k
theorem wp_pop {v : Value} (he : mE M pc = some (.pop, ln, a1, a2)) (hc : v.category = 1) (k : sWp mt call M xs B (pc + 1, lv, st, h, cl, sl) Q) : sWp mt call M xs (B + 1) (pc, lv, v :: st, h, cl, sl) Q := wp_P he (by unfold sP; exact if_pos hc) k
theorem wp_dup2 {v w : Value} (he : mE M pc = some (.dup2, ln, a1, a2)) (hc : v.category = 1 ∧ w.category = 1) (k : sWp mt call M xs B (pc + 1, lv, v :: w :: v :: w :: st, h, cl, sl) Q) : sWp mt call M xs (B + 1) (pc, lv, v :: w :: st, h, cl, sl) Q := wp_P he (by unfold sP; exact if_pos hc) k
theorem wp_iinc {i : Nat} {n : Int} {x : Int32} (he : mE M pc = some (.iinc i n, ln, a1, a2)) (hv : sLk i lv = some (.int x)) (hi : i < mL M) (k : sWp mt call M xs B (pc + 3, sS1 i (.int (x + Int32.ofInt n)) lv, st, h, cl, sl) Q) : sWp mt call M xs (B + 1) (pc, lv, st, h, cl, sl) Q := wp_P he (by unfold sP; dsimp only; rw [hv]; exact if_pos hi) k
theorem wp_idiv {x y : Int32} (he : mE M pc = some (.idiv, ln, a1, a2)) (hy : ¬ y = 0) (k : sWp mt call M xs B (pc + 1, lv, .int (x / y) :: st, h, cl, sl) Q) : sWp mt call M xs (B + 1) (pc, lv, .int y :: .int x :: st, h, cl, sl) Q := wp_P he (by unfold sP; exact if_neg hy) k
theorem wp_irem {x y : Int32} (he : mE M pc = some (.irem, ln, a1, a2)) (hy : ¬ y = 0) (k : sWp mt call M xs B (pc + 1, lv, .int (x - x / y * y) :: st, h, cl, sl) Q) : sWp mt call M xs (B + 1) (pc, lv, .int y :: .int x :: st, h, cl, sl) Q := wp_P he (by unfold sP; exact if_neg hy) k
theorem wp_ift {c : Jvm.ClassFile.Cond} {off : Int} {t : Nat} {x : Int32} (he : mE M pc = some (.ifCond c off, ln, a1, a2)) (hc : sC1 c x = true) (ht : sTg pc off = some t) (k : sWp mt call M xs B (t, lv, st, h, cl, sl) Q) : sWp mt call M xs (B + 1) (pc, lv, .int x :: st, h, cl, sl) Q := wp_P he (by cases c <;> (dsimp only; unfold sP sIf; dsimp only; rw [ht]; exact congrArg (fun b => some (cond b t (pc + 3), lv, st)) hc)) k
theorem wp_ict {c : Jvm.ClassFile.Cond} {off : Int} {t : Nat} {x y : Int32} (he : mE M pc = some (.if_icmp c off, ln, a1, a2)) (hc : sC2 c x y = true) (ht : sTg pc off = some t) (k : sWp mt call M xs B (t, lv, st, h, cl, sl) Q) : sWp mt call M xs (B + 1) (pc, lv, .int y :: .int x :: st, h, cl, sl) Q := wp_P he (by cases c <;> (dsimp only; unfold sP sIc; dsimp only; rw [ht]; exact congrArg (fun b => some (cond b t (pc + 3), lv, st)) hc)) k
theorem wp_iff {c : Jvm.ClassFile.Cond} {off : Int} {t : Nat} {x : Int32} (he : mE M pc = some (.ifCond c off, ln, a1, a2)) (hc : sC1 c x = false) (ht : sTg pc off = some t) (k : sWp mt call M xs B (pc + 3, lv, st, h, cl, sl) Q) : sWp mt call M xs (B + 1) (pc, lv, .int x :: st, h, cl, sl) Q := wp_P he (by cases c <;> (dsimp only; unfold sP sIf; dsimp only; rw [ht]; exact congrArg (fun b => some (cond b t (pc + 3), lv, st)) hc)) k
theorem wp_icf {c : Jvm.ClassFile.Cond} {off : Int} {t : Nat} {x y : Int32} (he : mE M pc = some (.if_icmp c off, ln, a1, a2)) (hc : sC2 c x y = false) (ht : sTg pc off = some t) (k : sWp mt call M xs B (pc + 3, lv, st, h, cl, sl) Q) : sWp mt call M xs (B + 1) (pc, lv, .int y :: .int x :: st, h, cl, sl) Q := wp_P he (by cases c <;> (dsimp only; unfold sP sIc; dsimp only; rw [ht]; exact congrArg (fun b => some (cond b t (pc + 3), lv, st)) hc)) k
theorem wp_switch {d lo hi : Int} {offs : Array Int} {t : Nat} {x y : Int32} (he : mE M pc = some (.tableswitch d lo hi offs, ln, a1, a2)) (hx : x = y) (ht : sP (mL M) (.tableswitch d lo hi offs) pc lv (.int y :: st) = some (t, lv, st)) (k : sWp mt call M xs B (t, lv, st, h, cl, sl) Q) : sWp mt call M xs (B + 1) (pc, lv, .int x :: st, h, cl, sl) Q := wp_P he (by rw [hx]; exact ht) k
theorem wp_getfield {ix o : Nat} {fs : List Value} {v : Value} (he : mE M pc = some (.getfield ix, ln, a1, a2)) (ho : h[o]? = some (.inr (a1, fs))) (hv : fs[a2]? = some v) (k : sWp mt call M xs B (pc + 3, lv, v :: st, h, cl, sl) Q) : sWp mt call M xs (B + 1) (pc, lv, .ref o :: st, h, cl, sl) Q := wp_H he rfl (by unfold sHp; dsimp only; rw [ho]; dsimp only; rw [if_pos rfl, hv]) k
theorem wp_putfield {ix o : Nat} {fs : List Value} {v : Value} (he : mE M pc = some (.putfield ix, ln, a1, a2)) (ho : h[o]? = some (.inr (a1, fs))) (hl : a2 < fs.length) (hf : sFit (sFt a1 a2) v = true) (k : sWp mt call M xs B (pc + 3, lv, st, h.set o (.inr (a1, fs.set a2 v)), cl, sl) Q) : sWp mt call M xs (B + 1) (pc, lv, v :: .ref o :: st, h, cl, sl) Q := wp_H he rfl (by unfold sHp; dsimp only; rw [ho]; exact if_pos ⟨rfl, hl, hf⟩) k
theorem wp_iaload {o : Nat} {w : List Value} {i : Int32} (he : mE M pc = some (.iaload, ln, a1, a2)) (ho : h[o]? = some (.inl (0, w))) (hi : sIn i w.length = true) (k : sWp mt call M xs B (pc + 1, lv, .int (iOf (w.getD i.toNatClampNeg .null)) :: st, h, cl, sl) Q) : sWp mt call M xs (B + 1) (pc, lv, .int i :: .ref o :: st, h, cl, sl) Q := wp_H he rfl (by unfold sHp; dsimp only; rw [ho]; exact if_pos hi) k
theorem wp_baload {o : Nat} {w : List Value} {i : Int32} (he : mE M pc = some (.baload, ln, a1, a2)) (ho : h[o]? = some (.inl (1, w))) (hi : sIn i w.length = true) (k : sWp mt call M xs B (pc + 1, lv, .int (iOf (w.getD i.toNatClampNeg .null)) :: st, h, cl, sl) Q) : sWp mt call M xs (B + 1) (pc, lv, .int i :: .ref o :: st, h, cl, sl) Q := wp_H he rfl (by unfold sHp; dsimp only; rw [ho]; exact if_pos hi) k
theorem wp_laload {o : Nat} {w : List Value} {i : Int32} (he : mE M pc = some (.laload, ln, a1, a2)) (ho : h[o]? = some (.inl (2, w))) (hi : sIn i w.length = true) (k : sWp mt call M xs B (pc + 1, lv, .long (lOf (w.getD i.toNatClampNeg .null)) :: st, h, cl, sl) Q) : sWp mt call M xs (B + 1) (pc, lv, .int i :: .ref o :: st, h, cl, sl) Q := wp_H he rfl (by unfold sHp; dsimp only; rw [ho]; exact if_pos hi) k
theorem wp_daload {o : Nat} {w : List Value} {i : Int32} (he : mE M pc = some (.daload, ln, a1, a2)) (ho : h[o]? = some (.inl (3, w))) (hi : sIn i w.length = true) (k : sWp mt call M xs B (pc + 1, lv, .double (dOf (w.getD i.toNatClampNeg .null)) :: st, h, cl, sl) Q) : sWp mt call M xs (B + 1) (pc, lv, .int i :: .ref o :: st, h, cl, sl) Q := wp_H he rfl (by unfold sHp; dsimp only; rw [ho]; exact if_pos hi) k
theorem wp_aaload {o t : Nat} {w : List Value} {i : Int32} (he : mE M pc = some (.aaload, ln, a1, a2)) (ho : h[o]? = some (.inl (t + 4, w))) (ht : t + 4 ∈ sTl) (hi : sIn i w.length = true) (k : sWp mt call M xs B (pc + 1, lv, rOf (w.getD i.toNatClampNeg .null) :: st, h, cl, sl) Q) : sWp mt call M xs (B + 1) (pc, lv, .int i :: .ref o :: st, h, cl, sl) Q := wp_H he rfl (by unfold sHp; dsimp only; rw [ho]; exact if_pos ⟨hi, ht⟩) k
theorem wp_sload {ys : List Int32} {b : Nat} {i x : Int32} (he : mE M pc = some (.iaload, ln, a1, a2)) (hi : sIn i ys.length = true) (hx : ys.getD i.toNatClampNeg 0 = x) (k : sWp mt call M (some ys) B (pc + 1, lv, .int x :: st, h, cl, sl) Q) : sWp mt call M (some ys) (B + 1) (pc, lv, .int i :: .retAddr b :: st, h, cl, sl) Q := wp_H he rfl (by rw [← hx]; unfold sHp; exact if_pos hi) k
theorem wp_slen {ys : List Int32} {b n : Nat} (he : mE M pc = some (.arraylength, ln, a1, a2)) (hn : ys.length = n) (k : sWp mt call M (some ys) B (pc + 1, lv, .int (Int32.ofNat n) :: st, h, cl, sl) Q) : sWp mt call M (some ys) (B + 1) (pc, lv, .retAddr b :: st, h, cl, sl) Q := wp_H he rfl (by rw [← hn]; rfl) k
theorem wp_iastore {o : Nat} {w : List Value} {i : Int32} {x : Int32} (he : mE M pc = some (.iastore, ln, a1, a2)) (ho : h[o]? = some (.inl (0, w))) (hi : sIn i w.length = true) (k : sWp mt call M xs B (pc + 1, lv, st, h.set o (.inl (0, w.set i.toNatClampNeg (.int x))), cl, sl) Q) : sWp mt call M xs (B + 1) (pc, lv, .int x :: .int i :: .ref o :: st, h, cl, sl) Q := wp_H he rfl (by unfold sHp; dsimp only; rw [ho]; exact if_pos hi) k
theorem wp_bastore {o : Nat} {w : List Value} {i : Int32} {x : Int32} (he : mE M pc = some (.bastore, ln, a1, a2)) (ho : h[o]? = some (.inl (1, w))) (hi : sIn i w.length = true ∧ (x = 0 ∨ x = 1)) (k : sWp mt call M xs B (pc + 1, lv, st, h.set o (.inl (1, w.set i.toNatClampNeg (.int x))), cl, sl) Q) : sWp mt call M xs (B + 1) (pc, lv, .int x :: .int i :: .ref o :: st, h, cl, sl) Q := wp_H he rfl (by unfold sHp; dsimp only; rw [ho]; exact if_pos hi) k
theorem wp_lastore {o : Nat} {w : List Value} {i : Int32} {x : Int64} (he : mE M pc = some (.lastore, ln, a1, a2)) (ho : h[o]? = some (.inl (2, w))) (hi : sIn i w.length = true) (k : sWp mt call M xs B (pc + 1, lv, st, h.set o (.inl (2, w.set i.toNatClampNeg (.long x))), cl, sl) Q) : sWp mt call M xs (B + 1) (pc, lv, .long x :: .int i :: .ref o :: st, h, cl, sl) Q := wp_H he rfl (by unfold sHp; dsimp only; rw [ho]; exact if_pos hi) k
theorem wp_dastore {o : Nat} {w : List Value} {i : Int32} {x : UInt64} (he : mE M pc = some (.dastore, ln, a1, a2)) (ho : h[o]? = some (.inl (3, w))) (hi : sIn i w.length = true) (k : sWp mt call M xs B (pc + 1, lv, st, h.set o (.inl (3, w.set i.toNatClampNeg (.double x))), cl, sl) Q) : sWp mt call M xs (B + 1) (pc, lv, .double x :: .int i :: .ref o :: st, h, cl, sl) Q := wp_H he rfl (by unfold sHp; dsimp only; rw [ho]; exact if_pos hi) k
theorem wp_alen {o n : Nat} {q : Nat × List Value} (he : mE M pc = some (.arraylength, ln, a1, a2)) (ho : h[o]? = some (.inl q)) (hi : q.1 ∈ sTl) (hn : q.2.length = n) (k : sWp mt call M xs B (pc + 1, lv, .int (Int32.ofNat n) :: st, h, cl, sl) Q) : sWp mt call M xs (B + 1) (pc, lv, .ref o :: st, h, cl, sl) Q := wp_H he rfl (by rw [← hn]; unfold sHp; dsimp only; rw [ho]; exact if_pos hi) k
theorem wp_hp {e : sE} {pc' : Nat} {lv' : sL} {st' : List Value} {h' : sH} (he : mE M pc = some e) (hP : sP (mL M) e.1 pc lv st = none) (hq : sHp xs e.1 e.2.2.1 e.2.2.2 pc lv st h = some (pc', lv', st', h')) (k : sWp mt call M xs B (pc', lv', st', h', cl, sl) Q) : sWp mt call M xs (B + 1) (pc, lv, st, h, cl, sl) Q := wp_H he hP hq k
theorem wp_math {ix : Nat} {q : Value × List Value} (he : mE M pc = some (.invokestatic ix, ln, a1, a2)) (h1 : 1000 ≤ a1) (hm : sMath a1 st = some q) (hc : sCat q.2 ≤ 8) (k : sWp mt call M xs B (pc + 3, lv, q.1 :: q.2, h, cl, sl) Q) : sWp mt call M xs (B + 1) (pc, lv, st, h, cl, sl) Q := wp_step (by
  unfold sStep; rw [he]; dsimp only
  rw [show sP (mL M) (.invokestatic ix) pc lv st = none from rfl]; dsimp only
  rw [show sHp xs (.invokestatic ix) a1 a2 pc lv st h = none from rfl]; dsimp only
  rw [show sRet (mR M) (.invokestatic ix) st = none from rfl]; dsimp only
  rw [if_pos h1, hm]; dsimp only; rw [if_pos hc]) k
theorem wp_throw {ix : Nat} (he : mE M pc = some (.new ix, ln, a1, a2)) (h1 : 1000 ≤ a1) (hc : cl + 1 ≤ mC M ∧ sl + 6 ≤ mS M ∧ sCat st ≤ 8) (k : Q (.inr (a1 - 1000), h)) : sWp mt call M xs (B + 1) (pc, lv, st, h, cl, sl) Q := wp_end (by
  unfold sStep; rw [he]; dsimp only
  rw [show sP (mL M) (.new ix) pc lv st = none from rfl]; dsimp only
  rw [show sHp xs (.new ix) a1 a2 pc lv st h = none from rfl]; dsimp only
  rw [show sRet (mR M) (.new ix) st = none from rfl]; dsimp only
  rw [if_pos h1]; exact if_pos hc) k
theorem wp_ret {e : sE} {v : Option Value} (he : mE M pc = some e) (hP : sP (mL M) e.1 pc lv st = none) (hH : sHp xs e.1 e.2.2.1 e.2.2.2 pc lv st h = none) (hr : sRet (mR M) e.1 st = some v) (k : Q (.inl v, h)) : sWp mt call M xs (B + 1) (pc, lv, st, h, cl, sl) Q := wp_end (by
  unfold sStep; rw [he]; dsimp only
  rw [hP]; dsimp only; rw [hH]; dsimp only; rw [hr]) k
theorem wp_ireturn {x : Int32} {ty : FieldType} (he : mE M pc = some (.ireturn, ln, a1, a2)) (hr : mR M = some ty) (hn : sNr ty x = true) (k : Q (.inl (some (.int x)), h)) : sWp mt call M xs (B + 1) (pc, lv, [.int x], h, cl, sl) Q := wp_ret he rfl rfl (by unfold sRet; dsimp only; rw [hr]; dsimp only; rw [if_pos hn]) k
theorem wp_lreturn {x : Int64} (he : mE M pc = some (.lreturn, ln, a1, a2)) (hr : mR M = some .long) (k : Q (.inl (some (.long x)), h)) : sWp mt call M xs (B + 1) (pc, lv, [.long x], h, cl, sl) Q := wp_ret he rfl rfl (by unfold sRet; dsimp only; rw [hr]) k
theorem wp_freturn {x : UInt32} (he : mE M pc = some (.freturn, ln, a1, a2)) (hr : mR M = some .float) (k : Q (.inl (some (.float x)), h)) : sWp mt call M xs (B + 1) (pc, lv, [.float x], h, cl, sl) Q := wp_ret he rfl rfl (by unfold sRet; dsimp only; rw [hr]) k
theorem wp_dreturn {x : UInt64} (he : mE M pc = some (.dreturn, ln, a1, a2)) (hr : mR M = some .double) (k : Q (.inl (some (.double x)), h)) : sWp mt call M xs (B + 1) (pc, lv, [.double x], h, cl, sl) Q := wp_ret he rfl rfl (by unfold sRet; dsimp only; rw [hr]) k
theorem wp_return (he : mE M pc = some (.return_, ln, a1, a2)) (hr : mR M = none) (k : Q (.inl none, h)) : sWp mt call M xs (B + 1) (pc, lv, [], h, cl, sl) Q := wp_ret he rfl rfl (by unfold sRet; dsimp only; rw [hr]) k
theorem wp_al {e : sE} {q : sK} (he : mE M pc = some e) (hP : sP (mL M) e.1 pc lv st = none) (hH : sHp xs e.1 e.2.2.1 e.2.2.2 pc lv st h = none) (hr : sRet (mR M) e.1 st = none) (h1 : ¬ 1000 ≤ e.2.2.1) (hi : sInv0 mt e.1 e.2.2.1 e.2.2.2 st h = none) (ha : sAl (mC M) (mS M) e.1 e.2.2.1 pc lv st h cl sl = some q) (k : sWp mt call M xs B q Q) : sWp mt call M xs (B + 1) (pc, lv, st, h, cl, sl) Q := wp_step (by
  unfold sStep; rw [he]; dsimp only
  rw [hP]; dsimp only; rw [hH]; dsimp only; rw [hr]; dsimp only; rw [if_neg h1, hi]; dsimp only; rw [ha]) k
end WP
section WC
variable {mt : Nat → sM} {F d : Nat} {M : sM} {xs : Option (List Int32)} {B cl sl pc a1 a2 ln : Nat} {Q : sR → Prop} {lv : sL} {st rest as : List Value} {h : sH}
theorem wp_inv {i : Instr} (he : mE M pc = some (i, ln, a1, a2)) (hlt : ¬ 1000 ≤ a1) (hP : sP (mL M) i pc lv st = none) (hH : sHp xs i a1 a2 pc lv st h = none) (hr : sRet (mR M) i st = none) (hi : sInv0 mt i a1 a2 st h = some (as, rest)) (hc : sCat rest ≤ 8 ∧ cl + mC (mt a1) ≤ mC M ∧ sl + mS (mt a1) ≤ mS M) (hcat : sCat as ≤ mL (mt a1))
    (k : sWp mt (sGo1 mt F d) (mt a1) none F (0, lv_args 0 as, [], h, 0, 0) (wK mt (sGo1 mt F (d + 1)) M xs B pc lv rest (cl + mC (mt a1)) (sl + mS (mt a1)) Q)) : sWp mt (sGo1 mt F (d + 1)) M xs (B + 1) (pc, lv, st, h, cl, sl) Q := by
  obtain ⟨r, hr2, k⟩ := k
  have k0 := k 0
  rw [Nat.zero_add] at k0
  have hg : sGo1 mt F (d + 1) a1 as h = some r := by rw [sGo1_s, if_pos hcat]; exact k0
  have hs0 : ∀ r0 : sR, sGo1 mt F (d + 1) a1 as h = some r0 → sStep mt (sGo1 mt F (d + 1)) M xs (pc, lv, st, h, cl, sl) = (match r0 with
      | (.inl v, h1) => some (.inl (pc + 3, lv, v.toList ++ rest, h1, cl + mC (mt a1), sl + mS (mt a1)))
      | (.inr E, h1) => (match mT M with
        | [] => some (.inr (.inr E, h1))
        | t :: ts => match sHd (mE M) E pc (t :: ts) with
          | some hp => if 6 ≤ E then none else sCk (mE M) lv h1 (cl + mC (mt a1)) (sl + mS (mt a1)) (mL M) hp
          | none => none)) := by
    intro r0 hg
    unfold sStep; rw [he]; dsimp only
    rw [hP]; dsimp only; rw [hH]; dsimp only; rw [hr]; dsimp only; rw [if_neg hlt, hi]; dsimp only; rw [if_pos hc, hg]
    rcases r0 with ⟨v | E, h1⟩ <;> rfl
  have hs := hs0 r hg
  rcases r with ⟨v | E, h1⟩
  · exact wp_step hs hr2
  · unfold wK at hr2
    dsimp only at hr2 hs
    split at hr2
    · next hT =>
      rw [hT] at hs
      exact wp_end hs hr2
    · next t ts hT =>
      obtain ⟨hp, k9, e1, e2, e3, e4⟩ := hr2
      rw [hT] at hs
      dsimp only at hs
      rw [e1] at hs
      dsimp only at hs
      rw [if_neg (Nat.not_le.mpr e2), e3] at hs
      exact wp_step hs e4
theorem wp_static {ix : Nat} (he : mE M pc = some (.invokestatic ix, ln, a1, a2)) (hlt : ¬ 1000 ≤ a1) (hn : mN (mt a1) ≤ st.length) (ha : sArgs (mN (mt a1)) st = as) (hre : st.drop (mN (mt a1)) = rest) (hc : sCat rest ≤ 8 ∧ cl + mC (mt a1) ≤ mC M ∧ sl + mS (mt a1) ≤ mS M) (hcat : sCat as ≤ mL (mt a1))
    (k : sWp mt (sGo1 mt F d) (mt a1) none F (0, lv_args 0 as, [], h, 0, 0) (wK mt (sGo1 mt F (d + 1)) M xs B pc lv rest (cl + mC (mt a1)) (sl + mS (mt a1)) Q)) : sWp mt (sGo1 mt F (d + 1)) M xs (B + 1) (pc, lv, st, h, cl, sl) Q :=
  wp_inv he hlt rfl rfl rfl (by unfold sInv0; dsimp only; rw [if_pos hn, ha, hre]) hc hcat k
theorem wp_virtual {ix o : Nat} {fs : List Value} (he : mE M pc = some (.invokevirtual ix, ln, a1, a2)) (hlt : ¬ 1000 ≤ a1) (hn : mN (mt a1) ≤ st.length) (ha : sArgs (mN (mt a1)) st = as) (hre : st.drop (mN (mt a1)) = .ref o :: rest) (ho : h[o]? = some (.inr (a2, fs))) (hc : sCat rest ≤ 8 ∧ cl + mC (mt a1) ≤ mC M ∧ sl + mS (mt a1) ≤ mS M) (hcat : sCat (.ref o :: as) ≤ mL (mt a1))
    (k : sWp mt (sGo1 mt F d) (mt a1) none F (0, lv_args 0 (.ref o :: as), [], h, 0, 0) (wK mt (sGo1 mt F (d + 1)) M xs B pc lv rest (cl + mC (mt a1)) (sl + mS (mt a1)) Q)) : sWp mt (sGo1 mt F (d + 1)) M xs (B + 1) (pc, lv, st, h, cl, sl) Q :=
  wp_inv he hlt rfl rfl rfl (by unfold sInv0; dsimp only; rw [if_pos hn, hre]; dsimp only; rw [ho]; dsimp only; rw [if_pos rfl, ha]) hc hcat k
theorem wp_special {ix o : Nat} (he : mE M pc = some (.invokespecial ix, ln, a1, a2)) (hlt : ¬ 1000 ≤ a1) (hn : mN (mt a1) ≤ st.length) (ha : sArgs (mN (mt a1)) st = as) (hre : st.drop (mN (mt a1)) = .ref o :: rest) (hc : sCat rest ≤ 8 ∧ cl + mC (mt a1) ≤ mC M ∧ sl + mS (mt a1) ≤ mS M) (hcat : sCat (.ref o :: as) ≤ mL (mt a1))
    (k : sWp mt (sGo1 mt F d) (mt a1) none F (0, lv_args 0 (.ref o :: as), [], h, 0, 0) (wK mt (sGo1 mt F (d + 1)) M xs B pc lv rest (cl + mC (mt a1)) (sl + mS (mt a1)) Q)) : sWp mt (sGo1 mt F (d + 1)) M xs (B + 1) (pc, lv, st, h, cl, sl) Q :=
  wp_inv he hlt rfl rfl rfl (by unfold sInv0; dsimp only; rw [if_pos hn, hre]; dsimp only; rw [ha]) hc hcat k
theorem wK_v {call : Nat → List Value → sH → Option sR} {v : Value} {h1 : sH} (k : sWp mt call M xs B (pc + 3, lv, v :: rest, h1, cl, sl) Q) : wK mt call M xs B pc lv rest cl sl Q (.inl (some v), h1) := k
theorem wK_n {call : Nat → List Value → sH → Option sR} {h1 : sH} (k : sWp mt call M xs B (pc + 3, lv, rest, h1, cl, sl) Q) : wK mt call M xs B pc lv rest cl sl Q (.inl none, h1) := k
theorem wK_x {call : Nat → List Value → sH → Option sR} {E : Nat} {h1 : sH} (hT : mT M = []) (k : Q (.inr E, h1)) : wK mt call M xs B pc lv rest cl sl Q (.inr E, h1) := by
  unfold wK; dsimp only; rw [hT]; exact k
theorem wK_c {call : Nat → List Value → sH → Option sR} {E hp : Nat} {h1 : sH} {t : Nat × Nat × Nat × Nat} {ts : sT} {c : sK} (hT : mT M = t :: ts) (hh : sHd (mE M) E pc (t :: ts) = some hp) (hE : E < 6) (hk : sCk (mE M) lv h1 cl sl (mL M) hp = some (.inl c)) (k : sWp mt call M xs B c Q) : wK mt call M xs B pc lv rest cl sl Q (.inr E, h1) := by
  unfold wK; dsimp only; rw [hT]; exact ⟨hp, c, hh, hE, hk, k⟩
end WC
