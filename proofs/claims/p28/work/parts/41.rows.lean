/-! part 41: rows of the partial reading (printed by wip/q/mk41.py) -/
def sNi (i : Instr) : Bool := match i with
  | .new _ => false
  | .invokespecial _ => false
  | .invokestatic _ => false
  | _ => true
section QR
variable {K N pc a1 a2 ln : Nat} {Q : sR → Prop} {lv : sL} {st : List Value} {h : sH} {I : Nat → Nat → Int32} {L : Nat → Nat → Int64} {R : Nat → Nat}
theorem q_step1 (hs : ∀ D cl sl z, sStep mtv (sGo1 mtv eFu D) (mtv K) none (pc, lv, st, h, cl, sl) = some z → match z with
    | .inl q => ∀ n r, n < N → sRun mtv (sGo1 mtv eFu D) (mtv K) none n q = some r → Q r
    | .inr r => Q r) : qW K (N + 1) pc lv st h Q := by
  intro n D cl sl r hn hr
  cases n with
  | zero => cases hr
  | succ n =>
    rw [sRun_s] at hr
    cases g : sStep mtv (sGo1 mtv eFu D) (mtv K) none (pc, lv, st, h, cl, sl) with
    | none => rw [g] at hr; cases hr
    | some z =>
      have h1 := hs D cl sl z g
      rw [g] at hr
      cases z with
      | inl q => exact h1 n r (by omega) hr
      | inr r' => cases hr; exact h1
theorem q_P1 {e : sE} {pc' : Nat} {lv' : sL} {st' : List Value} (he : mE (mtv K) pc = some e) (hq : sP (mL (mtv K)) e.1 pc lv st = some (pc', lv', st')) (k : qW K N pc' lv' st' h Q) : qW K (N + 1) pc lv st h Q := q_step1 (fun D cl sl z hz => by
  rw [sStep_P (cf := (pc, lv, st, h, cl, sl)) he hq] at hz
  cases hz
  exact fun n r hn hr => k n D cl sl r hn hr)
theorem q_P {e : sE} {pc' : Nat} {lv' : sL} {st' : List Value} (he : mE (mtv K) pc = some e) (hq : sP (mL (mtv K)) e.1 pc lv st = some (pc', lv', st')) (k : qW K N pc' lv' st' h Q) : qW K N pc lv st h Q := qW_le (Nat.le_succ N) (q_P1 he hq k)
/-- an instruction of the heap -/
theorem q_H {e : sE} (he : mE (mtv K) pc = some e) (hP : sP (mL (mtv K)) e.1 pc lv st = none) (hH : ∀ z, sHp none e.1 e.2.2.1 e.2.2.2 pc lv st h = some z → qW K N z.1 z.2.1 z.2.2.1 z.2.2.2 Q) (hN : sHp none e.1 e.2.2.1 e.2.2.2 pc lv st h = none → ∀ D cl sl, sStep mtv (sGo1 mtv eFu D) (mtv K) none (pc, lv, st, h, cl, sl) = none) : qW K N pc lv st h Q := qW_le (Nat.le_succ N) (q_step1 (fun D cl sl z hz => by
  cases g : sHp none e.1 e.2.2.1 e.2.2.2 pc lv st h with
  | none => rw [hN g D cl sl] at hz; cases hz
  | some y =>
    have h1 := hH y g
    unfold sStep at hz
    rw [he] at hz; dsimp only at hz
    rw [hP] at hz; dsimp only at hz
    rw [g] at hz
    cases hz
    exact fun n r hn hr => h1 n D cl sl r hn hr))

theorem q_iload {i : Nat} {x : Int32} (he : mE (mtv K) pc = some (.iload i, ln, a1, a2)) (hv : sLk i lv = some (.int x)) (k : qW K N (pc + 2) lv (.int x :: st) h Q) : qW K N pc lv st h Q := q_P he (by show sLdI _ _ _ _ = _; unfold sLdI; rw [hv]) k
theorem q1_iload {i : Nat} {x : Int32} (he : mE (mtv K) pc = some (.iload i, ln, a1, a2)) (hv : sLk i lv = some (.int x)) (k : qW K N (pc + 2) lv (.int x :: st) h Q) : qW K (N + 1) pc lv st h Q := q_P1 he (by show sLdI _ _ _ _ = _; unfold sLdI; rw [hv]) k
theorem q_iload_n {i : Fin 4} {x : Int32} (he : mE (mtv K) pc = some (.iload_n i, ln, a1, a2)) (hv : sLk i lv = some (.int x)) (k : qW K N (pc + 1) lv (.int x :: st) h Q) : qW K N pc lv st h Q := q_P he (by show sLdI _ _ _ _ = _; unfold sLdI; rw [hv]) k
theorem q1_iload_n {i : Fin 4} {x : Int32} (he : mE (mtv K) pc = some (.iload_n i, ln, a1, a2)) (hv : sLk i lv = some (.int x)) (k : qW K N (pc + 1) lv (.int x :: st) h Q) : qW K (N + 1) pc lv st h Q := q_P1 he (by show sLdI _ _ _ _ = _; unfold sLdI; rw [hv]) k
theorem q_lload {i : Nat} {x : Int64} (he : mE (mtv K) pc = some (.lload i, ln, a1, a2)) (hv : sLk i lv = some (.long x)) (k : qW K N (pc + 2) lv (.long x :: st) h Q) : qW K N pc lv st h Q := q_P he (by show sLdL _ _ _ _ = _; unfold sLdL; rw [hv]) k
theorem q1_lload {i : Nat} {x : Int64} (he : mE (mtv K) pc = some (.lload i, ln, a1, a2)) (hv : sLk i lv = some (.long x)) (k : qW K N (pc + 2) lv (.long x :: st) h Q) : qW K (N + 1) pc lv st h Q := q_P1 he (by show sLdL _ _ _ _ = _; unfold sLdL; rw [hv]) k
theorem q_lload_n {i : Fin 4} {x : Int64} (he : mE (mtv K) pc = some (.lload_n i, ln, a1, a2)) (hv : sLk i lv = some (.long x)) (k : qW K N (pc + 1) lv (.long x :: st) h Q) : qW K N pc lv st h Q := q_P he (by show sLdL _ _ _ _ = _; unfold sLdL; rw [hv]) k
theorem q1_lload_n {i : Fin 4} {x : Int64} (he : mE (mtv K) pc = some (.lload_n i, ln, a1, a2)) (hv : sLk i lv = some (.long x)) (k : qW K N (pc + 1) lv (.long x :: st) h Q) : qW K (N + 1) pc lv st h Q := q_P1 he (by show sLdL _ _ _ _ = _; unfold sLdL; rw [hv]) k
theorem q_fload {i : Nat} {x : UInt32} (he : mE (mtv K) pc = some (.fload i, ln, a1, a2)) (hv : sLk i lv = some (.float x)) (k : qW K N (pc + 2) lv (.float x :: st) h Q) : qW K N pc lv st h Q := q_P he (by show sLdF _ _ _ _ = _; unfold sLdF; rw [hv]) k
theorem q1_fload {i : Nat} {x : UInt32} (he : mE (mtv K) pc = some (.fload i, ln, a1, a2)) (hv : sLk i lv = some (.float x)) (k : qW K N (pc + 2) lv (.float x :: st) h Q) : qW K (N + 1) pc lv st h Q := q_P1 he (by show sLdF _ _ _ _ = _; unfold sLdF; rw [hv]) k
theorem q_fload_n {i : Fin 4} {x : UInt32} (he : mE (mtv K) pc = some (.fload_n i, ln, a1, a2)) (hv : sLk i lv = some (.float x)) (k : qW K N (pc + 1) lv (.float x :: st) h Q) : qW K N pc lv st h Q := q_P he (by show sLdF _ _ _ _ = _; unfold sLdF; rw [hv]) k
theorem q1_fload_n {i : Fin 4} {x : UInt32} (he : mE (mtv K) pc = some (.fload_n i, ln, a1, a2)) (hv : sLk i lv = some (.float x)) (k : qW K N (pc + 1) lv (.float x :: st) h Q) : qW K (N + 1) pc lv st h Q := q_P1 he (by show sLdF _ _ _ _ = _; unfold sLdF; rw [hv]) k
theorem q_dload {i : Nat} {x : UInt64} (he : mE (mtv K) pc = some (.dload i, ln, a1, a2)) (hv : sLk i lv = some (.double x)) (k : qW K N (pc + 2) lv (.double x :: st) h Q) : qW K N pc lv st h Q := q_P he (by show sLdD _ _ _ _ = _; unfold sLdD; rw [hv]) k
theorem q1_dload {i : Nat} {x : UInt64} (he : mE (mtv K) pc = some (.dload i, ln, a1, a2)) (hv : sLk i lv = some (.double x)) (k : qW K N (pc + 2) lv (.double x :: st) h Q) : qW K (N + 1) pc lv st h Q := q_P1 he (by show sLdD _ _ _ _ = _; unfold sLdD; rw [hv]) k
theorem q_dload_n {i : Fin 4} {x : UInt64} (he : mE (mtv K) pc = some (.dload_n i, ln, a1, a2)) (hv : sLk i lv = some (.double x)) (k : qW K N (pc + 1) lv (.double x :: st) h Q) : qW K N pc lv st h Q := q_P he (by show sLdD _ _ _ _ = _; unfold sLdD; rw [hv]) k
theorem q1_dload_n {i : Fin 4} {x : UInt64} (he : mE (mtv K) pc = some (.dload_n i, ln, a1, a2)) (hv : sLk i lv = some (.double x)) (k : qW K N (pc + 1) lv (.double x :: st) h Q) : qW K (N + 1) pc lv st h Q := q_P1 he (by show sLdD _ _ _ _ = _; unfold sLdD; rw [hv]) k
theorem q_aload {i : Nat} {x : Nat} (he : mE (mtv K) pc = some (.aload i, ln, a1, a2)) (hv : sLk i lv = some (.ref x)) (k : qW K N (pc + 2) lv (.ref x :: st) h Q) : qW K N pc lv st h Q := q_P he (by show sLdA _ _ _ _ = _; unfold sLdA; rw [hv]) k
theorem q1_aload {i : Nat} {x : Nat} (he : mE (mtv K) pc = some (.aload i, ln, a1, a2)) (hv : sLk i lv = some (.ref x)) (k : qW K N (pc + 2) lv (.ref x :: st) h Q) : qW K (N + 1) pc lv st h Q := q_P1 he (by show sLdA _ _ _ _ = _; unfold sLdA; rw [hv]) k
theorem q_aload_n {i : Fin 4} {x : Nat} (he : mE (mtv K) pc = some (.aload_n i, ln, a1, a2)) (hv : sLk i lv = some (.ref x)) (k : qW K N (pc + 1) lv (.ref x :: st) h Q) : qW K N pc lv st h Q := q_P he (by show sLdA _ _ _ _ = _; unfold sLdA; rw [hv]) k
theorem q1_aload_n {i : Fin 4} {x : Nat} (he : mE (mtv K) pc = some (.aload_n i, ln, a1, a2)) (hv : sLk i lv = some (.ref x)) (k : qW K N (pc + 1) lv (.ref x :: st) h Q) : qW K (N + 1) pc lv st h Q := q_P1 he (by show sLdA _ _ _ _ = _; unfold sLdA; rw [hv]) k
theorem q_istore {i : Nat} {x : Int32} {A : List (Option Value)} (he : mE (mtv K) pc = some (.istore i, ln, a1, a2)) (hi : (i : Nat) < mL (mtv K)) (hl : qLs lv A) (k : ∀ lv', qLs lv' (qSt i (.int x) A) → qW K N (pc + 2) lv' st h Q) : qW K N pc lv (.int x :: st) h Q := q_P he (by unfold sP sStI; exact if_pos hi) (k _ (qLs_s1 hl))
theorem q_istore_n {i : Fin 4} {x : Int32} {A : List (Option Value)} (he : mE (mtv K) pc = some (.istore_n i, ln, a1, a2)) (hi : (i : Nat) < mL (mtv K)) (hl : qLs lv A) (k : ∀ lv', qLs lv' (qSt i (.int x) A) → qW K N (pc + 1) lv' st h Q) : qW K N pc lv (.int x :: st) h Q := q_P he (by unfold sP sStI; exact if_pos hi) (k _ (qLs_s1 hl))
theorem q_fstore {i : Nat} {x : UInt32} {A : List (Option Value)} (he : mE (mtv K) pc = some (.fstore i, ln, a1, a2)) (hi : (i : Nat) < mL (mtv K)) (hl : qLs lv A) (k : ∀ lv', qLs lv' (qSt i (.float x) A) → qW K N (pc + 2) lv' st h Q) : qW K N pc lv (.float x :: st) h Q := q_P he (by unfold sP sStF; exact if_pos hi) (k _ (qLs_s1 hl))
theorem q_fstore_n {i : Fin 4} {x : UInt32} {A : List (Option Value)} (he : mE (mtv K) pc = some (.fstore_n i, ln, a1, a2)) (hi : (i : Nat) < mL (mtv K)) (hl : qLs lv A) (k : ∀ lv', qLs lv' (qSt i (.float x) A) → qW K N (pc + 1) lv' st h Q) : qW K N pc lv (.float x :: st) h Q := q_P he (by unfold sP sStF; exact if_pos hi) (k _ (qLs_s1 hl))
theorem q_astore {i : Nat} {x : Nat} {A : List (Option Value)} (he : mE (mtv K) pc = some (.astore i, ln, a1, a2)) (hi : (i : Nat) < mL (mtv K)) (hl : qLs lv A) (k : ∀ lv', qLs lv' (qSt i (.ref x) A) → qW K N (pc + 2) lv' st h Q) : qW K N pc lv (.ref x :: st) h Q := q_P he (by unfold sP sStA; exact if_pos hi) (k _ (qLs_s1 hl))
theorem q_astore_n {i : Fin 4} {x : Nat} {A : List (Option Value)} (he : mE (mtv K) pc = some (.astore_n i, ln, a1, a2)) (hi : (i : Nat) < mL (mtv K)) (hl : qLs lv A) (k : ∀ lv', qLs lv' (qSt i (.ref x) A) → qW K N (pc + 1) lv' st h Q) : qW K N pc lv (.ref x :: st) h Q := q_P he (by unfold sP sStA; exact if_pos hi) (k _ (qLs_s1 hl))
theorem q_lstore {i : Nat} {x : Int64} {A : List (Option Value)} (he : mE (mtv K) pc = some (.lstore i, ln, a1, a2)) (hi : (i : Nat) + 1 < mL (mtv K)) (hl : qLs lv A) (k : ∀ lv', qLs lv' (qSt2 i (.long x) A) → qW K N (pc + 2) lv' st h Q) : qW K N pc lv (.long x :: st) h Q := q_P he (by unfold sP sStL; exact if_pos hi) (k _ (qLs_s2 hl))
theorem q_lstore_n {i : Fin 4} {x : Int64} {A : List (Option Value)} (he : mE (mtv K) pc = some (.lstore_n i, ln, a1, a2)) (hi : (i : Nat) + 1 < mL (mtv K)) (hl : qLs lv A) (k : ∀ lv', qLs lv' (qSt2 i (.long x) A) → qW K N (pc + 1) lv' st h Q) : qW K N pc lv (.long x :: st) h Q := q_P he (by unfold sP sStL; exact if_pos hi) (k _ (qLs_s2 hl))
theorem q_dstore {i : Nat} {x : UInt64} {A : List (Option Value)} (he : mE (mtv K) pc = some (.dstore i, ln, a1, a2)) (hi : (i : Nat) + 1 < mL (mtv K)) (hl : qLs lv A) (k : ∀ lv', qLs lv' (qSt2 i (.double x) A) → qW K N (pc + 2) lv' st h Q) : qW K N pc lv (.double x :: st) h Q := q_P he (by unfold sP sStD; exact if_pos hi) (k _ (qLs_s2 hl))
theorem q_dstore_n {i : Fin 4} {x : UInt64} {A : List (Option Value)} (he : mE (mtv K) pc = some (.dstore_n i, ln, a1, a2)) (hi : (i : Nat) + 1 < mL (mtv K)) (hl : qLs lv A) (k : ∀ lv', qLs lv' (qSt2 i (.double x) A) → qW K N (pc + 1) lv' st h Q) : qW K N pc lv (.double x :: st) h Q := q_P he (by unfold sP sStD; exact if_pos hi) (k _ (qLs_s2 hl))
theorem q_iinc {i : Nat} {n : Int} {x y : Int32} {A : List (Option Value)} (he : mE (mtv K) pc = some (.iinc i n, ln, a1, a2)) (hi : i < mL (mtv K)) (hl : qLs lv A) (hv : sLk i lv = some (.int x)) (hy : Int32.ofInt n = y) (k : ∀ lv', qLs lv' (qSt i (.int (x + y)) A) → qW K N (pc + 3) lv' st h Q) : qW K N pc lv st h Q := q_P he (by subst hy; unfold sP; dsimp only; rw [hv]; exact if_pos hi) (k _ (qLs_s1 hl))
theorem q_iconst {n : Int} {x : Int32} (he : mE (mtv K) pc = some (.iconst n, ln, a1, a2)) (hx : Int32.ofInt n = x) (k : qW K N (pc + 1) lv (.int x :: st) h Q) : qW K N pc lv st h Q := q_P he (by subst hx; rfl) k
theorem q_bipush {n : Int} {x : Int32} (he : mE (mtv K) pc = some (.bipush n, ln, a1, a2)) (hx : (Int8.ofInt n).toInt32 = x) (k : qW K N (pc + 2) lv (.int x :: st) h Q) : qW K N pc lv st h Q := q_P he (by subst hx; rfl) k
theorem q_sipush {n : Int} {x : Int32} (he : mE (mtv K) pc = some (.sipush n, ln, a1, a2)) (hx : (Int16.ofInt n).toInt32 = x) (k : qW K N (pc + 3) lv (.int x :: st) h Q) : qW K N pc lv st h Q := q_P he (by subst hx; rfl) k
theorem q_lconst {n : Fin 2} {x : Int64} (he : mE (mtv K) pc = some (.lconst n, ln, a1, a2)) (hx : Int64.ofNat (n : Nat) = x) (k : qW K N (pc + 1) lv (.long x :: st) h Q) : qW K N pc lv st h Q := q_P he (by subst hx; rfl) k
theorem q_fconst (he : mE (mtv K) pc = some (.fconst 0, ln, a1, a2)) (k : qW K N (pc + 1) lv (.float FP.fconst0 :: st) h Q) : qW K N pc lv st h Q := q_P he rfl k
theorem q_dconst (he : mE (mtv K) pc = some (.dconst 0, ln, a1, a2)) (k : qW K N (pc + 1) lv (.double FP.dconst0 :: st) h Q) : qW K N pc lv st h Q := q_P he rfl k
theorem q_goto {off : Int} {t : Nat} (he : mE (mtv K) pc = some (.goto off, ln, a1, a2)) (ht : sTg pc off = some t) (k : qW K N t lv st h Q) : qW K N pc lv st h Q := q_P he (by unfold sP; dsimp only; rw [ht]) k
theorem q_iadd {x y : Int32} (he : mE (mtv K) pc = some (.iadd, ln, a1, a2)) (k : qW K N (pc + 1) lv (.int (x + y) :: st) h Q) : qW K N pc lv (.int y :: .int x :: st) h Q := q_P he rfl k
theorem q_isub {x y : Int32} (he : mE (mtv K) pc = some (.isub, ln, a1, a2)) (k : qW K N (pc + 1) lv (.int (x - y) :: st) h Q) : qW K N pc lv (.int y :: .int x :: st) h Q := q_P he rfl k
theorem q_imul {x y : Int32} (he : mE (mtv K) pc = some (.imul, ln, a1, a2)) (k : qW K N (pc + 1) lv (.int (x * y) :: st) h Q) : qW K N pc lv (.int y :: .int x :: st) h Q := q_P he rfl k
theorem q_iand {x y : Int32} (he : mE (mtv K) pc = some (.iand, ln, a1, a2)) (k : qW K N (pc + 1) lv (.int (x &&& y) :: st) h Q) : qW K N pc lv (.int y :: .int x :: st) h Q := q_P he rfl k
theorem q_ior {x y : Int32} (he : mE (mtv K) pc = some (.ior, ln, a1, a2)) (k : qW K N (pc + 1) lv (.int (x ||| y) :: st) h Q) : qW K N pc lv (.int y :: .int x :: st) h Q := q_P he rfl k
theorem q_ixor {x y : Int32} (he : mE (mtv K) pc = some (.ixor, ln, a1, a2)) (k : qW K N (pc + 1) lv (.int (x ^^^ y) :: st) h Q) : qW K N pc lv (.int y :: .int x :: st) h Q := q_P he rfl k
theorem q_ishl {x y : Int32} (he : mE (mtv K) pc = some (.ishl, ln, a1, a2)) (k : qW K N (pc + 1) lv (.int (x <<< (y &&& 31)) :: st) h Q) : qW K N pc lv (.int y :: .int x :: st) h Q := q_P he rfl k
theorem q_ishr {x y : Int32} (he : mE (mtv K) pc = some (.ishr, ln, a1, a2)) (k : qW K N (pc + 1) lv (.int (x >>> (y &&& 31)) :: st) h Q) : qW K N pc lv (.int y :: .int x :: st) h Q := q_P he rfl k
theorem q_iushr {x y : Int32} (he : mE (mtv K) pc = some (.iushr, ln, a1, a2)) (k : qW K N (pc + 1) lv (.int ((x.toUInt32 >>> (y.toUInt32 &&& Int32.toUInt32 31)).toInt32) :: st) h Q) : qW K N pc lv (.int y :: .int x :: st) h Q := q_P he rfl k
theorem q_ladd {x y : Int64} (he : mE (mtv K) pc = some (.ladd, ln, a1, a2)) (k : qW K N (pc + 1) lv (.long (x + y) :: st) h Q) : qW K N pc lv (.long y :: .long x :: st) h Q := q_P he rfl k
theorem q_lsub {x y : Int64} (he : mE (mtv K) pc = some (.lsub, ln, a1, a2)) (k : qW K N (pc + 1) lv (.long (x - y) :: st) h Q) : qW K N pc lv (.long y :: .long x :: st) h Q := q_P he rfl k
theorem q_lmul {x y : Int64} (he : mE (mtv K) pc = some (.lmul, ln, a1, a2)) (k : qW K N (pc + 1) lv (.long (x * y) :: st) h Q) : qW K N pc lv (.long y :: .long x :: st) h Q := q_P he rfl k
theorem q_land {x y : Int64} (he : mE (mtv K) pc = some (.land, ln, a1, a2)) (k : qW K N (pc + 1) lv (.long (x &&& y) :: st) h Q) : qW K N pc lv (.long y :: .long x :: st) h Q := q_P he rfl k
theorem q_lor {x y : Int64} (he : mE (mtv K) pc = some (.lor, ln, a1, a2)) (k : qW K N (pc + 1) lv (.long (x ||| y) :: st) h Q) : qW K N pc lv (.long y :: .long x :: st) h Q := q_P he rfl k
theorem q_lxor {x y : Int64} (he : mE (mtv K) pc = some (.lxor, ln, a1, a2)) (k : qW K N (pc + 1) lv (.long (x ^^^ y) :: st) h Q) : qW K N pc lv (.long y :: .long x :: st) h Q := q_P he rfl k
theorem q_lshl {x : Int64} {y : Int32} (he : mE (mtv K) pc = some (.lshl, ln, a1, a2)) (k : qW K N (pc + 1) lv (.long (x <<< (y.toInt64 &&& 63)) :: st) h Q) : qW K N pc lv (.int y :: .long x :: st) h Q := q_P he rfl k
theorem q_lshr {x : Int64} {y : Int32} (he : mE (mtv K) pc = some (.lshr, ln, a1, a2)) (k : qW K N (pc + 1) lv (.long (x >>> (y.toInt64 &&& 63)) :: st) h Q) : qW K N pc lv (.int y :: .long x :: st) h Q := q_P he rfl k
theorem q_lushr {x : Int64} {y : Int32} (he : mE (mtv K) pc = some (.lushr, ln, a1, a2)) (k : qW K N (pc + 1) lv (.long ((x.toUInt64 >>> (y.toInt64.toUInt64 &&& Int64.toUInt64 63)).toInt64) :: st) h Q) : qW K N pc lv (.int y :: .long x :: st) h Q := q_P he rfl k
theorem q_lcmp {x y : Int64} (he : mE (mtv K) pc = some (.lcmp, ln, a1, a2)) (k : qW K N (pc + 1) lv (.int (lg_cmp x y) :: st) h Q) : qW K N pc lv (.long y :: .long x :: st) h Q := q_P he rfl k
theorem q_i2l {x : Int32} (he : mE (mtv K) pc = some (.i2l, ln, a1, a2)) (k : qW K N (pc + 1) lv (.long x.toInt64 :: st) h Q) : qW K N pc lv (.int x :: st) h Q := q_P he rfl k
theorem q_l2i {x : Int64} (he : mE (mtv K) pc = some (.l2i, ln, a1, a2)) (k : qW K N (pc + 1) lv (.int x.toInt32 :: st) h Q) : qW K N pc lv (.long x :: st) h Q := q_P he rfl k
theorem q_i2f {x : Int32} (he : mE (mtv K) pc = some (.i2f, ln, a1, a2)) (k : qW K N (pc + 1) lv (.float (FP.i2f x) :: st) h Q) : qW K N pc lv (.int x :: st) h Q := q_P he rfl k
theorem q_i2d {x : Int32} (he : mE (mtv K) pc = some (.i2d, ln, a1, a2)) (k : qW K N (pc + 1) lv (.double (FP.i2d x) :: st) h Q) : qW K N pc lv (.int x :: st) h Q := q_P he rfl k
theorem q_ineg {x : Int32} (he : mE (mtv K) pc = some (.ineg, ln, a1, a2)) (k : qW K N (pc + 1) lv (.int (-x) :: st) h Q) : qW K N pc lv (.int x :: st) h Q := q_P he rfl k
theorem q_dupI {x : Int32} (he : mE (mtv K) pc = some (.dup, ln, a1, a2)) (k : qW K N (pc + 1) lv (.int x :: .int x :: st) h Q) : qW K N pc lv (.int x :: st) h Q := q_P he rfl k
theorem q_dupR {x : Nat} (he : mE (mtv K) pc = some (.dup, ln, a1, a2)) (k : qW K N (pc + 1) lv (.ref x :: .ref x :: st) h Q) : qW K N pc lv (.ref x :: st) h Q := q_P he rfl k
theorem q_dup2 {x : Nat} {z : Int32} (he : mE (mtv K) pc = some (.dup2, ln, a1, a2)) (k : qW K N (pc + 1) lv (.int z :: .ref x :: .int z :: .ref x :: st) h Q) : qW K N pc lv (.int z :: .ref x :: st) h Q := q_P he rfl k
theorem q_popI {x : Int32} (he : mE (mtv K) pc = some (.pop, ln, a1, a2)) (k : qW K N (pc + 1) lv st h Q) : qW K N pc lv (.int x :: st) h Q := q_P he rfl k
theorem q_popL {x : Int64} (he : mE (mtv K) pc = some (.pop2, ln, a1, a2)) (k : qW K N (pc + 1) lv st h Q) : qW K N pc lv (.long x :: st) h Q := q_P he rfl k
theorem q_if_eq {off : Int} {t : Nat} {x : Int32} (he : mE (mtv K) pc = some (.ifCond .eq off, ln, a1, a2)) (ht : sTg pc off = some t) (k1 : x = 0 → qW K N t lv st h Q) (k2 : ¬ x = 0 → qW K N (pc + 3) lv st h Q) : qW K N pc lv (.int x :: st) h Q := by
  by_cases hc : x = 0
  · exact q_P he (by unfold sP sIf; dsimp only; rw [ht]; exact congrArg (fun b => some (cond b t (pc + 3), lv, st)) (decide_eq_true hc)) (k1 hc)
  · exact q_P he (by unfold sP sIf; dsimp only; rw [ht]; exact congrArg (fun b => some (cond b t (pc + 3), lv, st)) (decide_eq_false hc)) (k2 hc)
theorem q_if_ne {off : Int} {t : Nat} {x : Int32} (he : mE (mtv K) pc = some (.ifCond .ne off, ln, a1, a2)) (ht : sTg pc off = some t) (k1 : ¬ x = 0 → qW K N t lv st h Q) (k2 : x = 0 → qW K N (pc + 3) lv st h Q) : qW K N pc lv (.int x :: st) h Q := by
  by_cases hc : x = 0
  · exact q_P he (by unfold sP sIf; dsimp only; rw [ht]; exact congrArg (fun b => some (cond b t (pc + 3), lv, st)) (decide_eq_false (fun e => e hc))) (k2 hc)
  · exact q_P he (by unfold sP sIf; dsimp only; rw [ht]; exact congrArg (fun b => some (cond b t (pc + 3), lv, st)) (decide_eq_true hc)) (k1 hc)
theorem q_if_lt {off : Int} {t : Nat} {x : Int32} (he : mE (mtv K) pc = some (.ifCond .lt off, ln, a1, a2)) (ht : sTg pc off = some t) (k1 : x < 0 → qW K N t lv st h Q) (k2 : ¬ x < 0 → qW K N (pc + 3) lv st h Q) : qW K N pc lv (.int x :: st) h Q := by
  by_cases hc : x < 0
  · exact q_P he (by unfold sP sIf; dsimp only; rw [ht]; exact congrArg (fun b => some (cond b t (pc + 3), lv, st)) (decide_eq_true hc)) (k1 hc)
  · exact q_P he (by unfold sP sIf; dsimp only; rw [ht]; exact congrArg (fun b => some (cond b t (pc + 3), lv, st)) (decide_eq_false hc)) (k2 hc)
theorem q_if_ge {off : Int} {t : Nat} {x : Int32} (he : mE (mtv K) pc = some (.ifCond .ge off, ln, a1, a2)) (ht : sTg pc off = some t) (k1 : 0 ≤ x → qW K N t lv st h Q) (k2 : ¬ 0 ≤ x → qW K N (pc + 3) lv st h Q) : qW K N pc lv (.int x :: st) h Q := by
  by_cases hc : 0 ≤ x
  · exact q_P he (by unfold sP sIf; dsimp only; rw [ht]; exact congrArg (fun b => some (cond b t (pc + 3), lv, st)) (decide_eq_true hc)) (k1 hc)
  · exact q_P he (by unfold sP sIf; dsimp only; rw [ht]; exact congrArg (fun b => some (cond b t (pc + 3), lv, st)) (decide_eq_false hc)) (k2 hc)
theorem q_if_gt {off : Int} {t : Nat} {x : Int32} (he : mE (mtv K) pc = some (.ifCond .gt off, ln, a1, a2)) (ht : sTg pc off = some t) (k1 : 0 < x → qW K N t lv st h Q) (k2 : ¬ 0 < x → qW K N (pc + 3) lv st h Q) : qW K N pc lv (.int x :: st) h Q := by
  by_cases hc : 0 < x
  · exact q_P he (by unfold sP sIf; dsimp only; rw [ht]; exact congrArg (fun b => some (cond b t (pc + 3), lv, st)) (decide_eq_true hc)) (k1 hc)
  · exact q_P he (by unfold sP sIf; dsimp only; rw [ht]; exact congrArg (fun b => some (cond b t (pc + 3), lv, st)) (decide_eq_false hc)) (k2 hc)
theorem q_if_le {off : Int} {t : Nat} {x : Int32} (he : mE (mtv K) pc = some (.ifCond .le off, ln, a1, a2)) (ht : sTg pc off = some t) (k1 : x ≤ 0 → qW K N t lv st h Q) (k2 : ¬ x ≤ 0 → qW K N (pc + 3) lv st h Q) : qW K N pc lv (.int x :: st) h Q := by
  by_cases hc : x ≤ 0
  · exact q_P he (by unfold sP sIf; dsimp only; rw [ht]; exact congrArg (fun b => some (cond b t (pc + 3), lv, st)) (decide_eq_true hc)) (k1 hc)
  · exact q_P he (by unfold sP sIf; dsimp only; rw [ht]; exact congrArg (fun b => some (cond b t (pc + 3), lv, st)) (decide_eq_false hc)) (k2 hc)
theorem q_ic_eq {off : Int} {t : Nat} {x y : Int32} (he : mE (mtv K) pc = some (.if_icmp .eq off, ln, a1, a2)) (ht : sTg pc off = some t) (k1 : x = y → qW K N t lv st h Q) (k2 : ¬ x = y → qW K N (pc + 3) lv st h Q) : qW K N pc lv (.int y :: .int x :: st) h Q := by
  by_cases hc : x = y
  · exact q_P he (by unfold sP sIc; dsimp only; rw [ht]; exact congrArg (fun b => some (cond b t (pc + 3), lv, st)) (decide_eq_true hc)) (k1 hc)
  · exact q_P he (by unfold sP sIc; dsimp only; rw [ht]; exact congrArg (fun b => some (cond b t (pc + 3), lv, st)) (decide_eq_false hc)) (k2 hc)
theorem q_ic_ne {off : Int} {t : Nat} {x y : Int32} (he : mE (mtv K) pc = some (.if_icmp .ne off, ln, a1, a2)) (ht : sTg pc off = some t) (k1 : ¬ x = y → qW K N t lv st h Q) (k2 : x = y → qW K N (pc + 3) lv st h Q) : qW K N pc lv (.int y :: .int x :: st) h Q := by
  by_cases hc : x = y
  · exact q_P he (by unfold sP sIc; dsimp only; rw [ht]; exact congrArg (fun b => some (cond b t (pc + 3), lv, st)) (decide_eq_false (fun e => e hc))) (k2 hc)
  · exact q_P he (by unfold sP sIc; dsimp only; rw [ht]; exact congrArg (fun b => some (cond b t (pc + 3), lv, st)) (decide_eq_true hc)) (k1 hc)
theorem q_ic_lt {off : Int} {t : Nat} {x y : Int32} (he : mE (mtv K) pc = some (.if_icmp .lt off, ln, a1, a2)) (ht : sTg pc off = some t) (k1 : x < y → qW K N t lv st h Q) (k2 : ¬ x < y → qW K N (pc + 3) lv st h Q) : qW K N pc lv (.int y :: .int x :: st) h Q := by
  by_cases hc : x < y
  · exact q_P he (by unfold sP sIc; dsimp only; rw [ht]; exact congrArg (fun b => some (cond b t (pc + 3), lv, st)) (decide_eq_true hc)) (k1 hc)
  · exact q_P he (by unfold sP sIc; dsimp only; rw [ht]; exact congrArg (fun b => some (cond b t (pc + 3), lv, st)) (decide_eq_false hc)) (k2 hc)
theorem q_ic_ge {off : Int} {t : Nat} {x y : Int32} (he : mE (mtv K) pc = some (.if_icmp .ge off, ln, a1, a2)) (ht : sTg pc off = some t) (k1 : y ≤ x → qW K N t lv st h Q) (k2 : ¬ y ≤ x → qW K N (pc + 3) lv st h Q) : qW K N pc lv (.int y :: .int x :: st) h Q := by
  by_cases hc : y ≤ x
  · exact q_P he (by unfold sP sIc; dsimp only; rw [ht]; exact congrArg (fun b => some (cond b t (pc + 3), lv, st)) (decide_eq_true hc)) (k1 hc)
  · exact q_P he (by unfold sP sIc; dsimp only; rw [ht]; exact congrArg (fun b => some (cond b t (pc + 3), lv, st)) (decide_eq_false hc)) (k2 hc)
theorem q_ic_gt {off : Int} {t : Nat} {x y : Int32} (he : mE (mtv K) pc = some (.if_icmp .gt off, ln, a1, a2)) (ht : sTg pc off = some t) (k1 : y < x → qW K N t lv st h Q) (k2 : ¬ y < x → qW K N (pc + 3) lv st h Q) : qW K N pc lv (.int y :: .int x :: st) h Q := by
  by_cases hc : y < x
  · exact q_P he (by unfold sP sIc; dsimp only; rw [ht]; exact congrArg (fun b => some (cond b t (pc + 3), lv, st)) (decide_eq_true hc)) (k1 hc)
  · exact q_P he (by unfold sP sIc; dsimp only; rw [ht]; exact congrArg (fun b => some (cond b t (pc + 3), lv, st)) (decide_eq_false hc)) (k2 hc)
theorem q_ic_le {off : Int} {t : Nat} {x y : Int32} (he : mE (mtv K) pc = some (.if_icmp .le off, ln, a1, a2)) (ht : sTg pc off = some t) (k1 : x ≤ y → qW K N t lv st h Q) (k2 : ¬ x ≤ y → qW K N (pc + 3) lv st h Q) : qW K N pc lv (.int y :: .int x :: st) h Q := by
  by_cases hc : x ≤ y
  · exact q_P he (by unfold sP sIc; dsimp only; rw [ht]; exact congrArg (fun b => some (cond b t (pc + 3), lv, st)) (decide_eq_true hc)) (k1 hc)
  · exact q_P he (by unfold sP sIc; dsimp only; rw [ht]; exact congrArg (fun b => some (cond b t (pc + 3), lv, st)) (decide_eq_false hc)) (k2 hc)
theorem q_ift {c : Jvm.ClassFile.Cond} {off : Int} {t : Nat} {x : Int32} (he : mE (mtv K) pc = some (.ifCond c off, ln, a1, a2)) (hc : sC1 c x = true) (ht : sTg pc off = some t) (k : qW K N t lv st h Q) : qW K N pc lv (.int x :: st) h Q := q_P he (by cases c <;> (dsimp only; unfold sP sIf; dsimp only; rw [ht]; exact congrArg (fun b => some (cond b t (pc + 3), lv, st)) hc)) k
theorem q_iff {c : Jvm.ClassFile.Cond} {off : Int} {t : Nat} {x : Int32} (he : mE (mtv K) pc = some (.ifCond c off, ln, a1, a2)) (hc : sC1 c x = false) (ht : sTg pc off = some t) (k : qW K N (pc + 3) lv st h Q) : qW K N pc lv (.int x :: st) h Q := q_P he (by cases c <;> (dsimp only; unfold sP sIf; dsimp only; rw [ht]; exact congrArg (fun b => some (cond b t (pc + 3), lv, st)) hc)) k
theorem q_ict {c : Jvm.ClassFile.Cond} {off : Int} {t : Nat} {x y : Int32} (he : mE (mtv K) pc = some (.if_icmp c off, ln, a1, a2)) (hc : sC2 c x y = true) (ht : sTg pc off = some t) (k : qW K N t lv st h Q) : qW K N pc lv (.int y :: .int x :: st) h Q := q_P he (by cases c <;> (dsimp only; unfold sP sIc; dsimp only; rw [ht]; exact congrArg (fun b => some (cond b t (pc + 3), lv, st)) hc)) k
theorem q_icf {c : Jvm.ClassFile.Cond} {off : Int} {t : Nat} {x y : Int32} (he : mE (mtv K) pc = some (.if_icmp c off, ln, a1, a2)) (hc : sC2 c x y = false) (ht : sTg pc off = some t) (k : qW K N (pc + 3) lv st h Q) : qW K N pc lv (.int y :: .int x :: st) h Q := q_P he (by cases c <;> (dsimp only; unfold sP sIc; dsimp only; rw [ht]; exact congrArg (fun b => some (cond b t (pc + 3), lv, st)) hc)) k
/-- 0 or 1 -/
def b2 (p : Prop) [Decidable p] : Int32 := if p then 1 else 0
theorem b2_t {p : Prop} [Decidable p] (h : p) : b2 p = 1 := if_pos h
theorem b2_f {p : Prop} [Decidable p] (h : ¬ p) : b2 p = 0 := if_neg h
theorem b2_0 {p : Prop} [Decidable p] : b2 p = 0 ↔ ¬ p := by
  unfold b2; split
  · next h => exact ⟨fun e => absurd e (by decide), fun e => absurd h e⟩
  · next h => exact ⟨fun _ => h, fun _ => rfl⟩
theorem b2_1 {p : Prop} [Decidable p] : b2 p = 1 ↔ p := by
  unfold b2; split
  · next h => exact ⟨fun _ => h, fun _ => rfl⟩
  · next h => exact ⟨fun e => absurd e (by decide), fun e => absurd e h⟩
theorem q_ifb_eq {off : Int} {t : Nat} {p : Prop} [Decidable p] (he : mE (mtv K) pc = some (.ifCond .eq off, ln, a1, a2)) (ht : sTg pc off = some t) (k1 : ¬ p → qW K N t lv st h Q) (k2 : p → qW K N (pc + 3) lv st h Q) : qW K N pc lv (.int (b2 p) :: st) h Q := q_if_eq he ht (fun e => k1 (b2_0.mp e)) (fun e => k2 (Decidable.of_not_not (fun q => e (b2_0.mpr q))))
theorem q_ifb_ne {off : Int} {t : Nat} {p : Prop} [Decidable p] (he : mE (mtv K) pc = some (.ifCond .ne off, ln, a1, a2)) (ht : sTg pc off = some t) (k1 : p → qW K N t lv st h Q) (k2 : ¬ p → qW K N (pc + 3) lv st h Q) : qW K N pc lv (.int (b2 p) :: st) h Q := q_if_ne he ht (fun e => k1 (Decidable.of_not_not (fun q => e (b2_0.mpr q)))) (fun e => k2 (b2_0.mp e))
theorem q_icb_eq {off : Int} {t : Nat} {p : Prop} [Decidable p] (he : mE (mtv K) pc = some (.if_icmp .eq off, ln, a1, a2)) (ht : sTg pc off = some t) (k1 : p → qW K N t lv st h Q) (k2 : ¬ p → qW K N (pc + 3) lv st h Q) : qW K N pc lv (.int 1 :: .int (b2 p) :: st) h Q := q_ic_eq he ht (fun e => k1 (b2_1.mp e)) (fun e => k2 (fun q => e (b2_1.mpr q)))
theorem q_icb_ne {off : Int} {t : Nat} {p : Prop} [Decidable p] (he : mE (mtv K) pc = some (.if_icmp .ne off, ln, a1, a2)) (ht : sTg pc off = some t) (k1 : ¬ p → qW K N t lv st h Q) (k2 : p → qW K N (pc + 3) lv st h Q) : qW K N pc lv (.int 1 :: .int (b2 p) :: st) h Q := q_ic_ne he ht (fun e => k1 (fun q => e (b2_1.mpr q))) (fun e => k2 (b2_1.mp e))
theorem q_end {e : sE} {r0 : sR} (he : mE (mtv K) pc = some e) (hs : ∀ D cl sl z, sStep mtv (sGo1 mtv eFu D) (mtv K) none (pc, lv, st, h, cl, sl) = some z → z = .inr r0 ∧ Q r0) : qW K N pc lv st h Q := qW_le (Nat.le_succ N) (q_step1 (fun D cl sl z hz => by
  obtain ⟨e1, e2⟩ := hs D cl sl z hz
  rw [e1]; exact e2))
theorem sNo {i : Instr} {D cl sl : Nat} (he : mE (mtv K) pc = some (i, ln, a1, a2)) (hP : sP (mL (mtv K)) i pc lv st = none) (hH : sHp none i a1 a2 pc lv st h = none) (hr : sRet (mR (mtv K)) i st = none) (hi : sInv0 mtv i a1 a2 st h = none) (ha : sAl (mC (mtv K)) (mS (mtv K)) i a1 pc lv st h cl sl = none) (hn : sNi i = true) : sStep mtv (sGo1 mtv eFu D) (mtv K) none (pc, lv, st, h, cl, sl) = none := by
  unfold sStep
  rw [he]; dsimp only
  rw [hP]; dsimp only
  rw [hH]; dsimp only
  rw [hr]; dsimp only
  split
  · cases i <;> first | rfl | cases hn
  · rw [hi]; dsimp only
    rw [ha]
theorem q_ret {i : Instr} {v : Option Value} (he : mE (mtv K) pc = some (i, ln, a1, a2)) (hP : sP (mL (mtv K)) i pc lv st = none) (hH : sHp none i a1 a2 pc lv st h = none) (hi : sInv0 mtv i a1 a2 st h = none) (ha : ∀ cl sl, sAl (mC (mtv K)) (mS (mtv K)) i a1 pc lv st h cl sl = none) (hn : sNi i = true) (hv : ∀ w, sRet (mR (mtv K)) i st = some w → w = v ∧ Q (.inl v, h)) : qW K N pc lv st h Q := q_end (r0 := (.inl v, h)) he (fun D cl sl z hz => by
  cases g : sRet (mR (mtv K)) i st with
  | none => rw [sNo he hP hH g hi (ha cl sl) hn] at hz; cases hz
  | some w =>
    unfold sStep at hz
    rw [he] at hz; dsimp only at hz
    rw [hP] at hz; dsimp only at hz
    rw [hH] at hz; dsimp only at hz
    rw [g] at hz; dsimp only at hz
    cases hz
    rw [(hv w g).1]
    exact ⟨rfl, (hv w g).2⟩)
theorem q_ireturn {x : Int32} (he : mE (mtv K) pc = some (.ireturn, ln, a1, a2)) (k : Q (.inl (some (.int x)), h)) : qW K N pc lv [.int x] h Q := q_ret he rfl rfl rfl (fun _ _ => rfl) rfl (fun w hw => by
  unfold sRet at hw; dsimp only at hw
  split at hw
  · next y ty e1 e2 =>
    split at hw
    · cases hw; cases e1; exact ⟨rfl, k⟩
    · cases hw
  · cases hw)
/-- a boolean's end -/
theorem q_breturn {x : Int32} (he : mE (mtv K) pc = some (.ireturn, ln, a1, a2)) (hr : mR (mtv K) = some .boolean) (k : x = 0 ∨ x = 1 → Q (.inl (some (.int x)), h)) : qW K N pc lv [.int x] h Q := q_ret he rfl rfl rfl (fun _ _ => rfl) rfl (fun w hw => by
  unfold sRet at hw; dsimp only at hw
  rw [hr] at hw; dsimp only at hw
  split at hw
  · next e =>
    cases hw
    refine ⟨rfl, k ?_⟩
    unfold sNr at e
    simp only [Bool.or_eq_true, decide_eq_true_eq] at e
    exact e
  · cases hw)
theorem q_lreturn {x : Int64} (he : mE (mtv K) pc = some (.lreturn, ln, a1, a2)) (k : Q (.inl (some (.long x)), h)) : qW K N pc lv [.long x] h Q := q_ret he rfl rfl rfl (fun _ _ => rfl) rfl (fun w hw => by
  unfold sRet at hw; dsimp only at hw
  split at hw
  · next y e1 e2 => cases hw; cases e1; exact ⟨rfl, k⟩
  · cases hw)
theorem q_freturn {x : UInt32} (he : mE (mtv K) pc = some (.freturn, ln, a1, a2)) (k : Q (.inl (some (.float x)), h)) : qW K N pc lv [.float x] h Q := q_ret he rfl rfl rfl (fun _ _ => rfl) rfl (fun w hw => by
  unfold sRet at hw; dsimp only at hw
  split at hw
  · next y e1 e2 => cases hw; cases e1; exact ⟨rfl, k⟩
  · cases hw)
theorem q_dreturn {x : UInt64} (he : mE (mtv K) pc = some (.dreturn, ln, a1, a2)) (k : Q (.inl (some (.double x)), h)) : qW K N pc lv [.double x] h Q := q_ret he rfl rfl rfl (fun _ _ => rfl) rfl (fun w hw => by
  unfold sRet at hw; dsimp only at hw
  split at hw
  · next y e1 e2 => cases hw; cases e1; exact ⟨rfl, k⟩
  · cases hw)
theorem q_return_ (he : mE (mtv K) pc = some (.return_, ln, a1, a2)) (k : Q (.inl none, h)) : qW K N pc lv [] h Q := q_ret he rfl rfl rfl (fun _ _ => rfl) rfl (fun w hw => by
  unfold sRet at hw; dsimp only at hw
  split at hw
  · cases hw; exact ⟨rfl, k⟩
  · cases hw)
theorem q_throw {ix : Nat} (he : mE (mtv K) pc = some (.new ix, ln, a1, a2)) (h1 : 1000 ≤ a1) (k : Q (.inr (a1 - 1000), h)) : qW K N pc lv st h Q := q_end (r0 := (.inr (a1 - 1000), h)) he (fun D cl sl z hz => by
  unfold sStep at hz
  rw [he] at hz; dsimp only at hz
  rw [show sP (mL (mtv K)) (.new ix) pc lv st = none from rfl] at hz; dsimp only at hz
  rw [show sHp none (.new ix) a1 a2 pc lv st h = none from rfl] at hz; dsimp only at hz
  rw [show sRet (mR (mtv K)) (.new ix) st = none from rfl] at hz; dsimp only at hz
  rw [if_pos h1] at hz
  split at hz
  · cases hz; exact ⟨rfl, k⟩
  · cases hz)
/-! calls -/
theorem q_call {i : Instr} {as rest : List Value} (he : mE (mtv K) pc = some (i, ln, a1, a2)) (h1 : ¬ 1000 ≤ a1) (hP : sP (mL (mtv K)) i pc lv st = none) (hH : sHp none i a1 a2 pc lv st h = none) (hr : sRet (mR (mtv K)) i st = none) (ha : ∀ cl sl, sAl (mC (mtv K)) (mS (mtv K)) i a1 pc lv st h cl sl = none) (hi : ∀ q, sInv0 mtv i a1 a2 st h = some q → q = (as, rest)) (hT : mT (mtv K) = [])
    (kr : ∀ v h1, qGo a1 as h (.inl v, h1) → qW K N (pc + 3) lv (v.toList ++ rest) h1 Q) (kx : ∀ E h1, qGo a1 as h (.inr E, h1) → Q (.inr E, h1)) : qW K N pc lv st h Q := qW_le (Nat.le_succ N) (q_step1 (fun D cl sl z hz => by
  unfold sStep at hz
  rw [he] at hz; dsimp only at hz
  rw [hP] at hz; dsimp only at hz
  rw [hH] at hz; dsimp only at hz
  rw [hr] at hz; dsimp only at hz
  rw [if_neg h1] at hz
  cases g : sInv0 mtv i a1 a2 st h with
  | none =>
    rw [g] at hz; dsimp only at hz
    rw [ha cl sl] at hz
    cases hz
  | some q =>
    have e := hi q g
    subst e
    rw [g] at hz; dsimp only at hz
    split at hz
    · split at hz
      · next v h2 hg => cases hz; exact fun n r hn hr => kr v h2 ⟨D, hg⟩ n D _ _ r hn hr
      · next E h2 hg =>
        rw [hT] at hz
        cases hz
        exact kx E h2 ⟨D, hg⟩
      · cases hz
    · cases hz))
theorem q_static {ix : Nat} {as rest : List Value} (he : mE (mtv K) pc = some (.invokestatic ix, ln, a1, a2)) (h1 : ¬ 1000 ≤ a1) (hA : sArgs (mN (mtv a1)) st = as) (hR : st.drop (mN (mtv a1)) = rest) (hT : mT (mtv K) = [])
    (kr : ∀ v h1, qGo a1 as h (.inl v, h1) → qW K N (pc + 3) lv (v.toList ++ rest) h1 Q) (kx : ∀ E h1, qGo a1 as h (.inr E, h1) → Q (.inr E, h1)) : qW K N pc lv st h Q := q_call he h1 rfl rfl rfl (fun _ _ => rfl) (fun q g => by
  unfold sInv0 at g; dsimp only at g
  split at g
  · cases g; rw [hA, hR]
  · cases g) hT kr kx
theorem q_virtual {ix o : Nat} {as rest : List Value} (he : mE (mtv K) pc = some (.invokevirtual ix, ln, a1, a2)) (h1 : ¬ 1000 ≤ a1) (hA : sArgs (mN (mtv a1)) st = as) (hR : st.drop (mN (mtv a1)) = .ref o :: rest) (hT : mT (mtv K) = [])
    (kr : ∀ v h1, qGo a1 (.ref o :: as) h (.inl v, h1) → qW K N (pc + 3) lv (v.toList ++ rest) h1 Q) (kx : ∀ E h1, qGo a1 (.ref o :: as) h (.inr E, h1) → Q (.inr E, h1)) : qW K N pc lv st h Q := q_call he h1 rfl rfl rfl (fun _ _ => rfl) (fun q g => by
  unfold sInv0 at g; dsimp only at g
  split at g
  · rw [hR] at g; dsimp only at g
    split at g
    · split at g
      · cases g; rw [hA]
      · cases g
    · cases g
  · cases g) hT kr kx
/-- a call that is gone into -/
theorem q_into {k2 : Nat} {as rest : List Value} (w : ∀ N', qW k2 N' 0 (lv_args 0 as) [] h (qK K N pc lv rest Q)) : (∀ v h1, qGo k2 as h (.inl v, h1) → qW K N (pc + 3) lv (v.toList ++ rest) h1 Q) ∧ (∀ E h1, qGo k2 as h (.inr E, h1) → Q (.inr E, h1)) := ⟨fun v h1 g => qGo_w (Q := qK K N pc lv rest Q) g w, fun E h1 g => qGo_w (Q := qK K N pc lv rest Q) g w⟩
theorem q_staticI {ix : Nat} {as rest : List Value} (he : mE (mtv K) pc = some (.invokestatic ix, ln, a1, a2)) (h1 : ¬ 1000 ≤ a1) (hA : sArgs (mN (mtv a1)) st = as) (hR : st.drop (mN (mtv a1)) = rest) (hT : mT (mtv K) = []) (w : ∀ N', qW a1 N' 0 (lv_args 0 as) [] h (qK K N pc lv rest Q)) : qW K N pc lv st h Q := q_static he h1 hA hR hT (q_into w).1 (q_into w).2
theorem q_virtualI {ix o : Nat} {as rest : List Value} (he : mE (mtv K) pc = some (.invokevirtual ix, ln, a1, a2)) (h1 : ¬ 1000 ≤ a1) (hA : sArgs (mN (mtv a1)) st = as) (hR : st.drop (mN (mtv a1)) = .ref o :: rest) (hT : mT (mtv K) = []) (w : ∀ N', qW a1 N' 0 (lv_args 0 (.ref o :: as)) [] h (qK K N pc lv rest Q)) : qW K N pc lv st h Q := q_virtual he h1 hA hR hT (q_into w).1 (q_into w).2
theorem qK_v {v : Value} {h1 : sH} {rest : List Value} (k : qW K N (pc + 3) lv (v :: rest) h1 Q) : qK K N pc lv rest Q (.inl (some v), h1) := k
theorem qK_n {h1 : sH} {rest : List Value} (k : qW K N (pc + 3) lv rest h1 Q) : qK K N pc lv rest Q (.inl none, h1) := k
theorem qK_x {E : Nat} {h1 : sH} {rest : List Value} (k : Q (.inr E, h1)) : qK K N pc lv rest Q (.inr E, h1) := k
/-- a call whose answer is known, and that changes nothing -/
theorem q_staticP {ix : Nat} {as rest : List Value} {w : Value} (he : mE (mtv K) pc = some (.invokestatic ix, ln, a1, a2)) (h1 : ¬ 1000 ≤ a1) (hA : sArgs (mN (mtv a1)) st = as) (hR : st.drop (mN (mtv a1)) = rest) (hT : mT (mtv K) = []) (sp : ∀ r, qGo a1 as h r → r = (.inl (some w), h)) (k : qW K N (pc + 3) lv (w :: rest) h Q) : qW K N pc lv st h Q := q_static he h1 hA hR hT (fun v h2 g => by cases sp _ g; exact k) (fun E h2 g => by cases sp _ g)
theorem q_virtualP {ix o : Nat} {as rest : List Value} {w : Value} (he : mE (mtv K) pc = some (.invokevirtual ix, ln, a1, a2)) (h1 : ¬ 1000 ≤ a1) (hA : sArgs (mN (mtv a1)) st = as) (hR : st.drop (mN (mtv a1)) = .ref o :: rest) (hT : mT (mtv K) = []) (sp : ∀ r, qGo a1 (.ref o :: as) h r → r = (.inl (some w), h)) (k : qW K N (pc + 3) lv (w :: rest) h Q) : qW K N pc lv st h Q := q_virtual he h1 hA hR hT (fun v h2 g => by cases sp _ g; exact k) (fun E h2 g => by cases sp _ g)
/-- a call that goes on or throws -/
theorem q_virtualN {ix o E : Nat} {as rest : List Value} {c : Prop} (he : mE (mtv K) pc = some (.invokevirtual ix, ln, a1, a2)) (h1 : ¬ 1000 ≤ a1) (hA : sArgs (mN (mtv a1)) st = as) (hR : st.drop (mN (mtv a1)) = .ref o :: rest) (hT : mT (mtv K) = []) (sp : ∀ r, qGo a1 (.ref o :: as) h r → (c ∧ r = (.inl none, h)) ∨ (¬ c ∧ r = (.inr E, h))) (k1 : c → qW K N (pc + 3) lv rest h Q) (k2 : ¬ c → Q (.inr E, h)) : qW K N pc lv st h Q := q_virtual he h1 hA hR hT (fun v h2 g => by
  rcases sp _ g with ⟨hc, e⟩ | ⟨hc, e⟩
  · cases e; exact k1 hc
  · cases e) (fun F h2 g => by
  rcases sp _ g with ⟨hc, e⟩ | ⟨hc, e⟩
  · cases e
  · cases e; exact k2 hc)
/-- a call whose end is known as far as it goes -/
theorem q_virtualE {ix o : Nat} {as rest : List Value} {S : sR → Prop} (he : mE (mtv K) pc = some (.invokevirtual ix, ln, a1, a2)) (h1 : ¬ 1000 ≤ a1) (hA : sArgs (mN (mtv a1)) st = as) (hR : st.drop (mN (mtv a1)) = .ref o :: rest) (hT : mT (mtv K) = []) (sp : ∀ r, qGo a1 (.ref o :: as) h r → S r) (k : ∀ r, S r → qK K N pc lv rest Q r) : qW K N pc lv st h Q := q_virtual he h1 hA hR hT (fun v h2 g => k _ (sp _ g)) (fun E h2 g => k _ (sp _ g))
theorem q_staticE {ix : Nat} {as rest : List Value} {S : sR → Prop} (he : mE (mtv K) pc = some (.invokestatic ix, ln, a1, a2)) (h1 : ¬ 1000 ≤ a1) (hA : sArgs (mN (mtv a1)) st = as) (hR : st.drop (mN (mtv a1)) = rest) (hT : mT (mtv K) = []) (sp : ∀ r, qGo a1 as h r → S r) (k : ∀ r, S r → qK K N pc lv rest Q r) : qW K N pc lv st h Q := q_static he h1 hA hR hT (fun v h2 g => k _ (sp _ g)) (fun E h2 g => k _ (sp _ g))
theorem q_math {ix : Nat} {q : Value × List Value} (he : mE (mtv K) pc = some (.invokestatic ix, ln, a1, a2)) (h1 : 1000 ≤ a1) (hm : sMath a1 st = some q) (k : qW K N (pc + 3) lv (q.1 :: q.2) h Q) : qW K N pc lv st h Q := qW_le (Nat.le_succ N) (q_step1 (fun D cl sl z hz => by
  unfold sStep at hz
  rw [he] at hz; dsimp only at hz
  rw [show sP (mL (mtv K)) (.invokestatic ix) pc lv st = none from rfl] at hz; dsimp only at hz
  rw [show sHp none (.invokestatic ix) a1 a2 pc lv st h = none from rfl] at hz; dsimp only at hz
  rw [show sRet (mR (mtv K)) (.invokestatic ix) st = none from rfl] at hz; dsimp only at hz
  rw [if_pos h1, hm] at hz
  dsimp only at hz
  split at hz
  · cases hz; exact fun n r hn hr => k n D cl sl r hn hr
  · cases hz))
theorem q_abs {ix : Nat} {x : Int32} (he : mE (mtv K) pc = some (.invokestatic ix, ln, 1001, a2)) (k : qW K N (pc + 3) lv (.int (if 0 ≤ x then x else 0 - x) :: st) h Q) : qW K N pc lv (.int x :: st) h Q := q_math he (by decide) rfl k
theorem q_max {ix : Nat} {x y : Int32} (he : mE (mtv K) pc = some (.invokestatic ix, ln, 1002, a2)) (k : qW K N (pc + 3) lv (.int (if x < y then y else x) :: st) h Q) : qW K N pc lv (.int y :: .int x :: st) h Q := q_math he (by decide) rfl k
theorem q_min {ix : Nat} {x y : Int32} (he : mE (mtv K) pc = some (.invokestatic ix, ln, 1003, a2)) (k : qW K N (pc + 3) lv (.int (if y < x then y else x) :: st) h Q) : qW K N pc lv (.int y :: .int x :: st) h Q := q_math he (by decide) rfl k
/-! the heap -/
def tIk (ci f : Nat) : Bool := match sFt ci f with
  | .int => true
  | .boolean => true
  | _ => false
def tLk (ci f : Nat) : Bool := match sFt ci f with
  | .long => true
  | _ => false
def tOk (ci f : Nat) : Bool := match sFt ci f with
  | .object _ => true
  | .array _ => true
  | _ => false
theorem tIk_s {ci f : Nat} {rf : Nat × Nat} {v : Value} (hk : tIk ci f = true) (h : tVk (sFt ci f) rf v) : ∃ x, v = .int x := by
  unfold tIk at hk
  split at hk
  · next e => rw [e] at h; exact h
  · next e => rw [e] at h; rcases (show v = .int 0 ∨ v = .int 1 from h) with rfl | rfl <;> exact ⟨_, rfl⟩
  · cases hk
theorem tLk_s {ci f : Nat} {rf : Nat × Nat} {v : Value} (hk : tLk ci f = true) (h : tVk (sFt ci f) rf v) : ∃ x, v = .long x := by
  unfold tLk at hk
  split at hk
  · next e => rw [e] at h; exact h
  · cases hk
theorem tOk_s {ci f : Nat} {rf : Nat × Nat} {v : Value} (hk : tOk ci f = true) (h : tVk (sFt ci f) rf v) : ∃ k, v = .ref k ∧ rf.1 ≤ k ∧ k ≤ rf.2 := by
  unfold tOk at hk
  split at hk
  · next e => rw [e] at h; exact h
  · next e => rw [e] at h; exact h
  · cases hk
theorem q_gf {ix a : Nat} (th : qH h I L R) (he : mE (mtv K) pc = some (.getfield ix, ln, a1, a2)) (ha : a < 119) (k : ∀ vs v, h[a]? = some (.inr (a1, vs)) → vs[a2]? = some v → tVk (sFt a1 a2) (tRf a a2) v → qW K N (pc + 3) lv (v :: st) h Q) : qW K N pc lv (.ref a :: st) h Q := q_H he rfl (fun z hz => by
  unfold sHp at hz; dsimp only at hz
  split at hz
  · next q hq =>
    split at hz
    · next e =>
      split at hz
      · next v hv =>
        cases hz
        subst e
        exact k q.2 v hq hv ((th.1.2.1 a _ ha hq).2 a2 v hv)
      · cases hz
    · cases hz
  · cases hz) (fun g D cl sl => sNo he rfl g rfl rfl rfl rfl)
theorem q_getI {ix a : Nat} (th : qH h I L R) (he : mE (mtv K) pc = some (.getfield ix, ln, a1, a2)) (ha : a < 119) (hk : tIk a1 a2 = true) (k : qW K N (pc + 3) lv (.int (I a a2) :: st) h Q) : qW K N pc lv (.ref a :: st) h Q := q_gf th he ha (fun vs v h1 h2 h3 => by
  obtain ⟨x, rfl⟩ := tIk_s hk h3
  have e := vI_at (c := .inr (a1, vs)) h1 h2
  rw [th.2.1] at e
  have e : I a a2 = x := e
  rw [← e]; exact k)
theorem q_getB {ix a : Nat} (th : qH h I L R) (he : mE (mtv K) pc = some (.getfield ix, ln, a1, a2)) (ha : a < 119) (hk : sFt a1 a2 = .boolean) (k : I a a2 = 0 ∨ I a a2 = 1 → qW K N (pc + 3) lv (.int (I a a2) :: st) h Q) : qW K N pc lv (.ref a :: st) h Q := q_gf th he ha (fun vs v h1 h2 h3 => by
  rw [hk] at h3
  have e := vI_at (c := .inr (a1, vs)) h1 h2
  rw [th.2.1] at e
  rcases (show v = .int 0 ∨ v = .int 1 from h3) with rfl | rfl
  · have e : I a a2 = 0 := e
    have k1 := k (Or.inl e)
    rw [e] at k1; exact k1
  · have e : I a a2 = 1 := e
    have k1 := k (Or.inr e)
    rw [e] at k1; exact k1)
theorem q_getL {ix a : Nat} (th : qH h I L R) (he : mE (mtv K) pc = some (.getfield ix, ln, a1, a2)) (ha : a < 119) (hk : tLk a1 a2 = true) (k : qW K N (pc + 3) lv (.long (L a a2) :: st) h Q) : qW K N pc lv (.ref a :: st) h Q := q_gf th he ha (fun vs v h1 h2 h3 => by
  obtain ⟨x, rfl⟩ := tLk_s hk h3
  have e := vL_at (c := .inr (a1, vs)) h1 h2
  rw [th.2.2.1] at e
  have e : L a a2 = x := e
  rw [← e]; exact k)
theorem q_getR {ix a m : Nat} (th : qH h I L R) (he : mE (mtv K) pc = some (.getfield ix, ln, a1, a2)) (ha : a < 119) (hk : tOk a1 a2 = true) (hm : tRf a a2 = (m, m)) (k : qW K N (pc + 3) lv (.ref m :: st) h Q) : qW K N pc lv (.ref a :: st) h Q := q_gf th he ha (fun vs v h1 h2 h3 => by
  obtain ⟨x, rfl, x1, x2⟩ := tOk_s hk h3
  rw [hm] at x1 x2
  have : x = m := Nat.le_antisymm x2 x1
  subst this; exact k)
theorem q_pf {ix a : Nat} {x : Value} (he : mE (mtv K) pc = some (.putfield ix, ln, a1, a2)) (k : ∀ vs, h[a]? = some (.inr (a1, vs)) → a2 < vs.length → sFit (sFt a1 a2) x = true → qW K N (pc + 3) lv st (h.set a (tPut (.inr (a1, vs)) a2 x)) Q) : qW K N pc lv (x :: .ref a :: st) h Q := q_H he rfl (fun z hz => by
  unfold sHp at hz; dsimp only at hz
  split at hz
  · next q hq =>
    split at hz
    · next e =>
      cases hz
      obtain ⟨e1, e2, e3⟩ := e
      obtain ⟨q1, q2⟩ := q
      dsimp only at e1 e2
      subst e1
      exact k q2 hq e2 e3
    · cases hz
  · cases hz) (fun g D cl sl => sNo he rfl g rfl rfl rfl rfl)
theorem q_putI {ix a : Nat} {x : Int32} (th : qH h I L R) (he : mE (mtv K) pc = some (.putfield ix, ln, a1, a2)) (ha : a < 119) (hk : tIk a1 a2 = true) (k : ∀ h', qH h' (upI I a a2 x) L R → qW K N (pc + 3) lv st h' Q) : qW K N pc lv (.int x :: .ref a :: st) h Q := q_pf he (fun vs h1 h2 h3 => by
  obtain ⟨v, hv⟩ : ∃ v, vs[a2]? = some v := ⟨_, List.getElem?_eq_getElem h2⟩
  have ht := (th.1.2.1 a _ ha h1).2 a2 v hv
  refine k _ (qH_pI th h1 hv (tIk_s hk ht) (fun _ => ?_) (fun _ => ht))
  show tVk (sFt a1 a2) _ _
  unfold tIk at hk
  split at hk
  · next e => rw [e]; exact ⟨x, rfl⟩
  · next e =>
    rw [e] at h3 ⊢
    simp only [sFit, Bool.or_eq_true, decide_eq_true_eq] at h3
    rcases h3 with rfl | rfl
    · exact Or.inl rfl
    · exact Or.inr rfl
  · cases hk)
theorem q_putL {ix a : Nat} {x : Int64} (th : qH h I L R) (he : mE (mtv K) pc = some (.putfield ix, ln, a1, a2)) (ha : a < 119) (hk : tLk a1 a2 = true) (k : ∀ h', qH h' I (upL L a a2 x) R → qW K N (pc + 3) lv st h' Q) : qW K N pc lv (.long x :: .ref a :: st) h Q := q_pf he (fun vs h1 h2 h3 => by
  obtain ⟨v, hv⟩ : ∃ v, vs[a2]? = some v := ⟨_, List.getElem?_eq_getElem h2⟩
  have g := th.1.2.1 a _ ha h1
  have ht := g.2 a2 v hv
  refine k _ (qH_pL th ha (fun e => ?_) h1 hv (tLk_s hk ht) ?_)
  · subst e
    exact absurd (congrArg Prod.fst g.1) (by show ¬ (1 : Nat) = 0; decide)
  · show tVk (sFt a1 a2) _ _
    unfold tLk at hk
    split at hk
    · next e => rw [e]; exact ⟨x, rfl⟩
    · cases hk)
/-- an index lies within an array -/
theorem sIn_g {i : Int32} {n : Nat} (hn : n < 2 ^ 31) (h : sIn i n = true) : 0 ≤ i.toInt ∧ i.toInt < (n : Int) ∧ i.toNatClampNeg < n ∧ (i.toNatClampNeg : Int) = i.toInt := by
  have h1 := sIn_ok h
  have h2 := sIn_lt h
  unfold vp_in at h1
  have h3 : 0 ≤ i.toInt := by
    have h9 : ¬ i < 0 := fun e => h1 (Or.inl e)
    rw [Int32.lt_iff_toInt_lt] at h9
    have h0 : (0 : Int32).toInt = 0 := rfl
    omega
  have h4 : (i.toNatClampNeg : Int) = i.toInt := by
    show ((i.toInt.toNat : Nat) : Int) = _
    omega
  omega
theorem tSh_ln {a t n : Nat} {w : List Value} {t' : Nat} (th : tInv h) (ha : a < 119) (hc : h[a]? = some (.inl (t', w))) (hs : tShF a = (1, t, n)) : t' = t ∧ w.length = n := by
  have g := (th.2.1 a _ ha hc).1
  rw [hs] at g
  exact ⟨(congrArg (fun z : Nat × Nat × Nat => z.2.1) g).symm, (congrArg (fun z : Nat × Nat × Nat => z.2.2) g).symm⟩

theorem q_iaload {a n : Nat} {i : Int32} (th : qH h I L R) (he : mE (mtv K) pc = some (.iaload, ln, a1, a2)) (ha : a < 119) (hs : tShF a = (1, 0, n)) (k : sIn i n = true → qW K N (pc + 1) lv (.int (I a i.toNatClampNeg) :: st) h Q) : qW K N pc lv (.int i :: .ref a :: st) h Q := q_H he rfl (fun z hz => by
  unfold sHp at hz; dsimp only at hz
  split at hz
  · next w hq =>
    split at hz
    · next e =>
      cases hz
      obtain ⟨-, g⟩ := tSh_ln th.1 ha hq hs
      rw [g] at e
      have e2 : vI h a i.toNatClampNeg = iOf (w.getD i.toNatClampNeg .null) := by unfold vI; rw [hq]; rfl
      rw [th.2.1] at e2
      dsimp only
      rw [← e2]
      exact k e
    · cases hz
  · cases hz) (fun g D cl sl => sNo he rfl g rfl rfl rfl rfl)
theorem q_baload {a n : Nat} {i : Int32} (th : qH h I L R) (he : mE (mtv K) pc = some (.baload, ln, a1, a2)) (ha : a < 119) (hs : tShF a = (1, 1, n)) (k : sIn i n = true → qW K N (pc + 1) lv (.int (I a i.toNatClampNeg) :: st) h Q) : qW K N pc lv (.int i :: .ref a :: st) h Q := q_H he rfl (fun z hz => by
  unfold sHp at hz; dsimp only at hz
  split at hz
  · next w hq =>
    split at hz
    · next e =>
      cases hz
      obtain ⟨-, g⟩ := tSh_ln th.1 ha hq hs
      rw [g] at e
      have e2 : vI h a i.toNatClampNeg = iOf (w.getD i.toNatClampNeg .null) := by unfold vI; rw [hq]; rfl
      rw [th.2.1] at e2
      dsimp only
      rw [← e2]
      exact k e
    · cases hz
  · cases hz) (fun g D cl sl => sNo he rfl g rfl rfl rfl rfl)
theorem q_laload {a n : Nat} {i : Int32} (th : qH h I L R) (he : mE (mtv K) pc = some (.laload, ln, a1, a2)) (ha : a < 119) (hs : tShF a = (1, 2, n)) (k : sIn i n = true → qW K N (pc + 1) lv (.long (L a i.toNatClampNeg) :: st) h Q) : qW K N pc lv (.int i :: .ref a :: st) h Q := q_H he rfl (fun z hz => by
  unfold sHp at hz; dsimp only at hz
  split at hz
  · next w hq =>
    split at hz
    · next e =>
      cases hz
      obtain ⟨-, g⟩ := tSh_ln th.1 ha hq hs
      rw [g] at e
      have e2 : vL h a i.toNatClampNeg = lOf (w.getD i.toNatClampNeg .null) := by unfold vL; rw [hq]; rfl
      rw [th.2.2.1] at e2
      dsimp only
      rw [← e2]
      exact k e
    · cases hz
  · cases hz) (fun g D cl sl => sNo he rfl g rfl rfl rfl rfl)
/-- a local array -/
theorem q_ialoadN {a : Nat} {i : Int32} (th : qH h I L R) (he : mE (mtv K) pc = some (.iaload, ln, a1, a2)) (ha : 119 ≤ a) (k : sIn i 6 = true → qW K N (pc + 1) lv (.int (I a i.toNatClampNeg) :: st) h Q) : qW K N pc lv (.int i :: .ref a :: st) h Q := q_H he rfl (fun z hz => by
  unfold sHp at hz; dsimp only at hz
  split at hz
  · next w hq =>
    split at hz
    · next e =>
      cases hz
      obtain ⟨w', e1, g, -⟩ := th.1.2.2 a _ ha hq
      cases e1
      rw [g] at e
      have e2 : vI h a i.toNatClampNeg = iOf (w.getD i.toNatClampNeg .null) := by unfold vI; rw [hq]; rfl
      rw [th.2.1] at e2
      dsimp only
      rw [← e2]
      exact k e
    · cases hz
  · cases hz) (fun g D cl sl => sNo he rfl g rfl rfl rfl rfl)
/-- an array of references: each leads to its own place -/
theorem q_aaload {a n t m : Nat} {i : Int32} (th : qH h I L R) (he : mE (mtv K) pc = some (.aaload, ln, a1, a2)) (ha : a < 119) (hs : tShF a = (1, t + 4, n)) (hm : ∀ j, j < n → tRf a j = (m + j, m + j)) (k : sIn i n = true → qW K N (pc + 1) lv (.ref (m + i.toNatClampNeg) :: st) h Q) : qW K N pc lv (.int i :: .ref a :: st) h Q := q_H he rfl (fun z hz => by
  unfold sHp at hz; dsimp only at hz
  split at hz
  · next t' w hq =>
    split at hz
    · next e =>
      cases hz
      obtain ⟨e1, e2⟩ := e
      obtain ⟨g1, g⟩ := tSh_ln th.1 ha hq hs
      have hj := sIn_lt e1
      have hv := (th.1.2.1 a _ ha hq).2 i.toNatClampNeg _ (List.getElem?_eq_getElem (l := w) hj)
      have hv : tVk (sTy (t' + 4)) (tRf a i.toNatClampNeg) (w[i.toNatClampNeg]'hj) := hv
      rw [g] at e1
      rw [hm _ (by rw [← g]; exact hj)] at hv
      have hx : ∃ k, w[i.toNatClampNeg]'hj = .ref k ∧ m + i.toNatClampNeg ≤ k ∧ k ≤ m + i.toNatClampNeg := by
        cases t' with
        | zero => exact hv
        | succ t' => exact hv
      obtain ⟨x, x0, x1, x2⟩ := hx
      have x3 : x = m + i.toNatClampNeg := Nat.le_antisymm x2 x1
      dsimp only
      rw [List.getD_eq_getElem?_getD, List.getElem?_eq_getElem hj, Option.getD_some, x0, x3]
      exact k e1
    · cases hz
  · cases hz) (fun g D cl sl => sNo he rfl g rfl rfl rfl rfl)
/-- the doors' array -/
theorem q_aaloadD {i : Int32} (th : qH h I L R) (he : mE (mtv K) pc = some (.aaload, ln, a1, a2)) (k : sIn i 10 = true → 35 ≤ R i.toNatClampNeg → R i.toNatClampNeg ≤ 44 → qW K N (pc + 1) lv (.ref (R i.toNatClampNeg) :: st) h Q) : qW K N pc lv (.int i :: .ref 13 :: st) h Q := q_H he rfl (fun z hz => by
  unfold sHp at hz; dsimp only at hz
  split at hz
  · next t' w hq =>
    split at hz
    · next e =>
      cases hz
      obtain ⟨e1, e2⟩ := e
      obtain ⟨g1, g⟩ := tSh_ln th.1 (a := 13) (by decide) hq (t := 6) (n := 10) rfl
      have hj := sIn_lt e1
      have hv := (th.1.2.1 13 _ (by decide) hq).2 i.toNatClampNeg _ (List.getElem?_eq_getElem (l := w) hj)
      have hv : tVk (sTy (t' + 4)) (35, 44) (w[i.toNatClampNeg]'hj) := hv
      rw [g] at e1
      have : t' = 2 := by omega
      subst this
      obtain ⟨x, x0, x1, x2⟩ := (show ∃ k, w[i.toNatClampNeg]'hj = .ref k ∧ 35 ≤ k ∧ k ≤ 44 from hv)
      have e3 : vR h i.toNatClampNeg = x := by
        unfold vR; rw [hq]
        show nOf (w.getD _ _) = _
        rw [List.getD_eq_getElem?_getD, List.getElem?_eq_getElem hj, Option.getD_some, x0]
        rfl
      rw [th.2.2.2] at e3
      dsimp only
      rw [List.getD_eq_getElem?_getD, List.getElem?_eq_getElem hj, Option.getD_some, x0]
      rw [← e3]
      rw [← e3] at x1 x2
      exact k e1 x1 x2
    · cases hz
  · cases hz) (fun g D cl sl => sNo he rfl g rfl rfl rfl rfl)

theorem q_iastore {a n : Nat} {i : Int32} {x : Int32} (th : qH h I L R) (he : mE (mtv K) pc = some (.iastore, ln, a1, a2)) (ha : a < 119) (hs : tShF a = (1, 0, n)) (k : sIn i n = true → ∀ h', qH h' (upI I a i.toNatClampNeg x) L R → qW K N (pc + 1) lv st h' Q) : qW K N pc lv (.int x :: .int i :: .ref a :: st) h Q := q_H he rfl (fun z hz => by
  unfold sHp at hz; dsimp only at hz
  split at hz
  · next w hq =>
    split at hz
    · next e =>
      cases hz
      obtain ⟨-, g⟩ := tSh_ln th.1 ha hq hs
      have e1 := e
      have hj := sIn_lt e1
      have hv : (sVs (.inl (0, w)))[i.toNatClampNeg]? = some (w[i.toNatClampNeg]'hj) := List.getElem?_eq_getElem hj
      have ht := (th.1.2.1 a _ ha hq).2 i.toNatClampNeg _ hv
      rw [g] at e1
      refine k e1 _ (qH_pI th hq hv (tVk_ty ht (Or.inl rfl)) (fun _ => ⟨x, rfl⟩) (fun _ => ht))
    · cases hz
  · cases hz) (fun g D cl sl => sNo he rfl g rfl rfl rfl rfl)
theorem q_bastore {a n : Nat} {i : Int32} {x : Int32} (th : qH h I L R) (he : mE (mtv K) pc = some (.bastore, ln, a1, a2)) (ha : a < 119) (hs : tShF a = (1, 1, n)) (k : sIn i n = true → ∀ h', qH h' (upI I a i.toNatClampNeg x) L R → qW K N (pc + 1) lv st h' Q) : qW K N pc lv (.int x :: .int i :: .ref a :: st) h Q := q_H he rfl (fun z hz => by
  unfold sHp at hz; dsimp only at hz
  split at hz
  · next w hq =>
    split at hz
    · next e =>
      cases hz
      obtain ⟨-, g⟩ := tSh_ln th.1 ha hq hs
      obtain ⟨e1, ex⟩ := e
      have hj := sIn_lt e1
      have hv : (sVs (.inl (1, w)))[i.toNatClampNeg]? = some (w[i.toNatClampNeg]'hj) := List.getElem?_eq_getElem hj
      have ht := (th.1.2.1 a _ ha hq).2 i.toNatClampNeg _ hv
      rw [g] at e1
      refine k e1 _ (qH_pI th hq hv (tVk_ty ht (Or.inr rfl)) (fun _ => (ex.elim (fun q => Or.inl (by rw [q])) (fun q => Or.inr (by rw [q])))) (fun _ => ht))
    · cases hz
  · cases hz) (fun g D cl sl => sNo he rfl g rfl rfl rfl rfl)
theorem q_lastore {a n : Nat} {i : Int32} {x : Int64} (th : qH h I L R) (he : mE (mtv K) pc = some (.lastore, ln, a1, a2)) (ha : a < 119) (hs : tShF a = (1, 2, n)) (k : sIn i n = true → ∀ h', qH h' I (upL L a i.toNatClampNeg x) R → qW K N (pc + 1) lv st h' Q) : qW K N pc lv (.long x :: .int i :: .ref a :: st) h Q := q_H he rfl (fun z hz => by
  unfold sHp at hz; dsimp only at hz
  split at hz
  · next w hq =>
    split at hz
    · next e =>
      cases hz
      obtain ⟨-, g⟩ := tSh_ln th.1 ha hq hs
      have e1 := e
      have hj := sIn_lt e1
      have hv : (sVs (.inl (2, w)))[i.toNatClampNeg]? = some (w[i.toNatClampNeg]'hj) := List.getElem?_eq_getElem hj
      have ht := (th.1.2.1 a _ ha hq).2 i.toNatClampNeg _ hv
      rw [g] at e1
      refine k e1 _ (qH_pL th ha (fun e => ?_) hq hv ht ⟨x, rfl⟩)
      subst e
      exact absurd (congrArg (fun z : Nat × Nat × Nat => z.2.1) hs) (show ¬ (6 : Nat) = 2 by decide)
    · cases hz
  · cases hz) (fun g D cl sl => sNo he rfl g rfl rfl rfl rfl)
theorem q_iastoreN {a : Nat} {i : Int32} {x : Int32} (th : qH h I L R) (he : mE (mtv K) pc = some (.iastore, ln, a1, a2)) (ha : 119 ≤ a) (k : sIn i 6 = true → ∀ h', qH h' (upI I a i.toNatClampNeg x) L R → qW K N (pc + 1) lv st h' Q) : qW K N pc lv (.int x :: .int i :: .ref a :: st) h Q := q_H he rfl (fun z hz => by
  unfold sHp at hz; dsimp only at hz
  split at hz
  · next w hq =>
    split at hz
    · next e =>
      cases hz
      obtain ⟨w', e2, g, g2⟩ := th.1.2.2 a _ ha hq
      cases e2
      have hj := sIn_lt e
      have hv : (sVs (.inl (0, w)))[i.toNatClampNeg]? = some (w[i.toNatClampNeg]'hj) := List.getElem?_eq_getElem hj
      have e1 := e
      rw [g] at e1
      exact k e1 _ (qH_pI th hq hv (g2 _ (List.getElem_mem hj)) (fun e => absurd e (by omega)) (fun e => absurd e (by omega)))
    · cases hz
  · cases hz) (fun g D cl sl => sNo he rfl g rfl rfl rfl rfl)
theorem q_alen {a n t : Nat} {x : Int32} (th : qH h I L R) (he : mE (mtv K) pc = some (.arraylength, ln, a1, a2)) (ha : a < 119) (hs : tShF a = (1, t, n)) (hx : Int32.ofNat n = x) (k : qW K N (pc + 1) lv (.int x :: st) h Q) : qW K N pc lv (.ref a :: st) h Q := q_H he rfl (fun z hz => by
  unfold sHp at hz; dsimp only at hz
  split at hz
  · next q hq =>
    split at hz
    · next e =>
      cases hz
      obtain ⟨-, g⟩ := tSh_ln (t' := q.1) (w := q.2) th.1 ha hq hs
      subst hx
      dsimp only
      rw [g]
      exact k
    · cases hz
  · cases hz) (fun g D cl sl => sNo he rfl g rfl rfl rfl rfl)
end QR

section QX
variable {K N pc a1 a2 ln : Nat} {Q : sR → Prop} {lv : sL} {st : List Value} {h : sH} {I : Nat → Nat → Int32} {L : Nat → Nat → Int64} {R : Nat → Nat}
theorem lg_0 {x y : Int64} : lg_cmp x y = 0 ↔ x = y := by
  unfold lg_cmp
  by_cases h1 : x > y
  · rw [if_pos h1]
    refine ⟨fun e => absurd e (by decide), fun e => ?_⟩
    subst e
    rw [gt_iff_lt, Int64.lt_iff_toInt_lt] at h1
    exact absurd h1 (Int.lt_irrefl _)
  · rw [if_neg h1]
    by_cases h2 : x = y
    · rw [if_pos h2]; exact ⟨fun _ => h2, fun _ => rfl⟩
    · rw [if_neg h2]; exact ⟨fun e => absurd e (by decide), fun e => absurd e h2⟩
theorem q_ifl_eq {off : Int} {t : Nat} {x y : Int64} (he : mE (mtv K) pc = some (.ifCond .eq off, ln, a1, a2)) (ht : sTg pc off = some t) (k1 : x = y → qW K N t lv st h Q) (k2 : ¬ x = y → qW K N (pc + 3) lv st h Q) : qW K N pc lv (.int (lg_cmp x y) :: st) h Q := q_if_eq he ht (fun e => k1 (lg_0.mp e)) (fun e => k2 (fun q => e (lg_0.mpr q)))
theorem q_ifl_ne {off : Int} {t : Nat} {x y : Int64} (he : mE (mtv K) pc = some (.ifCond .ne off, ln, a1, a2)) (ht : sTg pc off = some t) (k1 : ¬ x = y → qW K N t lv st h Q) (k2 : x = y → qW K N (pc + 3) lv st h Q) : qW K N pc lv (.int (lg_cmp x y) :: st) h Q := q_if_ne he ht (fun e => k1 (fun q => e (lg_0.mpr q))) (fun e => k2 (lg_0.mp e))
theorem q_ldc2_w {ix : Nat} {x : Int64} (he : mE (mtv K) pc = some (.ldc2_w ix, ln, a1, a2)) (hx : Int64.ofNat a1 = x) (k : qW K N (pc + 3) lv (.long x :: st) h Q) : qW K N pc lv st h Q := q_H he rfl (fun z hz => by cases hz; rw [hx]; exact k) (fun g => by cases g)
theorem q_ldc {ix : Nat} {x : Int32} (he : mE (mtv K) pc = some (.ldc ix, ln, a1, a2)) (hx : Int32.ofNat a1 = x) (k : qW K N (pc + 2) lv (.int x :: st) h Q) : qW K N pc lv st h Q := q_H he rfl (fun z hz => by cases hz; rw [hx]; exact k) (fun g => by cases g)
theorem q_ldc_w {ix : Nat} {x : Int32} (he : mE (mtv K) pc = some (.ldc_w ix, ln, a1, a2)) (hx : Int32.ofNat a1 = x) (k : qW K N (pc + 3) lv (.int x :: st) h Q) : qW K N pc lv st h Q := q_H he rfl (fun z hz => by cases hz; rw [hx]; exact k) (fun g => by cases g)
theorem sIn_nn {i : Int32} {n : Nat} (h : sIn i n = true) : 0 ≤ i.toInt := by
  have h1 := sIn_ok h
  unfold vp_in at h1
  have h9 : ¬ i < 0 := fun e => h1 (Or.inl e)
  rw [Int32.lt_iff_toInt_lt] at h9
  have h0 : (0 : Int32).toInt = 0 := rfl
  omega
theorem qB {i : Int32} {n m : Nat} (b : sIn i n = true) (h : m + n ≤ 119) : m + i.toNatClampNeg < 119 := by
  have := sIn_lt b
  omega
theorem qBw {i : Int32} (b : sIn i 6 = true) : tShF (3 + i.toNatClampNeg) = (1, 0, 6) := by
  have h1 : ∀ j, j < 6 → tShF (3 + j) = (1, 0, 6) := by decide
  exact h1 _ (sIn_lt b)
theorem qNeI {x y : Int32} {m n k : Nat} (bx : sIn x n = true) (b2 : sIn y k = true) (c : ¬ x = y) : m + x.toNatClampNeg ≠ m + y.toNatClampNeg := fun e => c (by
  have h1 := sIn_nn bx
  have h2 := sIn_nn b2
  have e1 : x.toNatClampNeg = x.toInt.toNat := rfl
  have e2 : y.toNatClampNeg = y.toInt.toNat := rfl
  apply Int32.toInt_inj.mp
  omega)
theorem qNeJ {x y : Int32} {n k : Nat} (bx : sIn x n = true) (b2 : sIn y k = true) (c : ¬ x = y) : x.toNatClampNeg ≠ y.toNatClampNeg := fun e => qNeI (m := 0) bx b2 c (by rw [e])
theorem hNone {lv : sL} : qLs lv [] := fun j v h => by cases h
/-! a call in a method with handlers -/
def qKh (K N pc : Nat) (lv : sL) (rest : List Value) (Q : sR → Prop) : sR → Prop := fun r => match r with
  | (.inl v, h1) => qW K N (pc + 3) lv (v.toList ++ rest) h1 Q
  | (.inr E, h1) => ∀ hp, sHd (mE (mtv K)) E pc (mT (mtv K)) = some hp → E < 6 → ∀ cl sl z, sCk (mE (mtv K)) lv h1 cl sl (mL (mtv K)) hp = some z → match z with
    | .inl c => qW K N c.1 c.2.1 c.2.2.1 c.2.2.2.1 Q
    | .inr r => Q r
theorem q_callh {i : Instr} {as rest : List Value} (he : mE (mtv K) pc = some (i, ln, a1, a2)) (h1 : ¬ 1000 ≤ a1) (hP : sP (mL (mtv K)) i pc lv st = none) (hH : sHp none i a1 a2 pc lv st h = none) (hr : sRet (mR (mtv K)) i st = none) (ha : ∀ cl sl, sAl (mC (mtv K)) (mS (mtv K)) i a1 pc lv st h cl sl = none) (hi : ∀ q, sInv0 mtv i a1 a2 st h = some q → q = (as, rest)) (hT : (match mT (mtv K) with
    | [] => false
    | _ => true) = true)
    (kk : ∀ r, qGo a1 as h r → qKh K N pc lv rest Q r) : qW K N pc lv st h Q := qW_le (Nat.le_succ N) (q_step1 (fun D cl sl z hz => by
  unfold sStep at hz
  rw [he] at hz; dsimp only at hz
  rw [hP] at hz; dsimp only at hz
  rw [hH] at hz; dsimp only at hz
  rw [hr] at hz; dsimp only at hz
  rw [if_neg h1] at hz
  cases g : sInv0 mtv i a1 a2 st h with
  | none =>
    rw [g] at hz; dsimp only at hz
    rw [ha cl sl] at hz
    cases hz
  | some q =>
    have e := hi q g
    subst e
    rw [g] at hz; dsimp only at hz
    split at hz
    · split at hz
      · next v h2 hg => cases hz; exact fun n r hn hr => kk (.inl v, h2) ⟨D, hg⟩ n D _ _ r hn hr
      · next E h2 hg =>
        have kx := kk (.inr E, h2) ⟨D, hg⟩
        cases gT : mT (mtv K) with
        | nil => rw [gT] at hT; cases hT
        | cons t ts =>
          have hh : ∀ hp, sHd (mE (mtv K)) E pc (t :: ts) = some hp → sHd (mE (mtv K)) E pc (mT (mtv K)) = some hp := fun hp q => by rw [gT]; exact q
          rw [gT] at hz
          dsimp only at hz
          split at hz
          · next hp hg2 =>
            split at hz
            · cases hz
            · next hE =>
              have := kx hp (hh hp hg2) (Nat.lt_of_not_le hE) _ _ z hz
              cases z with
              | inl c => exact fun n r hn hr => this n D _ _ r hn hr
              | inr r => exact this
          · cases hz
      · cases hz
    · cases hz))
theorem q_virtualh {ix o : Nat} {as rest : List Value} (he : mE (mtv K) pc = some (.invokevirtual ix, ln, a1, a2)) (h1 : ¬ 1000 ≤ a1) (hA : sArgs (mN (mtv a1)) st = as) (hR : st.drop (mN (mtv a1)) = .ref o :: rest) (hT : (match mT (mtv K) with
    | [] => false
    | _ => true) = true) (kk : ∀ r, qGo a1 (.ref o :: as) h r → qKh K N pc lv rest Q r) : qW K N pc lv st h Q := q_callh he h1 rfl rfl rfl (fun _ _ => rfl) (fun q g => by
  unfold sInv0 at g; dsimp only at g
  split at g
  · rw [hR] at g; dsimp only at g
    split at g
    · split at g
      · cases g; rw [hA]
      · cases g
    · cases g
  · cases g) hT kk
theorem q_virtualIh {ix o : Nat} {as rest : List Value} (he : mE (mtv K) pc = some (.invokevirtual ix, ln, a1, a2)) (h1 : ¬ 1000 ≤ a1) (hA : sArgs (mN (mtv a1)) st = as) (hR : st.drop (mN (mtv a1)) = .ref o :: rest) (hT : (match mT (mtv K) with
    | [] => false
    | _ => true) = true) (w : ∀ N', qW a1 N' 0 (lv_args 0 (.ref o :: as)) [] h (qKh K N pc lv rest Q)) : qW K N pc lv st h Q := q_virtualh he h1 hA hR hT (fun r g => qGo_w g w)
theorem qKh_v {v : Value} {h1 : sH} {rest : List Value} (k : qW K N (pc + 3) lv (v :: rest) h1 Q) : qKh K N pc lv rest Q (.inl (some v), h1) := k
theorem qKh_n {h1 : sH} {rest : List Value} (k : qW K N (pc + 3) lv rest h1 Q) : qKh K N pc lv rest Q (.inl none, h1) := k
theorem qKh_x {E hp : Nat} {h1 : sH} {rest : List Value} {c : Nat × sL × List Value × sH} (hh : sHd (mE (mtv K)) E pc (mT (mtv K)) = some hp) (hE : E < 6) (hk : ∀ cl sl, sCk (mE (mtv K)) lv h1 cl sl (mL (mtv K)) hp = some (.inl (c.1, c.2.1, c.2.2.1, c.2.2.2, cl, sl))) (k : qW K N c.1 c.2.1 c.2.2.1 c.2.2.2 Q) : qKh K N pc lv rest Q (.inr E, h1) := fun hp' g _ cl sl z hz => by
  rw [hh] at g
  cases g
  rw [hk] at hz
  cases hz
  exact k
theorem qKh_z {E : Nat} {h1 : sH} {rest : List Value} (hh : sHd (mE (mtv K)) E pc (mT (mtv K)) = none) : qKh K N pc lv rest Q (.inr E, h1) := fun hp' g => by
  rw [hh] at g
  cases g
end QX
section QE
variable {K N pc a1 a2 ln : Nat} {Q : sR → Prop} {lv : sL} {st : List Value} {h : sH} {I : Nat → Nat → Int32} {L : Nat → Nat → Int64} {R : Nat → Nat}
theorem q_getIe {ix a : Nat} {x : Int32} (th : qH h I L R) (he : mE (mtv K) pc = some (.getfield ix, ln, a1, a2)) (ha : a < 119) (hk : tIk a1 a2 = true) (hx : I a a2 = x) (k : qW K N (pc + 3) lv (.int x :: st) h Q) : qW K N pc lv (.ref a :: st) h Q := q_getI th he ha hk (by rw [hx]; exact k)
theorem q_getLe {ix a : Nat} {x : Int64} (th : qH h I L R) (he : mE (mtv K) pc = some (.getfield ix, ln, a1, a2)) (ha : a < 119) (hk : tLk a1 a2 = true) (hx : L a a2 = x) (k : qW K N (pc + 3) lv (.long x :: st) h Q) : qW K N pc lv (.ref a :: st) h Q := q_getL th he ha hk (by rw [hx]; exact k)
theorem upI_s {a f : Nat} {x : Int32} : upI I a f x a f = x := if_pos ⟨rfl, rfl⟩
theorem upI_n {a f b g : Nat} {x : Int32} (hn : b ≠ a ∨ g ≠ f) : upI I a f x b g = I b g := if_neg (fun e => hn.elim (fun q => q e.1) (fun q => q e.2))
theorem upI_ne {a f b g : Nat} {x : Int32} (hn : ¬ (b = a ∧ g = f)) : upI I a f x b g = I b g := if_neg hn
theorem upL_s {a f : Nat} {x : Int64} : upL L a f x a f = x := if_pos ⟨rfl, rfl⟩
theorem upL_n {a f b g : Nat} {x : Int64} (hn : b ≠ a ∨ g ≠ f) : upL L a f x b g = L b g := if_neg (fun e => hn.elim (fun q => q e.1) (fun q => q e.2))
theorem upL_ne {a f b g : Nat} {x : Int64} (hn : ¬ (b = a ∧ g = f)) : upL L a f x b g = L b g := if_neg hn
end QE