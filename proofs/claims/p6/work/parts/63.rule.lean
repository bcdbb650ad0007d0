/-! part 63: the search of the class: what rules a key out -/
theorem kN_10 : Int32.ofNat 10 = (10 : Int32) := by decide
theorem letIn_b {a b : Int64} : letIn a b ↔ ∀ n, n < 64 → lb a n = true → lb b n = true := by
  constructor
  · intro h n hn ha
    have := congrArg (fun z => lb z n) h
    simp only [lb_and, lb_nt, lb_0, decide_eq_true hn, ha, Bool.true_and] at this
    cases g : lb b n with
    | true => rfl
    | false => rw [g] at this; cases this
  · intro h
    apply lb_ext
    intro n hn
    rw [lb_and, lb_nt, lb_0, decide_eq_true hn, Bool.true_and]
    cases g : lb a n with
    | false => rfl
    | true => rw [h n hn g]; rfl
theorem letIn_t {a b c : Int64} (h1 : letIn a b) (h2 : letIn b c) : letIn a c := letIn_b.mpr (fun n hn ha => letIn_b.mp h2 n hn (letIn_b.mp h1 n hn ha))
theorem letIn_and {x a b : Int64} : letIn x (a &&& b) ↔ letIn x a ∧ letIn x b := by
  rw [letIn_b, letIn_b, letIn_b]
  constructor
  · intro h
    refine ⟨fun n hn hx => ?_, fun n hn hx => ?_⟩
    · have := h n hn hx
      rw [lb_and, Bool.and_eq_true] at this
      exact this.1
    · have := h n hn hx
      rw [lb_and, Bool.and_eq_true] at this
      exact this.2
  · intro h n hn hx
    rw [lb_and, Bool.and_eq_true]
    exact ⟨h.1 n hn hx, h.2 n hn hx⟩
/-- what the search holds against a key -/
def badV (I : Nat → Nat → Int32) (L : Nat → Nat → Int64) (x : Int64) : Prop := ¬ I 9 4 = 0 ∨ (∃ i, i < (I 9 2).toNatClampNeg ∧ letIn (L 10 i) x) ∨ (∃ i, i < (I 9 3).toNatClampNeg ∧ letIn x (L 11 i)) ∨ ¬ letIn x (L 9 8)
def frS (J I : Nat → Nat → Int32) : Prop := ∀ a b, ¬ (a = 9 ∧ (b = 2 ∨ b = 3 ∨ b = 4)) → J a b = I a b
def frL (K L : Nat → Nat → Int64) : Prop := ∀ a b, ¬ (a = 10 ∨ a = 11 ∨ (a = 9 ∧ b = 8)) → K a b = L a b
/-- a step that rules more keys out: those of B -/
def stp (n k : Nat) (I : Nat → Nat → Int32) (L : Nat → Nat → Int64) (J : Nat → Nat → Int32) (K : Nat → Nat → Int64) (B : Int64 → Prop) : Prop :=
  frS J I ∧ frL K L ∧ (∀ n, lb (K 9 8) n = true → lb (L 9 8) n = true) ∧ ∀ r0 k0, I 9 2 = Int32.ofNat r0 → I 9 3 = Int32.ofNat k0 → r0 + n ≤ 180 → k0 + k ≤ 10 →
    ∃ r1 k1, J 9 2 = Int32.ofNat r1 ∧ r1 ≤ r0 + n ∧ J 9 3 = Int32.ofNat k1 ∧ k1 ≤ k0 + k ∧ ∀ x, badV J K x ↔ badV I L x ∨ B x
theorem stp_0 {I : Nat → Nat → Int32} {L : Nat → Nat → Int64} : stp 0 0 I L I L (fun _ => False) :=
  ⟨fun _ _ _ => rfl, fun _ _ _ => rfl, fun _ h => h, fun r0 k0 h1 h2 _ _ => ⟨r0, k0, h1, Nat.le_refl _, h2, Nat.le_refl _, fun x => ⟨Or.inl, fun q => q.elim id False.elim⟩⟩⟩
theorem stp_c {n k n' k' : Nat} {I J J' : Nat → Nat → Int32} {L K K' : Nat → Nat → Int64} {B B' : Int64 → Prop} (h : stp n k I L J K B) (g : stp n' k' J K J' K' B') : stp (n + n') (k + k') I L J' K' (fun x => B x ∨ B' x) := by
  obtain ⟨h1, h2, h3, h4⟩ := h
  obtain ⟨g1, g2, g3, g4⟩ := g
  refine ⟨fun a b q => (g1 a b q).trans (h1 a b q), fun a b q => (g2 a b q).trans (h2 a b q), fun n q => h3 n (g3 n q), fun r0 k0 e1 e2 l1 l2 => ?_⟩
  obtain ⟨r1, k1, a1, a2, a3, a4, a5⟩ := h4 r0 k0 e1 e2 (by omega) (by omega)
  obtain ⟨r2, k2, b1, b2, b3, b4, b5⟩ := g4 r1 k1 a1 a3 (by omega) (by omega)
  refine ⟨r2, k2, b1, by omega, b3, by omega, fun x => ?_⟩
  rw [b5 x, a5 x]
  exact or_assoc
theorem stp_w {n k n' k' : Nat} {I J : Nat → Nat → Int32} {L K : Nat → Nat → Int64} {B B' : Int64 → Prop} (h : stp n k I L J K B) (hn : n ≤ n') (hk : k ≤ k') (hB : ∀ x, B x ↔ B' x) : stp n' k' I L J K B' := by
  obtain ⟨h1, h2, h3, h4⟩ := h
  refine ⟨h1, h2, h3, fun r0 k0 e1 e2 l1 l2 => ?_⟩
  obtain ⟨r1, k1, a1, a2, a3, a4, a5⟩ := h4 r0 k0 e1 e2 (by omega) (by omega)
  refine ⟨r1, k1, a1, by omega, a3, by omega, fun x => ?_⟩
  rw [a5 x, hB x]
/-- all are ruled out -/
theorem stp_v {I : Nat → Nat → Int32} {L : Nat → Nat → Int64} : stp 0 0 I L (upI I 9 4 1) L (fun _ => True) := by
  refine ⟨fun a b q => upI_ne (fun z => q ⟨z.1, .inr (.inr z.2)⟩), fun _ _ _ => rfl, fun _ h => h, fun r0 k0 h1 h2 _ _ => ⟨r0, k0, (upI_ne (by decide)).trans h1, Nat.le_refl _, (upI_ne (by decide)).trans h2, Nat.le_refl _, fun x => ⟨fun _ => .inr True.intro, fun _ => .inl ?_⟩⟩⟩
  rw [upI_s]; decide
theorem stp_and {I : Nat → Nat → Int32} {L : Nat → Nat → Int64} {y : Int64} : stp 0 0 I L I (upL L 9 8 (L 9 8 &&& y)) (fun x => ¬ letIn x y) := by
  refine ⟨fun _ _ _ => rfl, fun a b q => upL_ne (fun z => q (.inr (.inr z))), fun n h => ?_, fun r0 k0 h1 h2 _ _ => ⟨r0, k0, h1, Nat.le_refl _, h2, Nat.le_refl _, fun x => ?_⟩⟩
  · rw [upL_s, lb_and, Bool.and_eq_true] at h
    exact h.1
  · unfold badV
    have e1 : ∀ i, upL L 9 8 (L 9 8 &&& y) 10 i = L 10 i := fun i => upL_ne (fun z => absurd z.1 (by decide))
    have e2 : ∀ i, upL L 9 8 (L 9 8 &&& y) 11 i = L 11 i := fun i => upL_ne (fun z => absurd z.1 (by decide))
    simp only [e1, e2, upL_s]
    rw [letIn_and]
    constructor
    · rintro (q | q | q | q)
      · exact .inl (.inl q)
      · exact .inl (.inr (.inl q))
      · exact .inl (.inr (.inr (.inl q)))
      · by_cases g : letIn x y
        · exact .inl (.inr (.inr (.inr (fun z => q ⟨z, g⟩))))
        · exact .inr g
    · rintro ((q | q | q | q) | q)
      · exact .inl q
      · exact .inr (.inl q)
      · exact .inr (.inr (.inl q))
      · exact .inr (.inr (.inr (fun z => q z.1)))
      · exact .inr (.inr (.inr (fun z => q z.2)))
def roP (I : Nat → Nat → Int32) (L : Nat → Nat → Int64) (y : Int64) (J : Nat → Nat → Int32) (K : Nat → Nat → Int64) : Prop := stp 1 0 I L J K (fun x => letIn y x)
theorem sem_85 {I : Nat → Nat → Int32} {L : Nat → Nat → Int64} {y : Int64} : ∀ n i r, i ≤ (I 9 2).toNatClampNeg → F_85 n 2 I L y (Int32.ofNat i) = some r → (r = ((), I, L) ∧ ((180 : Int32) ≤ I 9 2 ∨ ∃ i, i < (I 9 2).toNatClampNeg ∧ letIn (L 10 i) y)) ∨ (¬ (180 : Int32) ≤ I 9 2 ∧ r = ((), upI I 9 2 (I 9 2 + 1), upL L 10 (I 9 2).toNatClampNeg y))
  | 0, _, _, _, h => by cases h
  | n + 1, i, r, hi, h => by
    have bm := nn_lt (I 9 2)
    simp only [F_85, reduceIte] at h
    by_cases g : I 9 2 ≤ Int32.ofNat i
    · rw [if_pos g] at h
      by_cases g2 : (180 : Int32) ≤ I 9 2
      · rw [if_pos g2] at h
        cases h
        exact .inl ⟨rfl, .inl g2⟩
      · rw [if_neg g2] at h
        cases h
        exact .inr ⟨g2, rfl⟩
    · rw [if_neg g, ofN_clamp (by omega), oN_s] at h
      have := mt (le_oN (by omega)).mpr g
      by_cases g2 : (L 10 i &&& (y ^^^ 18446744073709551615)) = 0
      · rw [if_pos g2] at h
        cases h
        exact .inl ⟨rfl, .inr ⟨i, by omega, g2⟩⟩
      · rw [if_neg g2] at h
        exact sem_85 n (i + 1) r (by omega) h
theorem sp_85 {h : sH} {r : sR} {y : Int64} {I : Nat → Nat → Int32} {L : Nat → Nat → Int64} {R : Nat → Nat} (th : qH h I L R) (g : qGo 85 [.ref (9), .long y] h r) : ∃ J K h1, r = (.inl none, h1) ∧ qH h1 J K R ∧ roP I L y J K := by
  refine qg_85 (Q := fun r => ∃ J K h1, r = (.inl none, h1) ∧ qH h1 J K R ∧ roP I L y J K) g (fun N lv hl => ?_)
  refine qW_mono ?_ (fl_85 N I L y 0 lv h th hl)
  intro r ⟨n, x, e, h1, q1, q2⟩
  refine ⟨x.2.1, x.2.2, h1, q1, q2, ?_⟩
  rcases sem_85 n 0 x (Nat.zero_le _) e with ⟨e1, e2⟩ | ⟨e1, e2⟩
  · rw [e1]
    refine ⟨fun _ _ _ => rfl, fun _ _ _ => rfl, fun _ h => h, fun r0 k0 a1 a2 l1 l2 => ⟨r0, k0, a1, by omega, a2, by omega, fun z => ⟨Or.inl, ?_⟩⟩⟩
    rintro (q | q)
    · exact q
    · rcases e2 with e2 | ⟨i, e2, e3⟩
      · rw [a1] at e2
        have := (oN_le (a := 180) (by decide) (by omega)).mp e2
        omega
      · exact .inr (.inl ⟨i, e2, letIn_t e3 q⟩)
  · rw [e2]
    dsimp only
    refine ⟨fun a b q => upI_ne (fun z => q ⟨z.1, .inl z.2⟩), fun a b q => upL_ne (fun z => q (.inl z.1)), fun n q => ?_, fun r0 k0 a1 a2 l1 l2 => ?_⟩
    · rwa [upL_ne (fun z => absurd z.1 (by decide))] at q
    · refine ⟨r0 + 1, k0, by rw [upI_s, a1, oN_s], Nat.le_refl _, (upI_ne (by decide)).trans a2, by omega, fun z => ?_⟩
      have f1 : ∀ i, upL L 10 (I 9 2).toNatClampNeg y 11 i = L 11 i := fun i => upL_ne (fun z => absurd z.1 (by decide))
      have f2 : upL L 10 (I 9 2).toNatClampNeg y 9 8 = L 9 8 := upL_ne (fun z => absurd z.1 (by decide))
      have f3 : upI I 9 2 (I 9 2 + 1) 9 4 = I 9 4 := upI_ne (by decide)
      have f4 : upI I 9 2 (I 9 2 + 1) 9 3 = I 9 3 := upI_ne (by decide)
      unfold badV
      simp only [f1, f2, f3, f4, upI_s]
      rw [a1, oN_s, ofN_clamp (by omega), ofN_clamp (by omega)]
      have key : (∃ i, i < r0 + 1 ∧ letIn (upL L 10 r0 y 10 i) z) ↔ (∃ i, i < r0 ∧ letIn (L 10 i) z) ∨ letIn y z := by
        constructor
        · rintro ⟨i, i1, i2⟩
          by_cases e : i = r0
          · rw [e, upL_s] at i2; exact .inr i2
          · rw [upL_ne (fun q => e q.2)] at i2; exact .inl ⟨i, by omega, i2⟩
        · rintro (⟨i, i1, i2⟩ | q)
          · exact ⟨i, by omega, by rw [upL_ne (fun q => by omega)]; exact i2⟩
          · exact ⟨r0, by omega, by rw [upL_s]; exact q⟩
      rw [key]
      constructor
      · rintro (q | (q | q) | q | q)
        · exact .inl (.inl q)
        · exact .inl (.inr (.inl q))
        · exact .inr q
        · exact .inl (.inr (.inr (.inl q)))
        · exact .inl (.inr (.inr (.inr q)))
      · rintro ((q | q | q | q) | q)
        · exact .inl q
        · exact .inr (.inl (.inl q))
        · exact .inr (.inr (.inl q))
        · exact .inr (.inr (.inr q))
        · exact .inr (.inl (.inr q))
def koP (I : Nat → Nat → Int32) (L : Nat → Nat → Int64) (y : Int64) (J : Nat → Nat → Int32) (K : Nat → Nat → Int64) : Prop := stp 0 1 I L J K (fun x => letIn x y)
theorem qg_89 {h : sH} {r : sR} {Q : sR → Prop} {a0 : Int64} {I : Nat → Nat → Int32} {L : Nat → Nat → Int64} {R : Nat → Nat} (th : qH h I L R) (g : qGo 89 [.ref (9), .long (a0)] h r)
    (p1 : ∀ (c1 : (10 : Int32) ≤ (I 9 3)), Q (.inl none, h))
    (p2 : ∀ (c1 : ¬ (10 : Int32) ≤ (I 9 3)), ∀ (bb2 : sIn (I 9 3) 10 = true), ∀ (h5 : sH), ∀ (t6 : qH h5 (upI I 9 3 ((I 9 3) + (1 : Int32))) (upL L 11 ((I 9 3).toNatClampNeg) a0) R), Q (.inl none, h5)) : Q r := by
  refine qGo_w g (fun N => ?_)
  have hl0 : qLs (lv_args 0 [.ref (9), .long (a0)]) [some (.ref (9)), some (.long (a0)), none] := qLs_ar 0
  refine q_aload_n (show mE (mtv 89) 0 = some (.aload_n 0, 1, 0, 0) from rfl) (hl0 0 _ rfl) ?_
  refine q_getI th (show mE (mtv 89) 1 = some (.getfield 22, 3, 7, 3) from rfl) (by decide) rfl ?_
  refine q_aload_n (show mE (mtv 89) 4 = some (.aload_n 0, 1, 0, 0) from rfl) (hl0 0 _ rfl) ?_
  refine q_getR (m := 11) th (show mE (mtv 89) 5 = some (.getfield 15, 3, 7, 1) from rfl) (by decide) rfl rfl ?_
  refine q_alen th (show mE (mtv 89) 8 = some (.arraylength, 1, 0, 0) from rfl) (by decide) rfl kN_10 ?_
  refine q_ic_ge (t := 32) (show mE (mtv 89) 9 = some (.if_icmp .ge 23, 3, 0, 0) from rfl) rfl (fun c1 => ?_) (fun c1 => ?_)
  · refine q_return_ (show mE (mtv 89) 32 = some (.return_, 1, 0, 0) from rfl) ?_
    exact p1 c1
  · refine q_aload_n (show mE (mtv 89) 12 = some (.aload_n 0, 1, 0, 0) from rfl) (hl0 0 _ rfl) ?_
    refine q_getR (m := 11) th (show mE (mtv 89) 13 = some (.getfield 15, 3, 7, 1) from rfl) (by decide) rfl rfl ?_
    refine q_aload_n (show mE (mtv 89) 16 = some (.aload_n 0, 1, 0, 0) from rfl) (hl0 0 _ rfl) ?_
    refine q_getI th (show mE (mtv 89) 17 = some (.getfield 22, 3, 7, 3) from rfl) (by decide) rfl ?_
    refine q_lload_n (show mE (mtv 89) 20 = some (.lload_n 1, 1, 0, 0) from rfl) (hl0 1 _ rfl) ?_
    refine q_lastore (n := 10) th (show mE (mtv 89) 21 = some (.lastore, 1, 0, 0) from rfl) (by decide) rfl (fun bb2 h3 t4 => ?_)
    refine q_aload_n (show mE (mtv 89) 22 = some (.aload_n 0, 1, 0, 0) from rfl) (hl0 0 _ rfl) ?_
    refine q_dupR (show mE (mtv 89) 23 = some (.dup, 1, 0, 0) from rfl) ?_
    refine q_getI t4 (show mE (mtv 89) 24 = some (.getfield 22, 3, 7, 3) from rfl) (by decide) rfl ?_
    refine q_iconst (show mE (mtv 89) 27 = some (.iconst 1, 1, 0, 0) from rfl) kI_1 ?_
    refine q_iadd (show mE (mtv 89) 28 = some (.iadd, 1, 0, 0) from rfl) ?_
    refine q_putI t4 (show mE (mtv 89) 29 = some (.putfield 22, 3, 7, 3) from rfl) (by decide) rfl (fun h5 t6 => ?_)
    refine q_return_ (show mE (mtv 89) 32 = some (.return_, 1, 0, 0) from rfl) ?_
    exact p2 c1 bb2 h5 t6
theorem sp_89 {h : sH} {r : sR} {y : Int64} {I : Nat → Nat → Int32} {L : Nat → Nat → Int64} {R : Nat → Nat} (th : qH h I L R) (g : qGo 89 [.ref (9), .long y] h r) : ∃ J K h1, r = (.inl none, h1) ∧ qH h1 J K R ∧ koP I L y J K := by
  refine qg_89 (Q := fun r => ∃ J K h1, r = (.inl none, h1) ∧ qH h1 J K R ∧ koP I L y J K) th g (fun c1 => ⟨I, L, h, rfl, th, ?_⟩) (fun c1 _ h1 t1 => ⟨_, _, h1, rfl, t1, ?_⟩)
  · refine ⟨fun _ _ _ => rfl, fun _ _ _ => rfl, fun _ h => h, fun r0 k0 a1 a2 l1 l2 => ?_⟩
    rw [a2] at c1
    have := (oN_le (a := 10) (by decide) (by omega)).mp c1
    omega
  · refine ⟨fun a b q => upI_ne (fun z => q ⟨z.1, .inr (.inl z.2)⟩), fun a b q => upL_ne (fun z => q (.inr (.inl z.1))), fun n q => ?_, fun r0 k0 a1 a2 l1 l2 => ?_⟩
    · rwa [upL_ne (fun z => absurd z.1 (by decide))] at q
    · refine ⟨r0, k0 + 1, (upI_ne (by decide)).trans a1, by omega, by rw [upI_s, a2, oN_s], Nat.le_refl _, fun z => ?_⟩
      have f1 : ∀ i, upL L 11 (I 9 3).toNatClampNeg y 10 i = L 10 i := fun i => upL_ne (fun z => absurd z.1 (by decide))
      have f2 : upL L 11 (I 9 3).toNatClampNeg y 9 8 = L 9 8 := upL_ne (fun z => absurd z.1 (by decide))
      have f3 : upI I 9 3 (I 9 3 + 1) 9 4 = I 9 4 := upI_ne (by decide)
      have f4 : upI I 9 3 (I 9 3 + 1) 9 2 = I 9 2 := upI_ne (by decide)
      unfold badV
      simp only [f1, f2, f3, f4, upI_s]
      rw [a2, oN_s, ofN_clamp (by omega), ofN_clamp (by omega)]
      have key : (∃ i, i < k0 + 1 ∧ letIn z (upL L 11 k0 y 11 i)) ↔ (∃ i, i < k0 ∧ letIn z (L 11 i)) ∨ letIn z y := by
        constructor
        · rintro ⟨i, i1, i2⟩
          by_cases e : i = k0
          · rw [e, upL_s] at i2; exact .inr i2
          · rw [upL_ne (fun q => e q.2)] at i2; exact .inl ⟨i, by omega, i2⟩
        · rintro (⟨i, i1, i2⟩ | q)
          · exact ⟨i, by omega, by rw [upL_ne (fun q => by omega)]; exact i2⟩
          · exact ⟨k0, by omega, by rw [upL_s]; exact q⟩
      rw [key]
      constructor
      · rintro (q | q | (q | q) | q)
        · exact .inl (.inl q)
        · exact .inl (.inr (.inl q))
        · exact .inl (.inr (.inr (.inl q)))
        · exact .inr q
        · exact .inl (.inr (.inr (.inr q)))
      · rintro ((q | q | q | q) | q)
        · exact .inl q
        · exact .inr (.inl q)
        · exact .inr (.inr (.inl (.inl q)))
        · exact .inr (.inr (.inr q))
        · exact .inr (.inr (.inl (.inr q)))
/-- what a stray-to-be rules out -/
def lsB (y : Int64) (f : Int32) (x : Int64) : Prop := (¬ f = 0 ∧ letIn y x) ∨ (f = 0 ∧ y = 0)
def lsP (I : Nat → Nat → Int32) (L : Nat → Nat → Int64) (y : Int64) (f : Int32) (J : Nat → Nat → Int32) (K : Nat → Nat → Int64) : Prop := stp 1 0 I L J K (lsB y f)
theorem qg_87 {h : sH} {r : sR} {Q : sR → Prop} {a0 : Int64} {a1 : Int32} {I : Nat → Nat → Int32} {L : Nat → Nat → Int64} {R : Nat → Nat} (th : qH h I L R) (g : qGo 87 [.ref (0), .long (a0), .int (a1)] h r)
    (p1 : ∀ (c1 : a1 = 0), ∀ (c2 : ¬ (a0 = (0 : Int64))), Q (.inl none, h))
    (p2 : ∀ (c1 : a1 = 0), ∀ (c2 : a0 = (0 : Int64)), ∀ (h4 : sH), ∀ (t5 : qH h4 (upI I 9 4 (1 : Int32)) L R), Q (.inl none, h4))
    (p3 : ∀ (c1 : ¬ a1 = 0), ∀ (j6 : Nat → Nat → Int32), ∀ (K10 : Nat → Nat → Int64), ∀ (h7 : sH), ∀ (t8 : qH h7 j6 K10 R), ∀ (e9 : roP I L a0 j6 K10), Q (.inl none, h7)) : Q r := by
  refine qGo_w g (fun N => ?_)
  have hl0 : qLs (lv_args 0 [.ref (0), .long (a0), .int (a1)]) [some (.ref (0)), some (.long (a0)), none, some (.int (a1))] := qLs_ar 0
  refine q_iload_n (show mE (mtv 87) 0 = some (.iload_n 3, 1, 0, 0) from rfl) (hl0 3 _ rfl) ?_
  refine q_if_eq (t := 15) (show mE (mtv 87) 1 = some (.ifCond .eq 14, 3, 0, 0) from rfl) rfl (fun c1 => ?_) (fun c1 => ?_)
  · refine q_lload_n (show mE (mtv 87) 15 = some (.lload_n 1, 1, 0, 0) from rfl) (hl0 1 _ rfl) ?_
    refine q_lconst (show mE (mtv 87) 16 = some (.lconst 0, 1, 0, 0) from rfl) kL_0 ?_
    refine q_lcmp (show mE (mtv 87) 17 = some (.lcmp, 1, 0, 0) from rfl) ?_
    refine q_ifl_ne (t := 28) (show mE (mtv 87) 18 = some (.ifCond .ne 10, 3, 0, 0) from rfl) rfl (fun c2 => ?_) (fun c2 => ?_)
    · refine q_return_ (show mE (mtv 87) 28 = some (.return_, 1, 0, 0) from rfl) ?_
      exact p1 c1 c2
    · refine q_aload_n (show mE (mtv 87) 21 = some (.aload_n 0, 1, 0, 0) from rfl) (hl0 0 _ rfl) ?_
      refine q_getR (m := 9) th (show mE (mtv 87) 22 = some (.getfield 19, 3, 8, 1) from rfl) (by decide) rfl rfl ?_
      refine q_virtualI (show mE (mtv 87) 25 = some (.invokevirtual 567, 3, 88, 7) from rfl) (by decide) rfl rfl rfl (fun _ => ?_)
      have hl3 : qLs (lv_args 0 [.ref (9)]) [some (.ref (9))] := qLs_ar 0
      refine q_aload_n (show mE (mtv 88) 0 = some (.aload_n 0, 1, 0, 0) from rfl) (hl3 0 _ rfl) ?_
      refine q_iconst (show mE (mtv 88) 1 = some (.iconst 1, 1, 0, 0) from rfl) kI_1 ?_
      refine q_putI th (show mE (mtv 88) 2 = some (.putfield 25, 3, 7, 4) from rfl) (by decide) rfl (fun h4 t5 => ?_)
      refine q_return_ (show mE (mtv 88) 5 = some (.return_, 1, 0, 0) from rfl) ?_
      refine qK_n ?_
      refine q_return_ (show mE (mtv 87) 28 = some (.return_, 1, 0, 0) from rfl) ?_
      exact p2 c1 c2 h4 t5
  · refine q_aload_n (show mE (mtv 87) 4 = some (.aload_n 0, 1, 0, 0) from rfl) (hl0 0 _ rfl) ?_
    refine q_getR (m := 9) th (show mE (mtv 87) 5 = some (.getfield 19, 3, 8, 1) from rfl) (by decide) rfl rfl ?_
    refine q_lload_n (show mE (mtv 87) 8 = some (.lload_n 1, 1, 0, 0) from rfl) (hl0 1 _ rfl) ?_
    refine q_virtualE (show mE (mtv 87) 9 = some (.invokevirtual 552, 3, 85, 7) from rfl) (by decide) rfl rfl rfl (fun _ g => sp_85 th g) ?_
    rintro _ ⟨j6, K10, h7, rfl, t8, e9⟩
    refine qK_n ?_
    refine q_goto (t := 28) (show mE (mtv 87) 12 = some (.goto 16, 3, 0, 0) from rfl) rfl ?_
    refine q_return_ (show mE (mtv 87) 28 = some (.return_, 1, 0, 0) from rfl) ?_
    exact p3 c1 j6 K10 h7 t8 e9
theorem sp_87 {h : sH} {r : sR} {y : Int64} {f : Int32} {I : Nat → Nat → Int32} {L : Nat → Nat → Int64} {R : Nat → Nat} (th : qH h I L R) (g : qGo 87 [.ref (0), .long y, .int f] h r) : ∃ J K h1, r = (.inl none, h1) ∧ qH h1 J K R ∧ lsP I L y f J K := by
  refine qg_87 (Q := fun r => ∃ J K h1, r = (.inl none, h1) ∧ qH h1 J K R ∧ lsP I L y f J K) th g (fun c1 c2 => ⟨I, L, h, rfl, th, ?_⟩) (fun c1 c2 h1 t1 => ⟨_, _, h1, rfl, t1, ?_⟩) (fun c1 J K h1 t1 e => ⟨J, K, h1, rfl, t1, ?_⟩)
  · refine stp_w stp_0 (by omega) (by omega) (fun x => ?_)
    unfold lsB
    simp only [c1, c2, not_true_eq_false, false_and, and_false, or_false]
  · refine stp_w stp_v (by omega) (by omega) (fun x => ?_)
    unfold lsB
    simp only [c1, c2, not_true_eq_false, false_and, and_self, false_or]
  · refine stp_w e (by omega) (by omega) (fun x => ?_)
    unfold lsB
    simp only [c1, not_false_eq_true, true_and, false_and, or_false]
/-- the depths beside those of pins -/
def thinM (p : Int64) : Int64 := (p <<< (((1 : Int32)).toInt64 &&& 63)) ||| (((p).toUInt64 >>> (((1 : Int32)).toInt64.toUInt64 &&& Int64.toUInt64 63)).toInt64)
def ltB (nc : Int32) (p : Int64) (f : Int32) (x : Int64) : Prop := ¬ G_91 p 0 0 nc.toNatClampNeg ≤ 0 ∨ (¬ f = 0 ∧ ¬ letIn x (thinM p ^^^ 18446744073709551615))
def ltP (I : Nat → Nat → Int32) (L : Nat → Nat → Int64) (p : Int64) (f : Int32) (J : Nat → Nat → Int32) (K : Nat → Nat → Int64) : Prop := stp 0 0 I L J K (ltB (I 1 1) p f)
theorem qg_90 {h : sH} {r : sR} {Q : sR → Prop} {a0 : Int64} {a1 : Int32} {I : Nat → Nat → Int32} {L : Nat → Nat → Int64} {R : Nat → Nat} (th : qH h I L R) (g : qGo 90 [.ref (0), .long (a0), .int (a1)] h r)
    (p1 : ∀ (c1 : (G_91  (a0) 0 ((0 : Int32)) ((I 1 1)).toNatClampNeg) ≤ 0), ∀ (c2 : a1 = 0), Q (.inl none, h))
    (p2 : ∀ (c1 : (G_91  (a0) 0 ((0 : Int32)) ((I 1 1)).toNatClampNeg) ≤ 0), ∀ (c2 : ¬ a1 = 0), ∀ (h4 : sH), ∀ (t5 : qH h4 I (upL L 9 8 ((L 9 8) &&& (((a0 <<< (((1 : Int32)).toInt64 &&& 63)) ||| (((a0).toUInt64 >>> (((1 : Int32)).toInt64.toUInt64 &&& Int64.toUInt64 63)).toInt64)) ^^^ (18446744073709551615 : Int64)))) R), Q (.inl none, h4))
    (p3 : ∀ (c1 : ¬ (G_91  (a0) 0 ((0 : Int32)) ((I 1 1)).toNatClampNeg) ≤ 0), ∀ (h7 : sH), ∀ (t8 : qH h7 (upI I 9 4 (1 : Int32)) L R), ∀ (c9 : a1 = 0), Q (.inl none, h7))
    (p4 : ∀ (c1 : ¬ (G_91  (a0) 0 ((0 : Int32)) ((I 1 1)).toNatClampNeg) ≤ 0), ∀ (c9 : ¬ a1 = 0), ∀ (h11 : sH), ∀ (t12 : qH h11 (upI I 9 4 (1 : Int32)) (upL L 9 8 ((L 9 8) &&& (((a0 <<< (((1 : Int32)).toInt64 &&& 63)) ||| (((a0).toUInt64 >>> (((1 : Int32)).toInt64.toUInt64 &&& Int64.toUInt64 63)).toInt64)) ^^^ (18446744073709551615 : Int64)))) R), Q (.inl none, h11)) : Q r := by
  refine qGo_w g (fun N => ?_)
  have hl0 : qLs (lv_args 0 [.ref (0), .long (a0), .int (a1)]) [some (.ref (0)), some (.long (a0)), none, some (.int (a1))] := qLs_ar 0
  refine q_aload_n (show mE (mtv 90) 0 = some (.aload_n 0, 1, 0, 0) from rfl) (hl0 0 _ rfl) ?_
  refine q_lload_n (show mE (mtv 90) 1 = some (.lload_n 1, 1, 0, 0) from rfl) (hl0 1 _ rfl) ?_
  refine q_virtualP (show mE (mtv 90) 2 = some (.invokevirtual 276, 3, 91, 8) from rfl) (by decide) rfl rfl rfl (fun _ g => sp_91 th g) ?_
  refine q_if_le (t := 15) (show mE (mtv 90) 5 = some (.ifCond .le 10, 3, 0, 0) from rfl) rfl (fun c1 => ?_) (fun c1 => ?_)
  · refine q_iload_n (show mE (mtv 90) 15 = some (.iload_n 3, 1, 0, 0) from rfl) (hl0 3 _ rfl) ?_
    refine q_if_eq (t := 33) (show mE (mtv 90) 16 = some (.ifCond .eq 17, 3, 0, 0) from rfl) rfl (fun c2 => ?_) (fun c2 => ?_)
    · refine q_return_ (show mE (mtv 90) 33 = some (.return_, 1, 0, 0) from rfl) ?_
      exact p1 c1 c2
    · refine q_aload_n (show mE (mtv 90) 19 = some (.aload_n 0, 1, 0, 0) from rfl) (hl0 0 _ rfl) ?_
      refine q_getR (m := 9) th (show mE (mtv 90) 20 = some (.getfield 19, 3, 8, 1) from rfl) (by decide) rfl rfl ?_
      refine q_lload_n (show mE (mtv 90) 23 = some (.lload_n 1, 1, 0, 0) from rfl) (hl0 1 _ rfl) ?_
      refine q_iconst (show mE (mtv 90) 24 = some (.iconst 1, 1, 0, 0) from rfl) kI_1 ?_
      refine q_lshl (show mE (mtv 90) 25 = some (.lshl, 1, 0, 0) from rfl) ?_
      refine q_lload_n (show mE (mtv 90) 26 = some (.lload_n 1, 1, 0, 0) from rfl) (hl0 1 _ rfl) ?_
      refine q_iconst (show mE (mtv 90) 27 = some (.iconst 1, 1, 0, 0) from rfl) kI_1 ?_
      refine q_lushr (show mE (mtv 90) 28 = some (.lushr, 1, 0, 0) from rfl) ?_
      refine q_lor (show mE (mtv 90) 29 = some (.lor, 1, 0, 0) from rfl) ?_
      refine q_virtualI (show mE (mtv 90) 30 = some (.invokevirtual 576, 3, 92, 7) from rfl) (by decide) rfl rfl rfl (fun _ => ?_)
      have hl3 : qLs (lv_args 0 [.ref (9), .long ((a0 <<< (((1 : Int32)).toInt64 &&& 63)) ||| (((a0).toUInt64 >>> (((1 : Int32)).toInt64.toUInt64 &&& Int64.toUInt64 63)).toInt64))]) [some (.ref (9)), some (.long ((a0 <<< (((1 : Int32)).toInt64 &&& 63)) ||| (((a0).toUInt64 >>> (((1 : Int32)).toInt64.toUInt64 &&& Int64.toUInt64 63)).toInt64))), none] := qLs_ar 0
      refine q_aload_n (show mE (mtv 92) 0 = some (.aload_n 0, 1, 0, 0) from rfl) (hl3 0 _ rfl) ?_
      refine q_dupR (show mE (mtv 92) 1 = some (.dup, 1, 0, 0) from rfl) ?_
      refine q_getL th (show mE (mtv 92) 2 = some (.getfield 47, 3, 7, 8) from rfl) (by decide) rfl ?_
      refine q_lload_n (show mE (mtv 92) 5 = some (.lload_n 1, 1, 0, 0) from rfl) (hl3 1 _ rfl) ?_
      refine q_ldc2_w (show mE (mtv 92) 6 = some (.ldc2_w 57, 3, 18446744073709551615, 0) from rfl) rfl ?_
      refine q_lxor (show mE (mtv 92) 9 = some (.lxor, 1, 0, 0) from rfl) ?_
      refine q_land (show mE (mtv 92) 10 = some (.land, 1, 0, 0) from rfl) ?_
      refine q_putL th (show mE (mtv 92) 11 = some (.putfield 47, 3, 7, 8) from rfl) (by decide) rfl (fun h4 t5 => ?_)
      refine q_return_ (show mE (mtv 92) 14 = some (.return_, 1, 0, 0) from rfl) ?_
      refine qK_n ?_
      refine q_return_ (show mE (mtv 90) 33 = some (.return_, 1, 0, 0) from rfl) ?_
      exact p2 c1 c2 h4 t5
  · refine q_aload_n (show mE (mtv 90) 8 = some (.aload_n 0, 1, 0, 0) from rfl) (hl0 0 _ rfl) ?_
    refine q_getR (m := 9) th (show mE (mtv 90) 9 = some (.getfield 19, 3, 8, 1) from rfl) (by decide) rfl rfl ?_
    refine q_virtualI (show mE (mtv 90) 12 = some (.invokevirtual 567, 3, 88, 7) from rfl) (by decide) rfl rfl rfl (fun _ => ?_)
    have hl6 : qLs (lv_args 0 [.ref (9)]) [some (.ref (9))] := qLs_ar 0
    refine q_aload_n (show mE (mtv 88) 0 = some (.aload_n 0, 1, 0, 0) from rfl) (hl6 0 _ rfl) ?_
    refine q_iconst (show mE (mtv 88) 1 = some (.iconst 1, 1, 0, 0) from rfl) kI_1 ?_
    refine q_putI th (show mE (mtv 88) 2 = some (.putfield 25, 3, 7, 4) from rfl) (by decide) rfl (fun h7 t8 => ?_)
    refine q_return_ (show mE (mtv 88) 5 = some (.return_, 1, 0, 0) from rfl) ?_
    refine qK_n ?_
    refine q_iload_n (show mE (mtv 90) 15 = some (.iload_n 3, 1, 0, 0) from rfl) (hl0 3 _ rfl) ?_
    refine q_if_eq (t := 33) (show mE (mtv 90) 16 = some (.ifCond .eq 17, 3, 0, 0) from rfl) rfl (fun c9 => ?_) (fun c9 => ?_)
    · refine q_return_ (show mE (mtv 90) 33 = some (.return_, 1, 0, 0) from rfl) ?_
      exact p3 c1 h7 t8 c9
    · refine q_aload_n (show mE (mtv 90) 19 = some (.aload_n 0, 1, 0, 0) from rfl) (hl0 0 _ rfl) ?_
      refine q_getR (m := 9) t8 (show mE (mtv 90) 20 = some (.getfield 19, 3, 8, 1) from rfl) (by decide) rfl rfl ?_
      refine q_lload_n (show mE (mtv 90) 23 = some (.lload_n 1, 1, 0, 0) from rfl) (hl0 1 _ rfl) ?_
      refine q_iconst (show mE (mtv 90) 24 = some (.iconst 1, 1, 0, 0) from rfl) kI_1 ?_
      refine q_lshl (show mE (mtv 90) 25 = some (.lshl, 1, 0, 0) from rfl) ?_
      refine q_lload_n (show mE (mtv 90) 26 = some (.lload_n 1, 1, 0, 0) from rfl) (hl0 1 _ rfl) ?_
      refine q_iconst (show mE (mtv 90) 27 = some (.iconst 1, 1, 0, 0) from rfl) kI_1 ?_
      refine q_lushr (show mE (mtv 90) 28 = some (.lushr, 1, 0, 0) from rfl) ?_
      refine q_lor (show mE (mtv 90) 29 = some (.lor, 1, 0, 0) from rfl) ?_
      refine q_virtualI (show mE (mtv 90) 30 = some (.invokevirtual 576, 3, 92, 7) from rfl) (by decide) rfl rfl rfl (fun _ => ?_)
      have hl10 : qLs (lv_args 0 [.ref (9), .long ((a0 <<< (((1 : Int32)).toInt64 &&& 63)) ||| (((a0).toUInt64 >>> (((1 : Int32)).toInt64.toUInt64 &&& Int64.toUInt64 63)).toInt64))]) [some (.ref (9)), some (.long ((a0 <<< (((1 : Int32)).toInt64 &&& 63)) ||| (((a0).toUInt64 >>> (((1 : Int32)).toInt64.toUInt64 &&& Int64.toUInt64 63)).toInt64))), none] := qLs_ar 0
      refine q_aload_n (show mE (mtv 92) 0 = some (.aload_n 0, 1, 0, 0) from rfl) (hl10 0 _ rfl) ?_
      refine q_dupR (show mE (mtv 92) 1 = some (.dup, 1, 0, 0) from rfl) ?_
      refine q_getL t8 (show mE (mtv 92) 2 = some (.getfield 47, 3, 7, 8) from rfl) (by decide) rfl ?_
      refine q_lload_n (show mE (mtv 92) 5 = some (.lload_n 1, 1, 0, 0) from rfl) (hl10 1 _ rfl) ?_
      refine q_ldc2_w (show mE (mtv 92) 6 = some (.ldc2_w 57, 3, 18446744073709551615, 0) from rfl) rfl ?_
      refine q_lxor (show mE (mtv 92) 9 = some (.lxor, 1, 0, 0) from rfl) ?_
      refine q_land (show mE (mtv 92) 10 = some (.land, 1, 0, 0) from rfl) ?_
      refine q_putL t8 (show mE (mtv 92) 11 = some (.putfield 47, 3, 7, 8) from rfl) (by decide) rfl (fun h11 t12 => ?_)
      refine q_return_ (show mE (mtv 92) 14 = some (.return_, 1, 0, 0) from rfl) ?_
      refine qK_n ?_
      refine q_return_ (show mE (mtv 90) 33 = some (.return_, 1, 0, 0) from rfl) ?_
      exact p4 c1 c9 h11 t12
theorem sp_90 {h : sH} {r : sR} {p : Int64} {f : Int32} {I : Nat → Nat → Int32} {L : Nat → Nat → Int64} {R : Nat → Nat} (th : qH h I L R) (g : qGo 90 [.ref (0), .long p, .int f] h r) : ∃ J K h1, r = (.inl none, h1) ∧ qH h1 J K R ∧ ltP I L p f J K := by
  refine qg_90 (Q := fun r => ∃ J K h1, r = (.inl none, h1) ∧ qH h1 J K R ∧ ltP I L p f J K) th g (fun c1 c2 => ⟨I, L, h, rfl, th, ?_⟩) (fun c1 c2 h1 t1 => ⟨_, _, h1, rfl, t1, ?_⟩) (fun c1 h1 t1 c2 => ⟨_, _, h1, rfl, t1, ?_⟩) (fun c1 c2 h1 t1 => ⟨_, _, h1, rfl, t1, ?_⟩)
  · refine stp_w stp_0 (by omega) (by omega) (fun x => ?_)
    unfold ltB
    simp only [c1, c2, not_true_eq_false, false_and, or_false]
  · refine stp_w stp_and (by omega) (by omega) (fun x => ?_)
    show _ ↔ ltB _ _ _ _
    unfold ltB
    simp only [c1, c2, not_true_eq_false, not_false_eq_true, true_and, false_or]
    exact Iff.rfl
  · refine stp_w stp_v (by omega) (by omega) (fun x => ?_)
    unfold ltB
    simp only [c1, not_false_eq_true, true_or]
  · refine stp_w (stp_c stp_v stp_and) (by omega) (by omega) (fun x => ?_)
    unfold ltB
    simp only [c1, not_false_eq_true, true_or]
/-- what a door rules out: its ward, who is wished, whether it is one of those for which a key is searched -/
def liB (I : Nat → Nat → Int32) (L : Nat → Nat → Int64) (wd ws f : Int32) (x : Int64) : Prop :=
  (∃ k, k < (I 0 9).toNatClampNeg ∧ ¬ hs ws (Int32.ofNat k) = true ∧ (I (19 + k) 1 &&& wd) = 0 ∧ lsB (L (19 + k) 0 &&& (G_14 L ws 0 0 (I 0 9).toNatClampNeg ^^^ 18446744073709551615)) f x) ∨ (¬ f = 0 ∧ ¬ (I 1 4 &&& wd) = 0) ∨ (f = 0 ∧ (I 1 4 &&& wd) = 0 ∧ letIn x (G_14 L ws 0 0 (I 0 9).toNatClampNeg)) ∨ (I 0 16 = 0 ∧ ltB (I 1 1) (G_14 L ws 0 0 (I 0 9).toNatClampNeg) f x)
def liP (I : Nat → Nat → Int32) (L : Nat → Nat → Int64) (wd ws f : Int32) (J : Nat → Nat → Int32) (K : Nat → Nat → Int64) : Prop := stp (I 0 9).toNatClampNeg 1 I L J K (liB I L wd ws f)
theorem qg_86 {h : sH} {r : sR} {Q : sR → Prop} {a0 : Int32} {a1 : Int32} {a2 : Int32} {I : Nat → Nat → Int32} {L : Nat → Nat → Int64} {R : Nat → Nat} (th : qH h I L R) (g : qGo 86 [.ref (0), .int (a0), .int (a1), .int (a2)] h r)
    (p1 : ∀ N lv, qLs lv [some (.ref (0)), some (.int (a0)), some (.int (a1)), some (.int (a2)), some (.long (G_14 L (a1) 0 ((0 : Int64)) ((I 0 9)).toNatClampNeg)), none, some (.int (b2 (((I 1 4) &&& a0) = 0))), some (.int ((0 : Int32)))] → qW 86 N 23 lv [] h Q) : Q r := by
  refine qGo_w g (fun N => ?_)
  have hl0 : qLs (lv_args 0 [.ref (0), .int (a0), .int (a1), .int (a2)]) [some (.ref (0)), some (.int (a0)), some (.int (a1)), some (.int (a2)), none, none, none, none] := qLs_ar 4
  refine q_aload_n (show mE (mtv 86) 0 = some (.aload_n 0, 1, 0, 0) from rfl) (hl0 0 _ rfl) ?_
  refine q_iload_n (show mE (mtv 86) 1 = some (.iload_n 2, 1, 0, 0) from rfl) (hl0 2 _ rfl) ?_
  refine q_virtualP (show mE (mtv 86) 2 = some (.invokevirtual 201, 3, 14, 8) from rfl) (by decide) rfl rfl rfl (fun _ g => sp_14 th g) ?_
  refine q_lstore (show mE (mtv 86) 5 = some (.lstore 4, 2, 0, 0) from rfl) (Nat.le_of_ble_eq_true rfl) hl0 (fun lv1 (hl2 : qLs lv1 [some (.ref (0)), some (.int (a0)), some (.int (a1)), some (.int (a2)), some (.long (G_14 L (a1) 0 ((0 : Int64)) ((I 0 9)).toNatClampNeg)), none, none, none]) => ?_)
  refine q_aload_n (show mE (mtv 86) 7 = some (.aload_n 0, 1, 0, 0) from rfl) (hl2 0 _ rfl) ?_
  refine q_getR (m := 1) th (show mE (mtv 86) 8 = some (.getfield 10, 3, 8, 0) from rfl) (by decide) rfl rfl ?_
  refine q_getI th (show mE (mtv 86) 11 = some (.getfield 260, 3, 4, 4) from rfl) (by decide) rfl ?_
  refine q_iload_n (show mE (mtv 86) 14 = some (.iload_n 1, 1, 0, 0) from rfl) (hl2 1 _ rfl) ?_
  refine q_staticP (show mE (mtv 86) 15 = some (.invokestatic 306, 3, 18, 0) from rfl) (by decide) rfl rfl rfl (fun _ g => sp_18 g) ?_
  refine q_istore (show mE (mtv 86) 18 = some (.istore 6, 2, 0, 0) from rfl) (Nat.le_of_ble_eq_true rfl) hl2 (fun lv3 (hl4 : qLs lv3 [some (.ref (0)), some (.int (a0)), some (.int (a1)), some (.int (a2)), some (.long (G_14 L (a1) 0 ((0 : Int64)) ((I 0 9)).toNatClampNeg)), none, some (.int (b2 (((I 1 4) &&& a0) = 0))), none]) => ?_)
  refine q_iconst (show mE (mtv 86) 20 = some (.iconst 0, 1, 0, 0) from rfl) kI_0 ?_
  refine q_istore (show mE (mtv 86) 21 = some (.istore 7, 2, 0, 0) from rfl) (Nat.le_of_ble_eq_true rfl) hl4 (fun lv5 (hl6 : qLs lv5 [some (.ref (0)), some (.int (a0)), some (.int (a1)), some (.int (a2)), some (.long (G_14 L (a1) 0 ((0 : Int64)) ((I 0 9)).toNatClampNeg)), none, some (.int (b2 (((I 1 4) &&& a0) = 0))), some (.int ((0 : Int32)))]) => ?_)
  exact p1 _ lv5 (qLs_wk hl6 (⟨rfl, rfl, rfl, rfl, rfl, rfl, rfl, trivial⟩))
theorem qg_86_23 {N : Nat} {lv : sL} {h : sH} {Q : sR → Prop} {x1 : Int32} {x2 : Int32} {x3 : Int32} {x4 : Int64} {x6 : Int32} {x7 : Int32} {I : Nat → Nat → Int32} {L : Nat → Nat → Int64} {R : Nat → Nat} (th : qH h I L R) (hl : qLs lv [some (.ref (0)), some (.int (x1)), some (.int (x2)), some (.int (x3)), some (.long (x4)), none, some (.int (x6)), some (.int (x7))])
    (p1 : ∀ (c1 : (I 0 9) ≤ x7), ∀ (c2 : x3 = 0), ∀ (c4 : x6 = 0), ∀ (z5 : I 0 16 = 0 ∨ I 0 16 = 1), ∀ (c6 : ¬ (I 0 16) = 0), Q (.inl none, h))
    (p2 : ∀ (c1 : (I 0 9) ≤ x7), ∀ (c2 : x3 = 0), ∀ (c4 : x6 = 0), ∀ (z5 : I 0 16 = 0 ∨ I 0 16 = 1), ∀ (c6 : (I 0 16) = 0), ∀ (j7 : Nat → Nat → Int32), ∀ (K11 : Nat → Nat → Int64), ∀ (h8 : sH), ∀ (t9 : qH h8 j7 K11 R), ∀ (e10 : ltP I L x4 x3 j7 K11), Q (.inl none, h8))
    (p3 : ∀ (c1 : (I 0 9) ≤ x7), ∀ (c2 : x3 = 0), ∀ (c4 : ¬ x6 = 0), ∀ (j12 : Nat → Nat → Int32), ∀ (K16 : Nat → Nat → Int64), ∀ (h13 : sH), ∀ (t14 : qH h13 j12 K16 R), ∀ (e15 : koP I L x4 j12 K16), ∀ (z17 : j12 0 16 = 0 ∨ j12 0 16 = 1), ∀ (c18 : ¬ (j12 0 16) = 0), Q (.inl none, h13))
    (p4 : ∀ (c1 : (I 0 9) ≤ x7), ∀ (c2 : x3 = 0), ∀ (c4 : ¬ x6 = 0), ∀ (j12 : Nat → Nat → Int32), ∀ (K16 : Nat → Nat → Int64), ∀ (e15 : koP I L x4 j12 K16), ∀ (z17 : j12 0 16 = 0 ∨ j12 0 16 = 1), ∀ (c18 : (j12 0 16) = 0), ∀ (j19 : Nat → Nat → Int32), ∀ (K23 : Nat → Nat → Int64), ∀ (h20 : sH), ∀ (t21 : qH h20 j19 K23 R), ∀ (e22 : ltP j12 K16 x4 x3 j19 K23), Q (.inl none, h20))
    (p5 : ∀ (c1 : (I 0 9) ≤ x7), ∀ (c2 : ¬ x3 = 0), ∀ (c24 : ¬ x6 = 0), ∀ (z26 : I 0 16 = 0 ∨ I 0 16 = 1), ∀ (c27 : ¬ (I 0 16) = 0), Q (.inl none, h))
    (p6 : ∀ (c1 : (I 0 9) ≤ x7), ∀ (c2 : ¬ x3 = 0), ∀ (c24 : ¬ x6 = 0), ∀ (z26 : I 0 16 = 0 ∨ I 0 16 = 1), ∀ (c27 : (I 0 16) = 0), ∀ (j28 : Nat → Nat → Int32), ∀ (K32 : Nat → Nat → Int64), ∀ (h29 : sH), ∀ (t30 : qH h29 j28 K32 R), ∀ (e31 : ltP I L x4 x3 j28 K32), Q (.inl none, h29))
    (p7 : ∀ (c1 : (I 0 9) ≤ x7), ∀ (c2 : ¬ x3 = 0), ∀ (c24 : x6 = 0), ∀ (h34 : sH), ∀ (t35 : qH h34 (upI I 9 4 (1 : Int32)) L R), ∀ (c37 : ¬ (I 0 16) = 0), Q (.inl none, h34))
    (p8 : ∀ (c1 : (I 0 9) ≤ x7), ∀ (c2 : ¬ x3 = 0), ∀ (c24 : x6 = 0), ∀ (c37 : (I 0 16) = 0), ∀ (j38 : Nat → Nat → Int32), ∀ (K42 : Nat → Nat → Int64), ∀ (h39 : sH), ∀ (t40 : qH h39 j38 K42 R), ∀ (e41 : ltP (upI I 9 4 (1 : Int32)) L x4 x3 j38 K42), Q (.inl none, h39))
    (p9 : ∀ (c1 : ¬ (I 0 9) ≤ x7), ∀ (c43 : hs x2 x7 = true), ∀ lv, qLs lv [some (.ref (0)), some (.int (x1)), some (.int (x2)), some (.int (x3)), some (.long (x4)), none, some (.int (x6)), some (.int (x7 + (1 : Int32)))] → qW 86 N 23 lv [] h Q)
    (p10 : ∀ (c1 : ¬ (I 0 9) ≤ x7), ∀ (c43 : ¬ (hs x2 x7 = true)), ∀ (bb46 : sIn x7 16 = true), ∀ (c47 : ¬ (((I (19 + (x7).toNatClampNeg) 1) &&& x1) = 0)), ∀ lv, qLs lv [some (.ref (0)), some (.int (x1)), some (.int (x2)), some (.int (x3)), some (.long (x4)), none, some (.int (x6)), some (.int (x7 + (1 : Int32)))] → qW 86 N 23 lv [] h Q)
    (p11 : ∀ (c1 : ¬ (I 0 9) ≤ x7), ∀ (c43 : ¬ (hs x2 x7 = true)), ∀ (bb46 : sIn x7 16 = true), ∀ (c47 : ((I (19 + (x7).toNatClampNeg) 1) &&& x1) = 0), ∀ (j51 : Nat → Nat → Int32), ∀ (K55 : Nat → Nat → Int64), ∀ (h52 : sH), ∀ (t53 : qH h52 j51 K55 R), ∀ (e54 : lsP I L ((L (19 + (x7).toNatClampNeg) 0) &&& (x4 ^^^ (18446744073709551615 : Int64))) x3 j51 K55), ∀ lv, qLs lv [some (.ref (0)), some (.int (x1)), some (.int (x2)), some (.int (x3)), some (.long (x4)), none, some (.int (x6)), some (.int (x7 + (1 : Int32)))] → qW 86 N 23 lv [] h52 Q) : qW 86 (N + 1) 23 lv [] h Q := by
  refine q1_iload (show mE (mtv 86) 23 = some (.iload 7, 2, 0, 0) from rfl) (hl 7 _ rfl) ?_
  refine q_aload_n (show mE (mtv 86) 25 = some (.aload_n 0, 1, 0, 0) from rfl) (hl 0 _ rfl) ?_
  refine q_getI th (show mE (mtv 86) 26 = some (.getfield 88, 3, 8, 9) from rfl) (by decide) rfl ?_
  refine q_ic_ge (t := 86) (show mE (mtv 86) 29 = some (.if_icmp .ge 57, 3, 0, 0) from rfl) rfl (fun c1 => ?_) (fun c1 => ?_)
  · refine q_iload_n (show mE (mtv 86) 86 = some (.iload_n 3, 1, 0, 0) from rfl) (hl 3 _ rfl) ?_
    refine q_if_eq (t := 102) (show mE (mtv 86) 87 = some (.ifCond .eq 15, 3, 0, 0) from rfl) rfl (fun c2 => ?_) (fun c2 => ?_)
    · refine q_iload_n (show mE (mtv 86) 102 = some (.iload_n 3, 1, 0, 0) from rfl) (hl 3 _ rfl) ?_
      refine q_if_ne (t := 120) (show mE (mtv 86) 103 = some (.ifCond .ne 17, 3, 0, 0) from rfl) rfl (fun c3 => ?_) (fun c3 => ?_)
      · exact absurd c2 c3
      · clear c3
        refine q_iload (show mE (mtv 86) 106 = some (.iload 6, 2, 0, 0) from rfl) (hl 6 _ rfl) ?_
        refine q_if_eq (t := 120) (show mE (mtv 86) 108 = some (.ifCond .eq 12, 3, 0, 0) from rfl) rfl (fun c4 => ?_) (fun c4 => ?_)
        · refine q_aload_n (show mE (mtv 86) 120 = some (.aload_n 0, 1, 0, 0) from rfl) (hl 0 _ rfl) ?_
          refine q_getB th (show mE (mtv 86) 121 = some (.getfield 63, 3, 8, 16) from rfl) (by decide) rfl (fun z5 => ?_)
          refine q_if_ne (t := 134) (show mE (mtv 86) 124 = some (.ifCond .ne 10, 3, 0, 0) from rfl) rfl (fun c6 => ?_) (fun c6 => ?_)
          · refine q_return_ (show mE (mtv 86) 134 = some (.return_, 1, 0, 0) from rfl) ?_
            exact p1 c1 c2 c4 z5 c6
          · refine q_aload_n (show mE (mtv 86) 127 = some (.aload_n 0, 1, 0, 0) from rfl) (hl 0 _ rfl) ?_
            refine q_lload (show mE (mtv 86) 128 = some (.lload 4, 2, 0, 0) from rfl) (hl 4 _ rfl) ?_
            refine q_iload_n (show mE (mtv 86) 130 = some (.iload_n 3, 1, 0, 0) from rfl) (hl 3 _ rfl) ?_
            refine q_virtualE (show mE (mtv 86) 131 = some (.invokevirtual 573, 3, 90, 8) from rfl) (by decide) rfl rfl rfl (fun _ g => sp_90 th g) ?_
            rintro _ ⟨j7, K11, h8, rfl, t9, e10⟩
            refine qK_n ?_
            refine q_return_ (show mE (mtv 86) 134 = some (.return_, 1, 0, 0) from rfl) ?_
            exact p2 c1 c2 c4 z5 c6 j7 K11 h8 t9 e10
        · refine q_aload_n (show mE (mtv 86) 111 = some (.aload_n 0, 1, 0, 0) from rfl) (hl 0 _ rfl) ?_
          refine q_getR (m := 9) th (show mE (mtv 86) 112 = some (.getfield 19, 3, 8, 1) from rfl) (by decide) rfl rfl ?_
          refine q_lload (show mE (mtv 86) 115 = some (.lload 4, 2, 0, 0) from rfl) (hl 4 _ rfl) ?_
          refine q_virtualE (show mE (mtv 86) 117 = some (.invokevirtual 570, 3, 89, 7) from rfl) (by decide) rfl rfl rfl (fun _ g => sp_89 th g) ?_
          rintro _ ⟨j12, K16, h13, rfl, t14, e15⟩
          refine qK_n ?_
          refine q_aload_n (show mE (mtv 86) 120 = some (.aload_n 0, 1, 0, 0) from rfl) (hl 0 _ rfl) ?_
          refine q_getB t14 (show mE (mtv 86) 121 = some (.getfield 63, 3, 8, 16) from rfl) (by decide) rfl (fun z17 => ?_)
          refine q_if_ne (t := 134) (show mE (mtv 86) 124 = some (.ifCond .ne 10, 3, 0, 0) from rfl) rfl (fun c18 => ?_) (fun c18 => ?_)
          · refine q_return_ (show mE (mtv 86) 134 = some (.return_, 1, 0, 0) from rfl) ?_
            exact p3 c1 c2 c4 j12 K16 h13 t14 e15 z17 c18
          · refine q_aload_n (show mE (mtv 86) 127 = some (.aload_n 0, 1, 0, 0) from rfl) (hl 0 _ rfl) ?_
            refine q_lload (show mE (mtv 86) 128 = some (.lload 4, 2, 0, 0) from rfl) (hl 4 _ rfl) ?_
            refine q_iload_n (show mE (mtv 86) 130 = some (.iload_n 3, 1, 0, 0) from rfl) (hl 3 _ rfl) ?_
            refine q_virtualE (show mE (mtv 86) 131 = some (.invokevirtual 573, 3, 90, 8) from rfl) (by decide) rfl rfl rfl (fun _ g => sp_90 t14 g) ?_
            rintro _ ⟨j19, K23, h20, rfl, t21, e22⟩
            refine qK_n ?_
            refine q_return_ (show mE (mtv 86) 134 = some (.return_, 1, 0, 0) from rfl) ?_
            exact p4 c1 c2 c4 j12 K16 e15 z17 c18 j19 K23 h20 t21 e22
    · refine q_iload (show mE (mtv 86) 90 = some (.iload 6, 2, 0, 0) from rfl) (hl 6 _ rfl) ?_
      refine q_if_ne (t := 102) (show mE (mtv 86) 92 = some (.ifCond .ne 10, 3, 0, 0) from rfl) rfl (fun c24 => ?_) (fun c24 => ?_)
      · refine q_iload_n (show mE (mtv 86) 102 = some (.iload_n 3, 1, 0, 0) from rfl) (hl 3 _ rfl) ?_
        refine q_if_ne (t := 120) (show mE (mtv 86) 103 = some (.ifCond .ne 17, 3, 0, 0) from rfl) rfl (fun c25 => ?_) (fun c25 => ?_)
        · clear c25
          refine q_aload_n (show mE (mtv 86) 120 = some (.aload_n 0, 1, 0, 0) from rfl) (hl 0 _ rfl) ?_
          refine q_getB th (show mE (mtv 86) 121 = some (.getfield 63, 3, 8, 16) from rfl) (by decide) rfl (fun z26 => ?_)
          refine q_if_ne (t := 134) (show mE (mtv 86) 124 = some (.ifCond .ne 10, 3, 0, 0) from rfl) rfl (fun c27 => ?_) (fun c27 => ?_)
          · refine q_return_ (show mE (mtv 86) 134 = some (.return_, 1, 0, 0) from rfl) ?_
            exact p5 c1 c2 c24 z26 c27
          · refine q_aload_n (show mE (mtv 86) 127 = some (.aload_n 0, 1, 0, 0) from rfl) (hl 0 _ rfl) ?_
            refine q_lload (show mE (mtv 86) 128 = some (.lload 4, 2, 0, 0) from rfl) (hl 4 _ rfl) ?_
            refine q_iload_n (show mE (mtv 86) 130 = some (.iload_n 3, 1, 0, 0) from rfl) (hl 3 _ rfl) ?_
            refine q_virtualE (show mE (mtv 86) 131 = some (.invokevirtual 573, 3, 90, 8) from rfl) (by decide) rfl rfl rfl (fun _ g => sp_90 th g) ?_
            rintro _ ⟨j28, K32, h29, rfl, t30, e31⟩
            refine qK_n ?_
            refine q_return_ (show mE (mtv 86) 134 = some (.return_, 1, 0, 0) from rfl) ?_
            exact p6 c1 c2 c24 z26 c27 j28 K32 h29 t30 e31
        · exact absurd c25 c2
      · refine q_aload_n (show mE (mtv 86) 95 = some (.aload_n 0, 1, 0, 0) from rfl) (hl 0 _ rfl) ?_
        refine q_getR (m := 9) th (show mE (mtv 86) 96 = some (.getfield 19, 3, 8, 1) from rfl) (by decide) rfl rfl ?_
        refine q_virtualI (show mE (mtv 86) 99 = some (.invokevirtual 567, 3, 88, 7) from rfl) (by decide) rfl rfl rfl (fun _ => ?_)
        have hl33 : qLs (lv_args 0 [.ref (9)]) [some (.ref (9))] := qLs_ar 0
        refine q_aload_n (show mE (mtv 88) 0 = some (.aload_n 0, 1, 0, 0) from rfl) (hl33 0 _ rfl) ?_
        refine q_iconst (show mE (mtv 88) 1 = some (.iconst 1, 1, 0, 0) from rfl) kI_1 ?_
        refine q_putI th (show mE (mtv 88) 2 = some (.putfield 25, 3, 7, 4) from rfl) (by decide) rfl (fun h34 t35 => ?_)
        refine q_return_ (show mE (mtv 88) 5 = some (.return_, 1, 0, 0) from rfl) ?_
        refine qK_n ?_
        refine q_iload_n (show mE (mtv 86) 102 = some (.iload_n 3, 1, 0, 0) from rfl) (hl 3 _ rfl) ?_
        refine q_if_ne (t := 120) (show mE (mtv 86) 103 = some (.ifCond .ne 17, 3, 0, 0) from rfl) rfl (fun c36 => ?_) (fun c36 => ?_)
        · clear c36
          refine q_aload_n (show mE (mtv 86) 120 = some (.aload_n 0, 1, 0, 0) from rfl) (hl 0 _ rfl) ?_
          refine q_getIe t35 (show mE (mtv 86) 121 = some (.getfield 63, 3, 8, 16) from rfl) (by decide) rfl (upI_n (Or.inr (by decide))) ?_
          refine q_if_ne (t := 134) (show mE (mtv 86) 124 = some (.ifCond .ne 10, 3, 0, 0) from rfl) rfl (fun c37 => ?_) (fun c37 => ?_)
          · refine q_return_ (show mE (mtv 86) 134 = some (.return_, 1, 0, 0) from rfl) ?_
            exact p7 c1 c2 c24 h34 t35 c37
          · refine q_aload_n (show mE (mtv 86) 127 = some (.aload_n 0, 1, 0, 0) from rfl) (hl 0 _ rfl) ?_
            refine q_lload (show mE (mtv 86) 128 = some (.lload 4, 2, 0, 0) from rfl) (hl 4 _ rfl) ?_
            refine q_iload_n (show mE (mtv 86) 130 = some (.iload_n 3, 1, 0, 0) from rfl) (hl 3 _ rfl) ?_
            refine q_virtualE (show mE (mtv 86) 131 = some (.invokevirtual 573, 3, 90, 8) from rfl) (by decide) rfl rfl rfl (fun _ g => sp_90 t35 g) ?_
            rintro _ ⟨j38, K42, h39, rfl, t40, e41⟩
            refine qK_n ?_
            refine q_return_ (show mE (mtv 86) 134 = some (.return_, 1, 0, 0) from rfl) ?_
            exact p8 c1 c2 c24 c37 j38 K42 h39 t40 e41
        · exact absurd c36 c2
  · refine q_iload_n (show mE (mtv 86) 32 = some (.iload_n 2, 1, 0, 0) from rfl) (hl 2 _ rfl) ?_
    refine q_iload (show mE (mtv 86) 33 = some (.iload 7, 2, 0, 0) from rfl) (hl 7 _ rfl) ?_
    refine q_staticP (show mE (mtv 86) 35 = some (.invokestatic 197, 3, 15, 0) from rfl) (by decide) rfl rfl rfl (fun _ g => sp_15 g) ?_
    refine q_ifb_ne (t := 80) (show mE (mtv 86) 38 = some (.ifCond .ne 42, 3, 0, 0) from rfl) rfl (fun c43 => ?_) (fun c43 => ?_)
    · refine q_iinc (show mE (mtv 86) 80 = some (.iinc 7 1, 3, 0, 0) from rfl) (Nat.le_of_ble_eq_true rfl) hl (hl 7 _ rfl) kI_1 (fun lv44 (hl45 : qLs lv44 [some (.ref (0)), some (.int (x1)), some (.int (x2)), some (.int (x3)), some (.long (x4)), none, some (.int (x6)), some (.int (x7 + (1 : Int32)))]) => ?_)
      refine q_goto (t := 23) (show mE (mtv 86) 83 = some (.goto (-60), 3, 0, 0) from rfl) rfl ?_
      exact p9 c1 c43 lv44 (qLs_wk hl45 (⟨rfl, rfl, rfl, rfl, rfl, rfl, rfl, trivial⟩))
    · refine q_aload_n (show mE (mtv 86) 41 = some (.aload_n 0, 1, 0, 0) from rfl) (hl 0 _ rfl) ?_
      refine q_getR (m := 12) th (show mE (mtv 86) 42 = some (.getfield 25, 3, 8, 2) from rfl) (by decide) rfl rfl ?_
      refine q_iload (show mE (mtv 86) 45 = some (.iload 7, 2, 0, 0) from rfl) (hl 7 _ rfl) ?_
      refine q_aaload (n := 16) (t := 4) (m := 19) th (show mE (mtv 86) 47 = some (.aaload, 1, 0, 0) from rfl) (by decide) rfl (fun _ _ => rfl) (fun bb46 => ?_)
      refine q_getI th (show mE (mtv 86) 48 = some (.getfield 263, 3, 3, 1) from rfl) (qB bb46 (by decide)) rfl ?_
      refine q_iload_n (show mE (mtv 86) 51 = some (.iload_n 1, 1, 0, 0) from rfl) (hl 1 _ rfl) ?_
      refine q_staticP (show mE (mtv 86) 52 = some (.invokestatic 306, 3, 18, 0) from rfl) (by decide) rfl rfl rfl (fun _ g => sp_18 g) ?_
      refine q_ifb_eq (t := 80) (show mE (mtv 86) 55 = some (.ifCond .eq 25, 3, 0, 0) from rfl) rfl (fun c47 => ?_) (fun c47 => ?_)
      · refine q_iinc (show mE (mtv 86) 80 = some (.iinc 7 1, 3, 0, 0) from rfl) (Nat.le_of_ble_eq_true rfl) hl (hl 7 _ rfl) kI_1 (fun lv48 (hl49 : qLs lv48 [some (.ref (0)), some (.int (x1)), some (.int (x2)), some (.int (x3)), some (.long (x4)), none, some (.int (x6)), some (.int (x7 + (1 : Int32)))]) => ?_)
        refine q_goto (t := 23) (show mE (mtv 86) 83 = some (.goto (-60), 3, 0, 0) from rfl) rfl ?_
        exact p10 c1 c43 bb46 c47 lv48 (qLs_wk hl49 (⟨rfl, rfl, rfl, rfl, rfl, rfl, rfl, trivial⟩))
      · refine q_aload_n (show mE (mtv 86) 58 = some (.aload_n 0, 1, 0, 0) from rfl) (hl 0 _ rfl) ?_
        refine q_aload_n (show mE (mtv 86) 59 = some (.aload_n 0, 1, 0, 0) from rfl) (hl 0 _ rfl) ?_
        refine q_getR (m := 12) th (show mE (mtv 86) 60 = some (.getfield 25, 3, 8, 2) from rfl) (by decide) rfl rfl ?_
        refine q_iload (show mE (mtv 86) 63 = some (.iload 7, 2, 0, 0) from rfl) (hl 7 _ rfl) ?_
        refine q_aaload (n := 16) (t := 4) (m := 19) th (show mE (mtv 86) 65 = some (.aaload, 1, 0, 0) from rfl) (by decide) rfl (fun _ _ => rfl) (fun bb50 => ?_)
        refine q_getL th (show mE (mtv 86) 66 = some (.getfield 165, 3, 3, 0) from rfl) (qB bb50 (by decide)) rfl ?_
        refine q_lload (show mE (mtv 86) 69 = some (.lload 4, 2, 0, 0) from rfl) (hl 4 _ rfl) ?_
        refine q_ldc2_w (show mE (mtv 86) 71 = some (.ldc2_w 561, 3, 18446744073709551615, 0) from rfl) rfl ?_
        refine q_lxor (show mE (mtv 86) 74 = some (.lxor, 1, 0, 0) from rfl) ?_
        refine q_land (show mE (mtv 86) 75 = some (.land, 1, 0, 0) from rfl) ?_
        refine q_iload_n (show mE (mtv 86) 76 = some (.iload_n 3, 1, 0, 0) from rfl) (hl 3 _ rfl) ?_
        refine q_virtualE (show mE (mtv 86) 77 = some (.invokevirtual 563, 3, 87, 8) from rfl) (by decide) rfl rfl rfl (fun _ g => sp_87 th g) ?_
        rintro _ ⟨j51, K55, h52, rfl, t53, e54⟩
        refine qK_n ?_
        refine q_iinc (show mE (mtv 86) 80 = some (.iinc 7 1, 3, 0, 0) from rfl) (Nat.le_of_ble_eq_true rfl) hl (hl 7 _ rfl) kI_1 (fun lv56 (hl57 : qLs lv56 [some (.ref (0)), some (.int (x1)), some (.int (x2)), some (.int (x3)), some (.long (x4)), none, some (.int (x6)), some (.int (x7 + (1 : Int32)))]) => ?_)
        refine q_goto (t := 23) (show mE (mtv 86) 83 = some (.goto (-60), 3, 0, 0) from rfl) rfl ?_
        exact p11 c1 c43 bb46 c47 j51 K55 h52 t53 e54 lv56 (qLs_wk hl57 (⟨rfl, rfl, rfl, rfl, rfl, rfl, rfl, trivial⟩))
theorem lk_86 {I : Nat → Nat → Int32} {L : Nat → Nat → Int64} {R : Nat → Nat} {wd ws f x6 : Int32} {x4 : Int64} (hx6 : x6 = b2 ((I 1 4 &&& wd) = 0)) (hx4 : x4 = G_14 L ws 0 0 (I 0 9).toNatClampNeg) : ∀ N J K j lv h, qH h J K R → j ≤ (I 0 9).toNatClampNeg → stp j 0 I L J K (fun x => ∃ k, k < j ∧ ¬ hs ws (Int32.ofNat k) = true ∧ (I (19 + k) 1 &&& wd) = 0 ∧ lsB (L (19 + k) 0 &&& (x4 ^^^ 18446744073709551615)) f x) →
    qLs lv [some (.ref (0)), some (.int (wd)), some (.int (ws)), some (.int (f)), some (.long (x4)), none, some (.int (x6)), some (.int (Int32.ofNat j))] → qW 86 N 23 lv [] h (fun r => ∃ J K h1, r = (.inl none, h1) ∧ qH h1 J K R ∧ liP I L wd ws f J K)
  | 0, _, _, _, _, _, _, _, _, _ => qW_0
  | N + 1, J, K, j, lv, h, th, hj, hs0, hl => by
    have bm := nn_lt (I 0 9)
    have f09 : J 0 9 = I 0 9 := hs0.1 0 9 (by omega)
    have f16 : J 0 16 = I 0 16 := hs0.1 0 16 (by omega)
    have f11 : J 1 1 = I 1 1 := hs0.1 1 1 (by omega)
    have fin : ∀ {J' K' B}, stp j 1 I L J' K' B → j = (I 0 9).toNatClampNeg → (∀ x, B x ↔ liB I L wd ws f x) → liP I L wd ws f J' K' := fun {J' K' B} g e hb => stp_w g (by omega) (Nat.le_refl _) hb
    have en : J 0 9 ≤ Int32.ofNat j → j = (I 0 9).toNatClampNeg := fun c => by
      rw [f09] at c
      have := (le_oN (by omega)).mp c
      omega
    have x60 : x6 = 0 → ¬ (I 1 4 &&& wd) = 0 := fun e q => by
      rw [hx6, b2_t q] at e; exact absurd e (by decide)
    have x61 : ¬ x6 = 0 → (I 1 4 &&& wd) = 0 := fun e => by
      apply Decidable.of_not_not
      intro q
      exact e (by rw [hx6, b2_f q])
    subst hx4
    have nx : ∀ J' K' h', qH h' J' K' R → stp (j + 1) 0 I L J' K' (fun x => ∃ k, k < j + 1 ∧ ¬ hs ws (Int32.ofNat k) = true ∧ (I (19 + k) 1 &&& wd) = 0 ∧ lsB (L (19 + k) 0 &&& (G_14 L ws 0 0 (I 0 9).toNatClampNeg ^^^ 18446744073709551615)) f x) → j < (I 0 9).toNatClampNeg → ∀ lv', qLs lv' [some (.ref (0)), some (.int (wd)), some (.int (ws)), some (.int (f)), some (.long (G_14 L ws 0 0 (I 0 9).toNatClampNeg)), none, some (.int (x6)), some (.int (Int32.ofNat j + 1))] → qW 86 N 23 lv' [] h' (fun r => ∃ J K h1, r = (.inl none, h1) ∧ qH h1 J K R ∧ liP I L wd ws f J K) := fun J' K' h' t' s' hjl lv' hl' => by
      rw [oN_s] at hl'
      exact lk_86 hx6 rfl N J' K' (j + 1) lv' h' t' hjl s' hl'
    have go : ¬ J 0 9 ≤ Int32.ofNat j → j < (I 0 9).toNatClampNeg := fun c => by
      rw [f09] at c
      have := mt (le_oN (by omega)).mpr c
      omega
    have none' : (∀ x, ¬ (¬ hs ws (Int32.ofNat j) = true ∧ (I (19 + j) 1 &&& wd) = 0 ∧ lsB (L (19 + j) 0 &&& (G_14 L ws 0 0 (I 0 9).toNatClampNeg ^^^ 18446744073709551615)) f x)) → stp (j + 1) 0 I L J K (fun x => ∃ k, k < j + 1 ∧ ¬ hs ws (Int32.ofNat k) = true ∧ (I (19 + k) 1 &&& wd) = 0 ∧ lsB (L (19 + k) 0 &&& (G_14 L ws 0 0 (I 0 9).toNatClampNeg ^^^ 18446744073709551615)) f x) := fun hn => stp_w hs0 (by omega) (Nat.le_refl _) (fun x => ⟨fun ⟨k, q1, q2⟩ => ⟨k, by omega, q2⟩, fun ⟨k, q1, q2⟩ => by
      by_cases e : k = j
      · subst e; exact absurd q2 (hn x)
      · exact ⟨k, by omega, q2⟩⟩)
    refine qg_86_23 th hl (fun c1 c2 c4 _ c6 => ?_) (fun c1 c2 c4 _ c6 J1 K1 h1 t1 e1 => ?_) (fun c1 c2 c4 J1 K1 h1 t1 e1 _ c18 => ?_) (fun c1 c2 c4 J1 K1 e1 _ c18 J2 K2 h2 t2 e2 => ?_) (fun c1 c2 c4 _ c6 => ?_) (fun c1 c2 c4 _ c6 J1 K1 h1 t1 e1 => ?_) (fun c1 c2 c4 h1 t1 c6 => ?_) (fun c1 c2 c4 c6 J1 K1 h1 t1 e1 => ?_) (fun c1 c43 lv' hl' => ?_) (fun c1 c43 _ c47 lv' hl' => ?_) (fun c1 c43 _ c47 J1 K1 h1 t1 e1 lv' hl' => ?_)
    · refine ⟨J, K, h, rfl, th, fin (stp_w hs0 (Nat.le_refl _) (by omega) (fun _ => Iff.rfl)) (en c1) (fun x => ?_)⟩
      rw [f16] at c6
      have c5 := x60 c4
      unfold liB
      rw [en c1]
      simp only [c2, c5, c6, not_true_eq_false, false_and, and_false, or_false]
    · refine ⟨J1, K1, h1, rfl, t1, fin (stp_w (stp_c hs0 e1) (by omega) (by omega) (fun _ => Iff.rfl)) (en c1) (fun x => ?_)⟩
      rw [f16] at c6
      have c5 := x60 c4
      unfold liB
      rw [en c1, f11]
      simp only [c2, c5, c6, not_true_eq_false, false_and, and_false, true_and, false_or]
    · have g16 : J1 0 16 = I 0 16 := (e1.1 0 16 (by omega)).trans f16
      refine ⟨J1, K1, h1, rfl, t1, fin (stp_w (stp_c hs0 e1) (by omega) (by omega) (fun _ => Iff.rfl)) (en c1) (fun x => ?_)⟩
      rw [g16] at c18
      have c5 := x61 c4
      unfold liB
      rw [en c1]
      simp only [c2, c5, c18, not_true_eq_false, false_and, true_and, false_or, or_false]
    · have g16 : J1 0 16 = I 0 16 := (e1.1 0 16 (by omega)).trans f16
      have g11 : J1 1 1 = I 1 1 := (e1.1 1 1 (by omega)).trans f11
      refine ⟨J2, K2, h2, rfl, t2, fin (stp_w (stp_c (stp_c hs0 e1) e2) (by omega) (by omega) (fun _ => Iff.rfl)) (en c1) (fun x => ?_)⟩
      rw [g16] at c18
      have c5 := x61 c4
      unfold liB
      rw [en c1, g11]
      simp only [c2, c5, c18, not_true_eq_false, false_and, true_and, false_or]
      exact or_assoc
    · refine ⟨J, K, h, rfl, th, fin (stp_w hs0 (Nat.le_refl _) (by omega) (fun _ => Iff.rfl)) (en c1) (fun x => ?_)⟩
      rw [f16] at c6
      have c5 := x61 c4
      unfold liB
      rw [en c1]
      simp only [c2, c5, c6, not_true_eq_false, false_and, and_false, or_false]
    · refine ⟨J1, K1, h1, rfl, t1, fin (stp_w (stp_c hs0 e1) (by omega) (by omega) (fun _ => Iff.rfl)) (en c1) (fun x => ?_)⟩
      rw [f16] at c6
      have c5 := x61 c4
      unfold liB
      rw [en c1, f11]
      simp only [c2, c5, c6, not_true_eq_false, false_and, and_false, true_and, false_or]
    · refine ⟨_, _, h1, rfl, t1, fin (stp_w (stp_c hs0 stp_v) (by omega) (by omega) (fun _ => Iff.rfl)) (en c1) (fun x => ?_)⟩
      have c5 := x60 c4
      unfold liB
      simp only [c2, c5, not_false_eq_true, and_self, true_or, or_true]
    · refine ⟨_, _, h1, rfl, t1, fin (stp_w (stp_c (stp_c hs0 stp_v) e1) (by omega) (by omega) (fun _ => Iff.rfl)) (en c1) (fun x => ?_)⟩
      have c5 := x60 c4
      unfold liB
      simp only [c2, c5, not_false_eq_true, and_self, true_or, or_true]
    · exact nx J K h th (none' (fun x q => q.1 c43)) (go c1) lv' hl'
    · have hjl := go c1
      rw [ofN_clamp (by omega), hs0.1 (19 + j) 1 (by omega)] at c47
      exact nx J K h th (none' (fun x q => c47 q.2.1)) hjl lv' hl'
    · have hjl := go c1
      rw [ofN_clamp (by omega), hs0.1 (19 + j) 1 (by omega)] at c47
      rw [ofN_clamp (by omega), hs0.2.1 (19 + j) 0 (by omega)] at e1
      refine nx J1 K1 h1 t1 (stp_w (stp_c hs0 e1) (Nat.le_refl _) (Nat.le_refl _) (fun x => ?_)) hjl lv' hl'
      constructor
      · rintro (⟨k, q1, q2⟩ | q)
        · exact ⟨k, by omega, q2⟩
        · exact ⟨j, by omega, c43, c47, q⟩
      · rintro ⟨k, q1, q2⟩
        by_cases e : k = j
        · subst e; exact .inr q2.2.2
        · exact .inl ⟨k, by omega, q2⟩
theorem sp_86 {h : sH} {r : sR} {wd ws f : Int32} {I : Nat → Nat → Int32} {L : Nat → Nat → Int64} {R : Nat → Nat} (th : qH h I L R) (g : qGo 86 [.ref (0), .int wd, .int ws, .int f] h r) : ∃ J K h1, r = (.inl none, h1) ∧ qH h1 J K R ∧ liP I L wd ws f J K := by
  refine qg_86 (Q := fun r => ∃ J K h1, r = (.inl none, h1) ∧ qH h1 J K R ∧ liP I L wd ws f J K) th g (fun N lv hl => ?_)
  exact lk_86 rfl rfl N I L 0 lv h th (Nat.zero_le _) (stp_w stp_0 (Nat.le_refl _) (Nat.le_refl _) (fun x => ⟨False.elim, fun ⟨k, q, _⟩ => absurd q (Nat.not_lt_zero k)⟩)) hl
/-- all depths of the machine -/
def allP (I : Nat → Nat → Int32) (v : Int64) : Prop := ∀ nc m, I 1 1 = Int32.ofNat nc → I 1 2 = Int32.ofNat m → nc ≤ 6 → m ≤ 6 → ∀ c d, d < 8 → (lb v (8 * c + d) = true ↔ c < nc ∧ d < m)
theorem sem_49b {I : Nat → Nat → Int32} {nc m : Nat} (ec : I 1 1 = Int32.ofNat nc) (em : I 1 2 = Int32.ofNat m) (bc : nc ≤ 6) (bm : m ≤ 6) : ∀ n, (∀ i y x r, i ≤ nc → (∀ c d, d < 8 → (lb y (8 * c + d) = true ↔ c < i ∧ d < m)) → F_49 I n 4 y (Int32.ofNat i) x = some r → ∀ c d, d < 8 → (lb r (8 * c + d) = true ↔ c < nc ∧ d < m)) ∧
      (∀ i j y r, i < nc → j ≤ m → (∀ c d, d < 8 → (lb y (8 * c + d) = true ↔ (c < i ∧ d < m ∨ c = i ∧ d < j))) → F_49 I n 15 y (Int32.ofNat i) (Int32.ofNat j) = some r → ∀ c d, d < 8 → (lb r (8 * c + d) = true ↔ c < nc ∧ d < m))
  | 0 => ⟨fun _ _ _ _ _ _ h => (by cases h), fun _ _ _ _ _ _ _ h => (by cases h)⟩
  | n + 1 => by
    obtain ⟨ih1, ih2⟩ := sem_49b ec em bc bm n
    refine ⟨?_, ?_⟩
    · intro i y x r hi hy h
      simp only [F_49, reduceIte] at h
      rw [ec] at h
      by_cases g : Int32.ofNat nc ≤ Int32.ofNat i
      · rw [if_pos g] at h
        cases h
        have := (oN_le (by omega) (by omega)).mp g
        rw [show nc = i by omega]
        exact hy
      · rw [if_neg g] at h
        have := mt (oN_le (by omega) (by omega)).mpr g
        refine ih2 i 0 y r (by omega) (Nat.zero_le _) (fun c d hd => ?_) h
        rw [hy c d hd]
        omega
    · intro i j y r hi hj hy h
      simp only [F_49, Nat.reduceEqDiff, reduceIte] at h
      rw [em] at h
      by_cases g : Int32.ofNat m ≤ Int32.ofNat j
      · rw [if_pos g, oN_s] at h
        have := (oN_le (by omega) (by omega)).mp g
        refine ih1 (i + 1) y _ r hi (fun c d hd => ?_) h
        rw [hy c d hd]
        omega
      · rw [if_neg g, oN_s] at h
        have := mt (oN_le (by omega) (by omega)).mpr g
        refine ih2 i (j + 1) _ r hi (by omega) (fun c d hd => ?_) h
        rw [lb_or, Bool.or_eq_true, hy c d hd, lb_bit (by omega) (by omega), decide_eq_true_eq]
        omega
theorem sp_49 {h : sH} {r : sR} {I : Nat → Nat → Int32} {L : Nat → Nat → Int64} {R : Nat → Nat} (th : qH h I L R) (g : qGo 49 [.ref (1)] h r) : ∃ v, r = (.inl (some (.long v)), h) ∧ allP I v := by
  refine qg_49 (Q := fun r => ∃ v, r = (.inl (some (.long v)), h) ∧ allP I v) g (fun N lv hl => ?_)
  refine qW_mono ?_ ((fl_49 N).1 0 0 0 lv h th hl)
  intro r ⟨n, x, e, q⟩
  exact ⟨x, q, fun nc m ec em bc bm => (sem_49b ec em bc bm n).1 0 0 0 x (Nat.zero_le _) (fun c d hd => by rw [lb_0]; exact ⟨fun z => (by cases z), fun z => absurd z.1 (Nat.not_lt_zero c)⟩) e⟩
/-- a search begins -/
def beP (I : Nat → Nat → Int32) (L : Nat → Nat → Int64) (blk : Int64) (J : Nat → Nat → Int32) (K : Nat → Nat → Int64) : Prop := J 9 2 = 0 ∧ J 9 3 = 0 ∧ J 9 4 = 0 ∧ J 9 5 = I 1 1 ∧ J 9 6 = I 1 2 ∧ J 9 7 = I 1 3 ∧ (∀ a b, a ≠ 9 → J a b = I a b) ∧ (∀ a b, ¬ (a = 9 ∧ b = 8) → K a b = L a b) ∧ ∀ nc m, I 1 1 = Int32.ofNat nc → I 1 2 = Int32.ofNat m → nc ≤ 6 → m ≤ 6 → ∀ c d, d < 8 → (lb (K 9 8) (8 * c + d) = true ↔ (c < nc ∧ d < m) ∧ (byteL blk (Int32.ofNat c) = 0 ∨ lb blk (8 * c + d) = true))
theorem qg_84 {h : sH} {r : sR} {Q : sR → Prop} {a1 : Int64} {I : Nat → Nat → Int32} {L : Nat → Nat → Int64} {R : Nat → Nat} (th : qH h I L R) (g : qGo 84 [.ref (9), .ref (1), .long (a1)] h r)
    (p1 : ∀ (v13 : Int64), ∀ (e14 : allP (upI (upI (upI (upI (upI (upI I 9 2 (0 : Int32)) 9 3 (0 : Int32)) 9 4 (0 : Int32)) 9 5 (I 1 1)) 9 6 (I 1 2)) 9 7 (I 1 3)) v13), ∀ (h15 : sH), ∀ (t16 : qH h15 (upI (upI (upI (upI (upI (upI I 9 2 (0 : Int32)) 9 3 (0 : Int32)) 9 4 (0 : Int32)) 9 5 (I 1 1)) 9 6 (I 1 2)) 9 7 (I 1 3)) (upL L 9 8 v13) R), ∀ N lv, qLs lv [some (.ref (9)), none, some (.long (a1)), none, some (.int ((0 : Int32)))] → qW 84 N 50 lv [] h15 Q) : Q r := by
  refine qGo_w g (fun N => ?_)
  have hl0 : qLs (lv_args 0 [.ref (9), .ref (1), .long (a1)]) [some (.ref (9)), some (.ref (1)), some (.long (a1)), none, none] := qLs_ar 1
  refine q_aload_n (show mE (mtv 84) 0 = some (.aload_n 0, 1, 0, 0) from rfl) (hl0 0 _ rfl) ?_
  refine q_iconst (show mE (mtv 84) 1 = some (.iconst 0, 1, 0, 0) from rfl) kI_0 ?_
  refine q_putI th (show mE (mtv 84) 2 = some (.putfield 18, 3, 7, 2) from rfl) (by decide) rfl (fun h1 t2 => ?_)
  refine q_aload_n (show mE (mtv 84) 5 = some (.aload_n 0, 1, 0, 0) from rfl) (hl0 0 _ rfl) ?_
  refine q_iconst (show mE (mtv 84) 6 = some (.iconst 0, 1, 0, 0) from rfl) kI_0 ?_
  refine q_putI t2 (show mE (mtv 84) 7 = some (.putfield 22, 3, 7, 3) from rfl) (by decide) rfl (fun h3 t4 => ?_)
  refine q_aload_n (show mE (mtv 84) 10 = some (.aload_n 0, 1, 0, 0) from rfl) (hl0 0 _ rfl) ?_
  refine q_iconst (show mE (mtv 84) 11 = some (.iconst 0, 1, 0, 0) from rfl) kI_0 ?_
  refine q_putI t4 (show mE (mtv 84) 12 = some (.putfield 25, 3, 7, 4) from rfl) (by decide) rfl (fun h5 t6 => ?_)
  refine q_aload_n (show mE (mtv 84) 15 = some (.aload_n 0, 1, 0, 0) from rfl) (hl0 0 _ rfl) ?_
  refine q_aload_n (show mE (mtv 84) 16 = some (.aload_n 1, 1, 0, 0) from rfl) (hl0 1 _ rfl) ?_
  refine q_getIe t6 (show mE (mtv 84) 17 = some (.getfield 29, 3, 4, 1) from rfl) (by decide) rfl ((upI_n (Or.inr (by decide))).trans ((upI_n (Or.inr (by decide))).trans (upI_n (Or.inr (by decide))))) ?_
  refine q_putI t6 (show mE (mtv 84) 20 = some (.putfield 34, 3, 7, 5) from rfl) (by decide) rfl (fun h7 t8 => ?_)
  refine q_aload_n (show mE (mtv 84) 23 = some (.aload_n 0, 1, 0, 0) from rfl) (hl0 0 _ rfl) ?_
  refine q_aload_n (show mE (mtv 84) 24 = some (.aload_n 1, 1, 0, 0) from rfl) (hl0 1 _ rfl) ?_
  refine q_getIe t8 (show mE (mtv 84) 25 = some (.getfield 35, 3, 4, 2) from rfl) (by decide) rfl ((upI_n (Or.inr (by decide))).trans ((upI_n (Or.inr (by decide))).trans ((upI_n (Or.inr (by decide))).trans (upI_n (Or.inl (by decide)))))) ?_
  refine q_putI t8 (show mE (mtv 84) 28 = some (.putfield 38, 3, 7, 6) from rfl) (by decide) rfl (fun h9 t10 => ?_)
  refine q_aload_n (show mE (mtv 84) 31 = some (.aload_n 0, 1, 0, 0) from rfl) (hl0 0 _ rfl) ?_
  refine q_aload_n (show mE (mtv 84) 32 = some (.aload_n 1, 1, 0, 0) from rfl) (hl0 1 _ rfl) ?_
  refine q_getIe t10 (show mE (mtv 84) 33 = some (.getfield 39, 3, 4, 3) from rfl) (by decide) rfl ((upI_n (Or.inr (by decide))).trans ((upI_n (Or.inr (by decide))).trans ((upI_n (Or.inr (by decide))).trans ((upI_n (Or.inl (by decide))).trans (upI_n (Or.inr (by decide))))))) ?_
  refine q_putI t10 (show mE (mtv 84) 36 = some (.putfield 42, 3, 7, 7) from rfl) (by decide) rfl (fun h11 t12 => ?_)
  refine q_aload_n (show mE (mtv 84) 39 = some (.aload_n 0, 1, 0, 0) from rfl) (hl0 0 _ rfl) ?_
  refine q_aload_n (show mE (mtv 84) 40 = some (.aload_n 1, 1, 0, 0) from rfl) (hl0 1 _ rfl) ?_
  refine q_virtualE (show mE (mtv 84) 41 = some (.invokevirtual 43, 3, 49, 4) from rfl) (by decide) rfl rfl rfl (fun _ g => sp_49 t12 g) ?_
  rintro _ ⟨v13, rfl, e14⟩
  refine qK_v ?_
  refine q_putL t12 (show mE (mtv 84) 44 = some (.putfield 47, 3, 7, 8) from rfl) (by decide) rfl (fun h15 t16 => ?_)
  refine q_iconst (show mE (mtv 84) 47 = some (.iconst 0, 1, 0, 0) from rfl) kI_0 ?_
  refine q_istore (show mE (mtv 84) 48 = some (.istore 4, 2, 0, 0) from rfl) (Nat.le_of_ble_eq_true rfl) hl0 (fun lv17 (hl18 : qLs lv17 [some (.ref (9)), some (.ref (1)), some (.long (a1)), none, some (.int ((0 : Int32)))]) => ?_)
  exact p1 v13 e14 h15 t16 _ lv17 (qLs_wk hl18 (⟨rfl, rfl, rfl, trivial⟩))
theorem qg_84_50 {N : Nat} {lv : sL} {h : sH} {Q : sR → Prop} {x2 : Int64} {x4 : Int32} {I : Nat → Nat → Int32} {L : Nat → Nat → Int64} {R : Nat → Nat} (th : qH h I L R) (hl : qLs lv [some (.ref (9)), none, some (.long (x2)), none, some (.int (x4))])
    (p1 : ∀ (c1 : (I 9 5) ≤ x4), Q (.inl none, h))
    (p2 : ∀ (c1 : ¬ (I 9 5) ≤ x4), ∀ (c2 : (byteL x2 x4) = (0 : Int64)), ∀ lv, qLs lv [some (.ref (9)), none, some (.long (x2)), none, some (.int (x4 + (1 : Int32)))] → qW 84 N 50 lv [] h Q)
    (p3 : ∀ (c1 : ¬ (I 9 5) ≤ x4), ∀ (c2 : ¬ ((byteL x2 x4) = (0 : Int64))), ∀ (h5 : sH), ∀ (t6 : qH h5 I (upL L 9 8 ((L 9 8) &&& (x2 ||| (((255 : Int64) <<< ((((8 : Int32) * x4)).toInt64 &&& 63)) ^^^ (18446744073709551615 : Int64))))) R), ∀ lv, qLs lv [some (.ref (9)), none, some (.long (x2)), none, some (.int (x4 + (1 : Int32)))] → qW 84 N 50 lv [] h5 Q) : qW 84 (N + 1) 50 lv [] h Q := by
  refine q1_iload (show mE (mtv 84) 50 = some (.iload 4, 2, 0, 0) from rfl) (hl 4 _ rfl) ?_
  refine q_aload_n (show mE (mtv 84) 52 = some (.aload_n 0, 1, 0, 0) from rfl) (hl 0 _ rfl) ?_
  refine q_getI th (show mE (mtv 84) 53 = some (.getfield 34, 3, 7, 5) from rfl) (by decide) rfl ?_
  refine q_ic_ge (t := 100) (show mE (mtv 84) 56 = some (.if_icmp .ge 44, 3, 0, 0) from rfl) rfl (fun c1 => ?_) (fun c1 => ?_)
  · refine q_return_ (show mE (mtv 84) 100 = some (.return_, 1, 0, 0) from rfl) ?_
    exact p1 c1
  · refine q_lload_n (show mE (mtv 84) 59 = some (.lload_n 2, 1, 0, 0) from rfl) (hl 2 _ rfl) ?_
    refine q_iload (show mE (mtv 84) 60 = some (.iload 4, 2, 0, 0) from rfl) (hl 4 _ rfl) ?_
    refine q_staticP (show mE (mtv 84) 62 = some (.invokestatic 51, 3, 23, 0) from rfl) (by decide) rfl rfl rfl (fun _ g => sp_23 g) ?_
    refine q_lconst (show mE (mtv 84) 65 = some (.lconst 0, 1, 0, 0) from rfl) kL_0 ?_
    refine q_lcmp (show mE (mtv 84) 66 = some (.lcmp, 1, 0, 0) from rfl) ?_
    refine q_ifl_eq (t := 94) (show mE (mtv 84) 67 = some (.ifCond .eq 27, 3, 0, 0) from rfl) rfl (fun c2 => ?_) (fun c2 => ?_)
    · refine q_iinc (show mE (mtv 84) 94 = some (.iinc 4 1, 3, 0, 0) from rfl) (Nat.le_of_ble_eq_true rfl) hl (hl 4 _ rfl) kI_1 (fun lv3 (hl4 : qLs lv3 [some (.ref (9)), none, some (.long (x2)), none, some (.int (x4 + (1 : Int32)))]) => ?_)
      refine q_goto (t := 50) (show mE (mtv 84) 97 = some (.goto (-47), 3, 0, 0) from rfl) rfl ?_
      exact p2 c1 c2 lv3 (qLs_wk hl4 (⟨rfl, rfl, rfl, trivial⟩))
    · refine q_aload_n (show mE (mtv 84) 70 = some (.aload_n 0, 1, 0, 0) from rfl) (hl 0 _ rfl) ?_
      refine q_dupR (show mE (mtv 84) 71 = some (.dup, 1, 0, 0) from rfl) ?_
      refine q_getL th (show mE (mtv 84) 72 = some (.getfield 47, 3, 7, 8) from rfl) (by decide) rfl ?_
      refine q_lload_n (show mE (mtv 84) 75 = some (.lload_n 2, 1, 0, 0) from rfl) (hl 2 _ rfl) ?_
      refine q_ldc2_w (show mE (mtv 84) 76 = some (.ldc2_w 55, 3, 255, 0) from rfl) rfl ?_
      refine q_bipush (show mE (mtv 84) 79 = some (.bipush 8, 2, 0, 0) from rfl) kB_8 ?_
      refine q_iload (show mE (mtv 84) 81 = some (.iload 4, 2, 0, 0) from rfl) (hl 4 _ rfl) ?_
      refine q_imul (show mE (mtv 84) 83 = some (.imul, 1, 0, 0) from rfl) ?_
      refine q_lshl (show mE (mtv 84) 84 = some (.lshl, 1, 0, 0) from rfl) ?_
      refine q_ldc2_w (show mE (mtv 84) 85 = some (.ldc2_w 57, 3, 18446744073709551615, 0) from rfl) rfl ?_
      refine q_lxor (show mE (mtv 84) 88 = some (.lxor, 1, 0, 0) from rfl) ?_
      refine q_lor (show mE (mtv 84) 89 = some (.lor, 1, 0, 0) from rfl) ?_
      refine q_land (show mE (mtv 84) 90 = some (.land, 1, 0, 0) from rfl) ?_
      refine q_putL th (show mE (mtv 84) 91 = some (.putfield 47, 3, 7, 8) from rfl) (by decide) rfl (fun h5 t6 => ?_)
      refine q_iinc (show mE (mtv 84) 94 = some (.iinc 4 1, 3, 0, 0) from rfl) (Nat.le_of_ble_eq_true rfl) hl (hl 4 _ rfl) kI_1 (fun lv7 (hl8 : qLs lv7 [some (.ref (9)), none, some (.long (x2)), none, some (.int (x4 + (1 : Int32)))]) => ?_)
      refine q_goto (t := 50) (show mE (mtv 84) 97 = some (.goto (-47), 3, 0, 0) from rfl) rfl ?_
      exact p3 c1 c2 h5 t6 lv7 (qLs_wk hl8 (⟨rfl, rfl, rfl, trivial⟩))
theorem lb_255s {c n : Nat} (hc : c < 7) (hn : n < 64) : lb ((255 : Int64) <<< (((8 : Int32) * Int32.ofNat c).toInt64 &&& 63)) n = decide (8 * c ≤ n ∧ n < 8 * c + 8) := by
  have e := i32_8 (c := c) (by omega)
  have e2 : ((8 : Int32) * Int32.ofNat c).toNatClampNeg = 8 * c := by
    show ((8 : Int32) * Int32.ofNat c).toInt.toNat = _
    rw [e]; rfl
  rw [lb_shlX (by rw [e]; omega) (by rw [e]; omega), e2, lb_255, decide_eq_true hn, Bool.true_and, ← Bool.decide_and]
  exact decide_eq_decide.mpr (by omega)
theorem lk_84 {I : Nat → Nat → Int32} {L : Nat → Nat → Int64} {R : Nat → Nat} {blk v : Int64} {J : Nat → Nat → Int32} (hv : allP I v) (hJ : J 9 5 = I 1 1) : ∀ N K i lv h, qH h J K R → (∀ a b, ¬ (a = 9 ∧ b = 8) → K a b = L a b) → i < 2147483648 → (∀ nc m, I 1 1 = Int32.ofNat nc → I 1 2 = Int32.ofNat m → nc ≤ 6 → m ≤ 6 → i ≤ nc ∧ ∀ c d, d < 8 → (lb (K 9 8) (8 * c + d) = true ↔ (c < nc ∧ d < m) ∧ (i ≤ c ∨ byteL blk (Int32.ofNat c) = 0 ∨ lb blk (8 * c + d) = true))) →
    qLs lv [some (.ref (9)), none, some (.long (blk)), none, some (.int (Int32.ofNat i))] → qW 84 N 50 lv [] h (fun r => ∃ K h1, r = (.inl none, h1) ∧ qH h1 J K R ∧ (∀ a b, ¬ (a = 9 ∧ b = 8) → K a b = L a b) ∧ ∀ nc m, I 1 1 = Int32.ofNat nc → I 1 2 = Int32.ofNat m → nc ≤ 6 → m ≤ 6 → ∀ c d, d < 8 → (lb (K 9 8) (8 * c + d) = true ↔ (c < nc ∧ d < m) ∧ (byteL blk (Int32.ofNat c) = 0 ∨ lb blk (8 * c + d) = true)))
  | 0, _, _, _, _, _, _, _, _, _ => qW_0
  | N + 1, K, i, lv, h, th, hK, hi, hv2, hl => by
    have gi : ¬ J 9 5 ≤ Int32.ofNat i → i < 2147483647 := fun c => by
      have := mt (le_oN hi).mpr c
      have := nn_lt (J 9 5)
      omega
    refine qg_84_50 th hl (fun c1 => ⟨K, h, rfl, th, hK, fun nc m ec em bc bm c d hd => ?_⟩) (fun c1 c2 lv' hl' => ?_) (fun c1 c2 h1 t1 lv' hl' => ?_)
    · obtain ⟨a1, a2⟩ := hv2 nc m ec em bc bm
      rw [a2 c d hd]
      rw [hJ, ec] at c1
      have := (oN_le (by omega) (by omega)).mp c1
      constructor
      · rintro ⟨q1, q2 | q2⟩
        · omega
        · exact ⟨q1, q2⟩
      · rintro ⟨q1, q2⟩
        exact ⟨q1, .inr q2⟩
    · rw [oN_s] at hl'
      have := gi c1
      refine lk_84 hv hJ N K (i + 1) lv' h th hK (by omega) (fun nc m ec em bc bm => ?_) hl'
      obtain ⟨a1, a2⟩ := hv2 nc m ec em bc bm
      rw [hJ, ec] at c1
      have := mt (oN_le (by omega) (by omega)).mpr c1
      refine ⟨by omega, fun c d hd => ?_⟩
      rw [a2 c d hd]
      constructor
      · rintro ⟨q1, q2 | q2⟩
        · by_cases e : c = i
          · subst e; exact ⟨q1, .inr (.inl c2)⟩
          · exact ⟨q1, .inl (by omega)⟩
        · exact ⟨q1, .inr q2⟩
      · rintro ⟨q1, q2 | q2⟩
        · exact ⟨q1, .inl (by omega)⟩
        · exact ⟨q1, .inr q2⟩
    · rw [oN_s] at hl'
      have := gi c1
      refine lk_84 hv hJ N _ (i + 1) lv' h1 t1 (fun a b q => (upL_ne q).trans (hK a b q)) (by omega) (fun nc m ec em bc bm => ?_) hl'
      obtain ⟨a1, a2⟩ := hv2 nc m ec em bc bm
      rw [hJ, ec] at c1
      have := mt (oN_le (by omega) (by omega)).mpr c1
      refine ⟨by omega, fun c d hd => ?_⟩
      by_cases hc : c < nc
      · rw [upL_s, lb_and, lb_or, lb_nt, lb_255s (by omega) (by omega), Bool.and_eq_true, Bool.or_eq_true, a2 c d hd, decide_eq_true (show 8 * c + d < 64 by omega), Bool.true_and, Bool.not_eq_true', decide_eq_false_iff_not]
        constructor
        · rintro ⟨⟨q1, q2⟩, q3⟩
          refine ⟨q1, ?_⟩
          by_cases e : c = i
          · subst e
            exact .inr (.inr (q3.resolve_right (fun z => z (by omega))))
          · rcases q2 with q2 | q2
            · exact .inl (by omega)
            · exact .inr q2
        · rintro ⟨q1, q2⟩
          by_cases e : c = i
          · subst e
            rcases q2 with q2 | q2 | q2
            · omega
            · exact absurd q2 c2
            · exact ⟨⟨q1, .inl (Nat.le_refl _)⟩, .inl q2⟩
          · refine ⟨⟨q1, ?_⟩, .inr (by omega)⟩
            rcases q2 with q2 | q2
            · exact .inl (by omega)
            · exact .inr q2
      · rw [upL_s, lb_and]
        have e : lb (K 9 8) (8 * c + d) = false := Bool.eq_false_iff.mpr (fun q => hc ((a2 c d hd).mp q).1.1)
        rw [e, Bool.false_and]
        exact ⟨fun q => (by cases q), fun q => absurd q.1.1 hc⟩
theorem sp_84 {h : sH} {r : sR} {blk : Int64} {I : Nat → Nat → Int32} {L : Nat → Nat → Int64} {R : Nat → Nat} (th : qH h I L R) (g : qGo 84 [.ref (9), .ref (1), .long blk] h r) : ∃ J K h1, r = (.inl none, h1) ∧ qH h1 J K R ∧ beP I L blk J K := by
  refine qg_84 (Q := fun r => ∃ J K h1, r = (.inl none, h1) ∧ qH h1 J K R ∧ beP I L blk J K) th g (fun v e h1 t1 N lv hl => ?_)
  have e' : allP I v := fun nc m ec em bc bm => e nc m (by simp (disch := decide) only [upI_ne]; exact ec) (by simp (disch := decide) only [upI_ne]; exact em) bc bm
  refine qW_mono ?_ (lk_84 (I := I) (L := L) (blk := blk) e' (by simp (disch := decide) only [upI_ne, upI_s]) N _ 0 lv h1 t1 (fun a b q => upL_ne q) (by decide) (fun nc m ec em bc bm => ⟨Nat.zero_le _, fun c d hd => ?_⟩) hl)
  · intro r ⟨K, h2, q1, q2, q3, q4⟩
    refine ⟨_, K, h2, q1, q2, ?_, ?_, ?_, ?_, ?_, ?_, fun a b q => ?_, q3, q4⟩
    · simp (disch := decide) only [upI_ne, upI_s]
    · simp (disch := decide) only [upI_ne, upI_s]
    · simp (disch := decide) only [upI_ne, upI_s]
    · simp (disch := decide) only [upI_ne, upI_s]
    · simp (disch := decide) only [upI_ne, upI_s]
    · simp (disch := decide) only [upI_ne, upI_s]
    · simp (disch := omega) only [upI_ne]
  · rw [upL_s, e' nc m ec em bc bm c d hd]
    exact ⟨fun q => ⟨q, .inl (Nat.zero_le _)⟩, fun q => q.1⟩
