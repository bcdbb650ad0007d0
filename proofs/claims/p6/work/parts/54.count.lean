/-! part 54: ways counted from both ends -/
def jS (f : Nat → Int32) : Nat → Int32
  | 0 => 0
  | k + 1 => jS f k + f k
theorem jS_ext {f g : Nat → Int32} : ∀ {n : Nat}, (∀ i, i < n → f i = g i) → jS f n = jS g n
  | 0, _ => rfl
  | n + 1, h => by
    show jS f n + f n = jS g n + g n
    rw [jS_ext (fun i hi => h i (by omega)), h n (by omega)]
theorem jS_add {f g : Nat → Int32} : ∀ {n : Nat}, jS (fun i => f i + g i) n = jS f n + jS g n
  | 0 => rfl
  | n + 1 => by
    show jS (fun i => f i + g i) n + (f n + g n) = jS f n + f n + (jS g n + g n)
    rw [jS_add, Int32.add_assoc, Int32.add_assoc, ← Int32.add_assoc (jS g n), Int32.add_comm (jS g n) (f n), Int32.add_assoc (f n)]
theorem jS_0 : ∀ {n : Nat}, jS (fun _ => 0) n = 0
  | 0 => rfl
  | n + 1 => by
    show jS (fun _ => 0) n + 0 = 0
    rw [jS_0]; rfl
theorem jS_mul {a : Int32} {f : Nat → Int32} : ∀ {n : Nat}, jS (fun i => a * f i) n = a * jS f n
  | 0 => (Int32.mul_zero).symm
  | n + 1 => by
    show jS (fun i => a * f i) n + a * f n = a * (jS f n + f n)
    rw [jS_mul, Int32.mul_add]
theorem jS_swap {f : Nat → Nat → Int32} {m : Nat} : ∀ {n : Nat}, jS (fun i => jS (fun j => f i j) m) n = jS (fun j => jS (fun i => f i j) n) m
  | 0 => (jS_0 (n := m)).symm
  | n + 1 => by
    show jS (fun i => jS (fun j => f i j) m) n + jS (fun j => f n j) m = jS (fun j => jS (fun i => f i j) n + f n j) m
    rw [jS_swap, jS_add]
/-- one ways on -/
def bj (b : Bool) : Int32 := if b then 1 else 0
theorem bj_mul (b : Bool) (x : Int32) : bj b * x = if b then x else 0 := by
  cases b
  · exact Int32.zero_mul
  · exact Int32.one_mul x
/-- from the front: how many ways lead to a depth of a chamber -/
def wF (P adj : Nat → Nat → Bool) (m : Nat) : Nat → Nat → Int32
  | 0, d => bj (P 0 d)
  | c + 1, d => bj (P (c + 1) d) * jS (fun e => bj (adj d e) * wF P adj m c e) m
/-- from the end, j chambers on: how many ways lead from a depth of the chamber c to the last one -/
def wU (P adj : Nat → Nat → Bool) (m : Nat) : Nat → Nat → Nat → Int32
  | 0, _, _ => 1
  | j + 1, c, d => jS (fun e => bj (adj e d) * (bj (P (c + 1) e) * wU P adj m j (c + 1) e)) m
theorem wFU {P adj : Nat → Nat → Bool} {m : Nat} : ∀ j c, jS (fun d => wF P adj m c d * wU P adj m j c d) m = jS (fun d => wF P adj m (c + j) d) m
  | 0, c => jS_ext (fun d _ => by
    show wF P adj m c d * 1 = wF P adj m (c + 0) d
    exact Int32.mul_one _)
  | j + 1, c => by
    rw [show c + (j + 1) = (c + 1) + j by omega, ← wFU j (c + 1)]
    have h1 : ∀ d, d < m → wF P adj m c d * wU P adj m (j + 1) c d = jS (fun e => bj (P (c + 1) e) * (bj (adj e d) * wF P adj m c d) * wU P adj m j (c + 1) e) m := fun d _ => by
      show wF P adj m c d * jS (fun e => bj (adj e d) * (bj (P (c + 1) e) * wU P adj m j (c + 1) e)) m = _
      rw [← jS_mul]
      apply jS_ext
      intro e _
      cases adj e d <;> cases P (c + 1) e <;> simp only [bj_mul, Bool.false_eq_true, reduceIte, Int32.mul_zero, Int32.zero_mul]
    have h2 : ∀ e, e < m → wF P adj m (c + 1) e * wU P adj m j (c + 1) e = jS (fun d => bj (P (c + 1) e) * (bj (adj e d) * wF P adj m c d) * wU P adj m j (c + 1) e) m := fun e _ => by
      show bj (P (c + 1) e) * jS (fun d => bj (adj e d) * wF P adj m c d) m * wU P adj m j (c + 1) e = _
      rw [Int32.mul_assoc, Int32.mul_comm (jS _ m), ← Int32.mul_assoc, ← jS_mul]
      apply jS_ext
      intro d _
      rw [Int32.mul_assoc (bj (P (c + 1) e)) _ (wU P adj m j (c + 1) e), Int32.mul_assoc (bj (P (c + 1) e)) (wU P adj m j (c + 1) e), Int32.mul_comm (wU P adj m j (c + 1) e)]
    rw [jS_ext h1, jS_swap, jS_ext h2]
/-- both counts are one -/
theorem w_both {P adj : Nat → Nat → Bool} {m : Nat} (j : Nat) : jS (fun d => bj (P 0 d) * wU P adj m j 0 d) m = jS (fun d => wF P adj m j d) m := by
  have := wFU (P := P) (adj := adj) (m := m) j 0
  rw [Nat.zero_add] at this
  exact this
theorem le_oN {x : Int32} {j : Nat} (hj : j < 2147483648) : x ≤ Int32.ofNat j ↔ x.toNatClampNeg ≤ j := by
  rw [Int32.le_iff_toInt_le, ofN_toInt hj]
  have e : x.toNatClampNeg = x.toInt.toNat := rfl
  omega
/-- the distance of two numbers is at most a limit -/
def adjL (lim x y : Int32) : Bool := decide (¬ lim < (if 0 ≤ x - y then x - y else 0 - (x - y)))
/-- the ways on from a depth, by the ways of the next chamber -/
def wOn (I : Nat → Nat → Int32) (c d lim : Int32) (e : Nat) : Int32 := bj (adjL lim (Int32.ofNat e) d) * I (3 + (c + 1).toNatClampNeg) e
theorem nn_lt (x : Int32) : x.toNatClampNeg < 2147483648 := by
  have e : x.toNatClampNeg = x.toInt.toNat := rfl
  have := i32_rng x
  omega
theorem sem_36 {I : Nat → Nat → Int32} {c d lim : Int32} : ∀ n j r, j ≤ (I 1 2).toNatClampNeg → F_36 I n 18 c d lim (jS (wOn I c d lim) j) (Int32.ofNat j) = some r → r = jS (wOn I c d lim) (I 1 2).toNatClampNeg
  | 0, _, _, _, h => by cases h
  | n + 1, j, r, hj, h => by
    have bm := nn_lt (I 1 2)
    simp only [F_36, reduceIte] at h
    by_cases hq : I 1 2 ≤ Int32.ofNat j
    · rw [if_pos hq] at h
      cases h
      have := (le_oN (by omega)).mp hq
      rw [show j = (I 1 2).toNatClampNeg by omega]
    · rw [if_neg hq, ofN_clamp (by omega), oN_s] at h
      have hl : j < (I 1 2).toNatClampNeg := by
        have := mt (le_oN (by omega)).mpr hq
        omega
      have e : jS (wOn I c d lim) (j + 1) = jS (wOn I c d lim) j + wOn I c d lim j := rfl
      by_cases hp : lim < (if 0 ≤ Int32.ofNat j - d then Int32.ofNat j - d else 0 - (Int32.ofNat j - d))
      · rw [if_pos hp] at h
        refine sem_36 n (j + 1) r hl ?_
        rw [e, show wOn I c d lim j = 0 by unfold wOn adjL; rw [decide_eq_false (fun q => q hp), bj_mul]; rfl, Int32.add_zero]
        exact h
      · rw [if_neg hp] at h
        refine sem_36 n (j + 1) r hl ?_
        rw [e, show wOn I c d lim j = I (3 + (c + 1).toNatClampNeg) j by unfold wOn adjL; rw [decide_eq_true hp, bj_mul]; rfl]
        exact h
def wOnS (I : Nat → Nat → Int32) (c d lim : Int32) : Int32 := if c < I 1 1 - 1 then jS (wOn I c d lim) (I 1 2).toNatClampNeg else 1
theorem sp_36 {h : sH} {r : sR} {c d lim : Int32} {I : Nat → Nat → Int32} {L : Nat → Nat → Int64} {R : Nat → Nat} (th : qH h I L R) (g : qGo 36 [.ref (1), .int c, .int d, .int lim] h r) : r = (.inl (some (.int (wOnS I c d lim))), h) := by
  refine qg_36 (Q := fun r => r = _) th g (fun c1 N lv hl => ?_) (fun c1 => ?_)
  · refine qW_mono ?_ (fl_36 N c d lim 0 0 lv h th hl)
    intro r ⟨n, x, e, q⟩
    have := sem_36 n 0 x (Nat.zero_le _) e
    rw [q, this]; unfold wOnS; rw [if_pos c1]
  · show _ = _
    unfold wOnS; rw [if_neg c1]
def inB (I : Nat → Nat → Int32) (k : Int32) : Bool := (List.range (I 85 31).toNatClampNeg).all (fun c => hs (I 106 c) (I 86 ((6 : Int32) * k + Int32.ofNat c).toNatClampNeg))
def comesB (I : Nat → Nat → Int32) (d k : Int32) : Bool := decide ((I 95 k.toNatClampNeg &&& I 97 d.toNatClampNeg) = 0) && inB I k
theorem sem_233b {I : Nat → Nat → Int32} {k : Int32} : ∀ n c r, c ≤ (I 85 31).toNatClampNeg → (∀ e, e < c → hs (I 106 e) (I 86 ((6 : Int32) * k + Int32.ofNat e).toNatClampNeg) = true) → F_233 I n 20 k (Int32.ofNat c) = some r → r = b2 (inB I k = true)
  | 0, _, _, _, _, h => by cases h
  | n + 1, c, r, hcn, ha, h => by
    have bm := nn_lt (I 85 31)
    simp only [F_233, reduceIte] at h
    by_cases hq : I 85 31 ≤ Int32.ofNat c
    · rw [if_pos hq] at h
      cases h
      have := (le_oN (by omega)).mp hq
      rw [b2_t]
      exact List.all_eq_true.mpr (fun e he => ha e (by have := List.mem_range.mp he; omega))
    · rw [if_neg hq, ofN_clamp (by omega), oN_s] at h
      have := mt (le_oN (by omega)).mpr hq
      by_cases hb : hs (I 106 c) (I 86 ((6 : Int32) * k + Int32.ofNat c).toNatClampNeg) = true
      · rw [if_pos hb] at h
        refine sem_233b n (c + 1) r (by omega) (fun e he => ?_) h
        by_cases e2 : e = c
        · rw [e2]; exact hb
        · exact ha e (by omega)
      · rw [if_neg hb] at h
        cases h
        rw [b2_f]
        exact fun q => hb (List.all_eq_true.mp q c (List.mem_range.mpr (by omega)))
theorem sp_233 {h : sH} {r : sR} {d k : Int32} {I : Nat → Nat → Int32} {L : Nat → Nat → Int64} {R : Nat → Nat} (th : qH h I L R) (g : qGo 233 [.ref (85), .int d, .int k] h r) : r = (.inl (some (.int (b2 (comesB I d k = true)))), h) := by
  refine qg_233 (Q := fun r => r = _) th g (fun _ _ c1 N lv hl => ?_) (fun _ _ c1 => ?_)
  · refine qW_mono ?_ (fl_233 N k 0 lv h th hl)
    intro r ⟨n, x, e, q⟩
    have := sem_233b n 0 x (Nat.zero_le _) (fun e he => absurd he (Nat.not_lt_zero e)) e
    rw [q, this]; unfold comesB; rw [decide_eq_true c1, Bool.true_and]
  · show _ = _
    unfold comesB; rw [decide_eq_false c1, Bool.false_and]; rfl
def layP (I : Nat → Nat → Int32) (d : Int32) (J : Nat → Nat → Int32) : Prop := ∀ dn nk nc, d = Int32.ofNat dn → dn < 32 → I 85 35 = Int32.ofNat nk → I 85 31 = Int32.ofNat nc → nk ≤ 16 → nc ≤ 6 → (∀ k c, k < nk → c < nc → ∃ e, e < 8 ∧ I 86 (6 * k + c) = Int32.ofNat e) → agr 106 J I ∧ pinM I dn nk nc nk 0 J
theorem sp_229 {h : sH} {r : sR} {d : Int32} {I : Nat → Nat → Int32} {L : Nat → Nat → Int64} {R : Nat → Nat} (th : qH h I L R) (g : qGo 229 [.ref (85), .int d] h r) : ∃ J h1, r = (.inl none, h1) ∧ qH h1 J L R ∧ layP I d J := by
  refine qg_229 (Q := fun r => ∃ J h1, r = (.inl none, h1) ∧ qH h1 J L R ∧ layP I d J) g (fun N lv hl => ?_)
  refine qW_mono ?_ ((fl_229 N).1 I d 0 0 lv h th hl)
  intro r ⟨n, x, e, h1, q1, q2⟩
  refine ⟨x.2, h1, q1, q2, ?_⟩
  intro dn nk nc e1 hd hk hc bk bc bd
  subst e1
  exact (sem_229 hd hk hc bk bc bd n).1 I 0 0 x (fun _ _ _ => rfl) (fun c hc => absurd hc (Nat.not_lt_zero c)) (Nat.zero_le _) e
