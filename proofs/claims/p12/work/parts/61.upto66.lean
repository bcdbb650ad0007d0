/-! some parts, joined -/
section
/-! part 61: all keys that could be cut, as numbers: a number's digits are the depths -/
noncomputable def nS (f : Nat → Nat) : Nat → Nat
  | 0 => 0
  | k + 1 => nS f k + f k
theorem nS_ext {f g : Nat → Nat} : ∀ {n : Nat}, (∀ i, i < n → f i = g i) → nS f n = nS g n
  | 0, _ => rfl
  | n + 1, h => by
    show nS f n + f n = nS g n + g n
    rw [nS_ext (fun i hi => h i (by omega)), h n (by omega)]
theorem nS_0 : ∀ {n : Nat}, nS (fun _ => 0) n = 0
  | 0 => rfl
  | n + 1 => by
    show nS (fun _ => 0) n + 0 = 0
    rw [nS_0]
theorem nS_app {f : Nat → Nat} {a : Nat} : ∀ b, nS f (a + b) = nS f a + nS (fun i => f (a + i)) b
  | 0 => rfl
  | b + 1 => by
    show nS f (a + b) + f (a + b) = nS f a + (nS (fun i => f (a + i)) b + f (a + b))
    rw [nS_app b, Nat.add_assoc]
theorem nS_blk {f : Nat → Nat} {b : Nat} : ∀ a, nS f (a * b) = nS (fun d => nS (fun i => f (d * b + i)) b) a
  | 0 => by rw [Nat.zero_mul]; rfl
  | a + 1 => by
    rw [Nat.succ_mul, nS_app, nS_blk a]; rfl
theorem nS_mul {f : Nat → Nat} {x : Nat} : ∀ n, nS (fun i => x * f i) n = x * nS f n
  | 0 => rfl
  | n + 1 => by
    show nS (fun i => x * f i) n + x * f n = x * (nS f n + f n)
    rw [nS_mul n, Nat.mul_add]
theorem nS_le {f : Nat → Nat} {x : Nat} (h : ∀ i, f i ≤ x) : ∀ n, nS f n ≤ x * n
  | 0 => Nat.zero_le _
  | n + 1 => by
    have h1 := nS_le h n
    have h2 := h n
    show nS f n + f n ≤ x * (n + 1)
    rw [Nat.mul_succ]
    omega
theorem jS_oN {f : Nat → Nat} : ∀ n, jS (fun i => Int32.ofNat (f i)) n = Int32.ofNat (nS f n)
  | 0 => rfl
  | n + 1 => by
    show jS (fun i => Int32.ofNat (f i)) n + Int32.ofNat (f n) = Int32.ofNat (nS f n + f n)
    rw [jS_oN n, Int32.ofNat_add]
noncomputable def bn (b : Bool) : Nat := if b then 1 else 0
theorem bn_le (b : Bool) : bn b ≤ 1 := by cases b <;> decide
theorem bj_bn (b : Bool) : bj b = Int32.ofNat (bn b) := by cases b <;> rfl
theorem bn_and (a b : Bool) : bn (a && b) = bn a * bn b := by cases a <;> cases b <;> rfl
theorem bn_t : bn true = 1 := rfl
theorem bn_f : bn false = 0 := rfl
noncomputable def pB (p : Prop) : Bool := @decide p (Classical.propDecidable p)
theorem pB_t {p : Prop} (h : p) : pB p = true := @decide_eq_true p (Classical.propDecidable p) h
theorem pB_f {p : Prop} (h : ¬ p) : pB p = false := @decide_eq_false p (Classical.propDecidable p) h
theorem pB_iff {p : Prop} : pB p = true ↔ p := by
  by_cases h : p
  · exact ⟨fun _ => h, fun _ => pB_t h⟩
  · rw [pB_f h]; exact ⟨fun q => (by cases q), fun q => absurd q h⟩
theorem pB_cg {p q : Prop} (h : p ↔ q) : pB p = pB q := by
  by_cases g : p
  · rw [pB_t g, pB_t (h.mp g)]
  · rw [pB_f g, pB_f (fun z => g (h.mpr z))]
theorem pB_and {p q : Prop} : pB (p ∧ q) = (pB p && pB q) := by
  by_cases g : p
  · rw [pB_t g, Bool.true_and]; exact pB_cg ⟨fun z => z.2, fun z => ⟨g, z⟩⟩
  · rw [pB_f g, pB_f (fun z => g z.1)]; rfl
/-- how many numbers from lo on, k of them, are so -/
noncomputable def cK (f : Nat → Prop) (lo k : Nat) : Nat := nS (fun i => bn (pB (f (lo + i)))) k
theorem cK_0 {f : Nat → Prop} {lo : Nat} : cK f lo 0 = 0 := rfl
theorem cK_1 {f : Nat → Prop} {lo : Nat} : cK f lo 1 = bn (pB (f lo)) := Nat.zero_add _
theorem cK_s {f : Nat → Prop} {lo k : Nat} : cK f lo (k + 1) = cK f lo k + bn (pB (f (lo + k))) := rfl
theorem cK_app {f : Nat → Prop} {lo a b : Nat} : cK f lo (a + b) = cK f lo a + cK f (lo + a) b := by
  unfold cK
  rw [nS_app]
  congr 1
  exact nS_ext (fun i _ => by rw [Nat.add_assoc])
theorem cK_ext {f g : Nat → Prop} {lo k : Nat} (h : ∀ N, lo ≤ N → N < lo + k → (f N ↔ g N)) : cK f lo k = cK g lo k := nS_ext (fun i hi => congrArg bn (pB_cg (h (lo + i) (by omega) (by omega))))
theorem cK_and {f g : Nat → Prop} {b : Bool} {lo k : Nat} (h : ∀ N, lo ≤ N → N < lo + k → (f N ↔ b = true ∧ g N)) : cK f lo k = bn b * cK g lo k := by
  unfold cK
  rw [← nS_mul]
  refine nS_ext (fun i hi => ?_)
  rw [pB_cg (h (lo + i) (by omega) (by omega)), pB_and, bn_and]
  congr 2
  cases b
  · exact pB_f (by decide)
  · exact pB_t rfl
theorem cK_blk {f : Nat → Prop} {lo b : Nat} (a : Nat) : cK f lo (a * b) = nS (fun d => cK f (lo + d * b) b) a := by
  unfold cK
  rw [nS_blk]
  exact nS_ext (fun d _ => nS_ext (fun i _ => by rw [Nat.add_assoc]))
theorem cK_le {f : Nat → Prop} {lo k : Nat} : cK f lo k ≤ k := by
  have := nS_le (f := fun i => bn (pB (f (lo + i)))) (x := 1) (fun i => bn_le _) k
  unfold cK
  omega
theorem cK_mono {f : Nat → Prop} {a b : Nat} (h : a ≤ b) : cK f 0 a ≤ cK f 0 b := by
  obtain ⟨c, rfl⟩ : ∃ c, b = a + c := ⟨b - a, by omega⟩
  rw [cK_app]
  exact Nat.le_add_right _ _
theorem cK_pos {f : Nat → Prop} {lo k : Nat} (h : 0 < cK f lo k) : ∃ N, lo ≤ N ∧ N < lo + k ∧ f N := by
  induction k with
  | zero => exact absurd h (Nat.lt_irrefl 0)
  | succ k ih =>
    rw [cK_s] at h
    by_cases g : f (lo + k)
    · exact ⟨lo + k, by omega, by omega, g⟩
    · rw [pB_f g, bn_f, Nat.add_zero] at h
      obtain ⟨N, h1, h2, h3⟩ := ih h
      exact ⟨N, h1, by omega, h3⟩
/-- the one of a rank is just one -/
theorem cK_uniq {f : Nat → Prop} {a b : Nat} (ha : f a) (hb : f b) (h : cK f 0 a = cK f 0 b) : a = b := by
  have key : ∀ {a b : Nat}, f a → cK f 0 a = cK f 0 b → b ≤ a := fun {a b} ha h => by
    apply Decidable.of_not_not
    intro hn
    have h1 := cK_mono (f := f) (a := a + 1) (b := b) (by omega)
    rw [cK_s, Nat.zero_add, pB_t ha, bn_t] at h1
    omega
  have := key ha h
  have := key hb h.symm
  omega
/-- the depth in a chamber, of a number of n digits -/
noncomputable def dg (m n N c : Nat) : Nat := N / m ^ (n - 1 - c) % m
theorem dg_lt {m n N c : Nat} (hm : 0 < m) : dg m n N c < m := Nat.mod_lt _ hm
theorem blk_div {m j p N : Nat} (hm : 0 < m) (h1 : p * m ^ j ≤ N) (h2 : N < p * m ^ j + m ^ j) : N / m ^ j = p :=
  Nat.div_eq_of_lt_le h1 (by rw [Nat.succ_mul]; exact h2)
theorem md_e {m p e : Nat} (he : e < m) : (p * m + e) % m = e := by
  rw [Nat.mul_comm, Nat.mul_add_mod, Nat.mod_eq_of_lt he]
theorem dv_e {m p e : Nat} (he : e < m) : (p * m + e) / m = p := by
  rw [Nat.mul_comm, Nat.mul_add_div (by omega), Nat.div_eq_of_lt he, Nat.add_zero]
/-- the digits ahead of a place are those of the number that stands there -/
theorem dg_hi {m n j p N c : Nat} (hm : 0 < m) (h1 : p * m ^ j ≤ N) (h2 : N < p * m ^ j + m ^ j) (hc : c + j + 1 ≤ n) : dg m n N c = p / m ^ (n - 1 - c - j) % m := by
  unfold dg
  rw [← blk_div hm h1 h2, Nat.div_div_eq_div_mul, ← Nat.pow_add, show j + (n - 1 - c - j) = n - 1 - c by omega]
theorem dg_last {m n j p N c : Nat} (hm : 0 < m) (h1 : p * m ^ j ≤ N) (h2 : N < p * m ^ j + m ^ j) (hc : c + j + 1 = n) : dg m n N c = p % m := by
  rw [dg_hi hm h1 h2 (by omega), show n - 1 - c - j = 0 by omega, Nat.pow_zero, Nat.div_one]
/-- from a chamber on, the depths may be and may be side by side -/
noncomputable def okF (P adj : Nat → Nat → Bool) (m n c N : Nat) : Prop := ∀ i, c < i → i < n → P i (dg m n N i) = true ∧ adj (dg m n N i) (dg m n N (i - 1)) = true
/-- .. of all chambers -/
noncomputable def okA (P adj : Nat → Nat → Bool) (m n N : Nat) : Prop := P 0 (dg m n N 0) = true ∧ okF P adj m n 0 N
noncomputable def wN (P adj : Nat → Nat → Bool) (m : Nat) : Nat → Nat → Nat → Nat
  | 0, _, _ => 1
  | j + 1, c, d => nS (fun e => bn (adj e d) * (bn (P (c + 1) e) * wN P adj m j (c + 1) e)) m
theorem wU_N {P adj : Nat → Nat → Bool} {m : Nat} : ∀ j c d, wU P adj m j c d = Int32.ofNat (wN P adj m j c d)
  | 0, _, _ => rfl
  | j + 1, c, d => by
    show jS (fun e => bj (adj e d) * (bj (P (c + 1) e) * wU P adj m j (c + 1) e)) m = Int32.ofNat (nS (fun e => bn (adj e d) * (bn (P (c + 1) e) * wN P adj m j (c + 1) e)) m)
    rw [← jS_oN]
    refine jS_ext (fun e _ => ?_)
    rw [wU_N j, bj_bn, bj_bn, Int32.ofNat_mul, Int32.ofNat_mul]
/-- a block of numbers splits by the next digit -/
theorem blk_s {m j p : Nat} (e : Nat) : p * m ^ (j + 1) + e * m ^ j = (p * m + e) * m ^ j := by
  rw [Nat.pow_succ, Nat.mul_comm (m ^ j) m, ← Nat.mul_assoc, ← Nat.add_mul]
theorem okF_s {P adj : Nat → Nat → Bool} {m n c N : Nat} (hc : c + 1 < n) : okF P adj m n c N ↔ (P (c + 1) (dg m n N (c + 1)) = true ∧ adj (dg m n N (c + 1)) (dg m n N c) = true) ∧ okF P adj m n (c + 1) N := by
  constructor
  · intro h
    exact ⟨h (c + 1) (by omega) hc, fun i h1 h2 => h i (by omega) h2⟩
  · intro h i h1 h2
    by_cases e : i = c + 1
    · rw [e]; exact h.1
    · exact h.2 i (by omega) h2
theorem blk_lt {m j p e N : Nat} (he : e < m) (h1 : (p * m + e) * m ^ j ≤ N) (h2 : N < (p * m + e) * m ^ j + m ^ j) : p * m ^ (j + 1) ≤ N ∧ N < p * m ^ (j + 1) + m ^ (j + 1) := by
  rw [← blk_s] at h1 h2
  have h3 : (e + 1) * m ^ j ≤ m * m ^ j := Nat.mul_le_mul_right _ (by omega)
  have h4 : (e + 1) * m ^ j = e * m ^ j + m ^ j := Nat.succ_mul _ _
  have h5 : m ^ (j + 1) = m * m ^ j := by rw [Nat.pow_succ, Nat.mul_comm]
  constructor
  · exact Nat.le_trans (Nat.le_add_right _ _) h1
  · omega
theorem wN_cnt {P adj : Nat → Nat → Bool} {m n : Nat} (hm : 0 < m) : ∀ j c p, c + j + 1 = n → cK (okF P adj m n c) (p * m ^ j) (m ^ j) = wN P adj m j c (p % m)
  | 0, c, p, h => by
    rw [Nat.pow_zero, cK_1, pB_t (p := okF P adj m n c (p * 1)) (fun i h1 h2 => absurd h2 (by omega))]; rfl
  | j + 1, c, p, h => by
    rw [show m ^ (j + 1) = m * m ^ j by rw [Nat.pow_succ, Nat.mul_comm], cK_blk]
    show _ = nS (fun e => bn (adj e (p % m)) * (bn (P (c + 1) e) * wN P adj m j (c + 1) e)) m
    refine nS_ext (fun e he => ?_)
    rw [← show m ^ (j + 1) = m * m ^ j by rw [Nat.pow_succ, Nat.mul_comm], blk_s]
    have ih := wN_cnt (P := P) (adj := adj) (n := n) hm j (c + 1) (p * m + e) (by omega)
    rw [md_e he] at ih
    rw [← ih, ← Nat.mul_assoc, ← bn_and]
    refine cK_and (fun N h1 h2 => ?_)
    obtain ⟨h3, h4⟩ := blk_lt he h1 h2
    rw [okF_s (by omega), dg_last hm h1 h2 (by omega), dg_last hm h3 h4 (by omega), md_e he, Bool.and_eq_true]
    exact ⟨fun q => ⟨⟨q.1.2, q.1.1⟩, q.2⟩, fun q => ⟨⟨q.1.2, q.1.1⟩, q.2⟩⟩
/-- all of them, counted -/
theorem cnt_all {P adj : Nat → Nat → Bool} {m j : Nat} (hm : 0 < m) : cK (okA P adj m (j + 1)) 0 (m ^ (j + 1)) = nS (fun d => bn (P 0 d) * wN P adj m j 0 d) m := by
  rw [show m ^ (j + 1) = m * m ^ j by rw [Nat.pow_succ, Nat.mul_comm], cK_blk]
  refine nS_ext (fun d hd => ?_)
  rw [Nat.zero_add]
  have ih := wN_cnt (P := P) (adj := adj) (n := j + 1) hm j 0 d (by omega)
  rw [Nat.mod_eq_of_lt hd] at ih
  rw [← ih]
  refine cK_and (fun N h1 h2 => ?_)
  unfold okA
  rw [dg_last hm h1 h2 (by omega), Nat.mod_eq_of_lt hd]
/-- the digits of what stands ahead may be and may be side by side -/
noncomputable def okP (P adj : Nat → Nat → Bool) (m c p : Nat) : Prop := ∀ i, i < c → P i (dg m c p i) = true ∧ (0 < i → adj (dg m c p i) (dg m c p (i - 1)) = true)
theorem dg_l {m c p : Nat} (hc : 0 < c) : dg m c p (c - 1) = p % m := by
  unfold dg
  rw [show c - 1 - (c - 1) = 0 by omega, Nat.pow_zero, Nat.div_one]
theorem dg_s {m c p e i : Nat} (he : e < m) (hi : i < c) : dg m (c + 1) (p * m + e) i = dg m c p i := by
  unfold dg
  rw [show c + 1 - 1 - i = (c - 1 - i) + 1 by omega, Nat.pow_succ, Nat.mul_comm (m ^ (c - 1 - i)) m, ← Nat.div_div_eq_div_mul, dv_e he]
theorem dg_e {m c p e : Nat} (he : e < m) : dg m (c + 1) (p * m + e) c = e := by
  have := dg_l (m := m) (c := c + 1) (p := p * m + e) (by omega)
  rw [md_e he] at this
  exact this
theorem okP_s {P adj : Nat → Nat → Bool} {m c p e : Nat} (he : e < m) (h : okP P adj m c p) (h1 : P c e = true) (h2 : c = 0 ∨ adj e (p % m) = true) : okP P adj m (c + 1) (p * m + e) := by
  intro i hi
  by_cases e2 : i = c
  · subst e2
    rw [dg_e he]
    refine ⟨h1, fun h0 => ?_⟩
    rw [dg_s he (by omega), dg_l h0]
    exact h2.resolve_left (by omega)
  · rw [dg_s he (by omega)]
    refine ⟨(h i (by omega)).1, fun h0 => ?_⟩
    rw [dg_s he (by omega)]
    exact (h i (by omega)).2 h0
/-- the digits of a block's numbers -/
theorem dg_b {m n j c p e N i : Nat} (hm : 0 < m) (he : e < m) (hn : c + j + 1 = n) (h1 : (p * m + e) * m ^ j ≤ N) (h2 : N < (p * m + e) * m ^ j + m ^ j) (hi : i < c) : dg m n N i = dg m c p i := by
  rw [dg_hi hm h1 h2 (by omega), show n - 1 - i - j = (c - 1 - i) + 1 by omega, Nat.pow_succ, Nat.mul_comm (m ^ (c - 1 - i)) m, ← Nat.div_div_eq_div_mul, dv_e he]; rfl
/-- the ways on from a block's beginning -/
theorem cnt_blk {P adj : Nat → Nat → Bool} {m n j c p e : Nat} (hm : 0 < m) (he : e < m) (hn : c + j + 1 = n) (hok : okP P adj m c p) :
    cK (okA P adj m n) ((p * m + e) * m ^ j) (m ^ j) = bn (P c e && (decide (c = 0) || adj e (p % m))) * wN P adj m j c e := by
  have ih := wN_cnt (P := P) (adj := adj) (n := n) hm j c (p * m + e) (by omega)
  rw [md_e he] at ih
  rw [← ih]
  refine cK_and (fun N h1 h2 => ?_)
  have hl : dg m n N c = e := by rw [dg_last hm h1 h2 (by omega), md_e he]
  have hh : ∀ i, i < c → dg m n N i = dg m c p i := fun i hi => dg_b hm he hn h1 h2 hi
  rw [Bool.and_eq_true, Bool.or_eq_true, decide_eq_true_eq]
  constructor
  · rintro ⟨q1, q2⟩
    refine ⟨⟨?_, ?_⟩, fun i h3 h4 => q2 i (by omega) h4⟩
    · by_cases c0 : c = 0
      · subst c0; rw [hl] at q1; exact q1
      · have := (q2 c (by omega) (by omega)).1
        rwa [hl] at this
    · by_cases c0 : c = 0
      · exact .inl c0
      · have := (q2 c (by omega) (by omega)).2
        rw [hl, hh (c - 1) (by omega), dg_l (by omega)] at this
        exact .inr this
  · rintro ⟨⟨q1, q2⟩, q3⟩
    have all : ∀ i, i ≤ c → P i (dg m n N i) = true ∧ (0 < i → adj (dg m n N i) (dg m n N (i - 1)) = true) := fun i hi => by
      by_cases e2 : i = c
      · subst e2
        rw [hl]
        refine ⟨q1, fun h0 => ?_⟩
        rw [hh (i - 1) (by omega), dg_l h0]
        exact q2.resolve_left (by omega)
      · rw [hh i (by omega)]
        refine ⟨(hok i (by omega)).1, fun h0 => ?_⟩
        rw [hh (i - 1) (by omega)]
        exact (hok i (by omega)).2 h0
    refine ⟨(all 0 (Nat.zero_le _)).1, fun i h3 h4 => ?_⟩
    by_cases h5 : i ≤ c
    · exact ⟨(all i h5).1, (all i h5).2 h3⟩
    · exact q3 i (by omega) h4
end
section
/-! part 62: keys found by their number, and tried one by one -/
theorem pw_le {m j : Nat} (hm : m ≤ 6) (hj : j ≤ 6) : m ^ j ≤ 46656 :=
  Nat.le_trans (Nat.pow_le_pow_left hm j) (Nat.le_trans (Nat.pow_le_pow_right (by decide) hj) (by decide))
theorem oN_q {m : Nat} (h : 1 ≤ m) : Int32.ofNat m - 1 = Int32.ofNat (m - 1) := by
  obtain ⟨k, rfl⟩ : ∃ k, m = k + 1 := ⟨m - 1, by omega⟩
  exact oN_p k
theorem oN_sub {a b : Nat} (h : b ≤ a) : Int32.ofNat a - Int32.ofNat b = Int32.ofNat (a - b) := by
  have := Int32.ofNat_add (a - b) b
  rw [Nat.sub_add_cancel h] at this
  rw [this, Int32.add_sub_cancel]
theorem isCuts_0 {f : Nat → Nat} : isCuts 0 f 0 := fun c e _ => by
  rw [lb_0, decide_eq_false (fun q => absurd q.1 (Nat.not_lt_zero c))]
theorem isCuts_up {y : Int64} {m i p d : Nat} (hi : i < 6) (hd : d < m) (hm : m ≤ 6) (h : isCuts y (dg m i p) i) : isCuts (y ||| bitL (Int32.ofNat i) (Int32.ofNat d)) (dg m (i + 1) (p * m + d)) (i + 1) := fun c e he => by
  rw [lb_or, h c e he, lb_bit (by omega) (by omega)]
  rcases Nat.lt_trichotomy c i with g | g | g
  · rw [dg_s hd g, decide_eq_false (show ¬ 8 * c + e = 8 * i + d by omega), Bool.or_false]
    by_cases q : dg m i p c = e
    · rw [decide_eq_true ⟨g, q⟩, decide_eq_true ⟨by omega, q⟩]
    · rw [decide_eq_false (fun z => q z.2), decide_eq_false (fun z => q z.2)]
  · subst g
    rw [dg_e hd, decide_eq_false (fun q => absurd q.1 (Nat.lt_irrefl c)), Bool.false_or]
    by_cases q : d = e
    · rw [decide_eq_true (show 8 * c + e = 8 * c + d by omega), decide_eq_true ⟨by omega, q⟩]
    · rw [decide_eq_false (show ¬ 8 * c + e = 8 * c + d by omega), decide_eq_false (fun z => q z.2)]
  · rw [decide_eq_false (fun q => absurd q.1 (by omega)), decide_eq_false (show ¬ 8 * c + e = 8 * i + d by omega), decide_eq_false (fun q => absurd q.1 (by omega))]; rfl
theorem num_lt {m p d i : Nat} (hp : p < m ^ i) (hd : d < m) : p * m + d < m ^ (i + 1) := by
  have h1 : (p + 1) * m ≤ m ^ i * m := Nat.mul_le_mul_right m hp
  rw [Nat.succ_mul] at h1
  rw [Nat.pow_succ]
  omega
theorem le_nl {a b : Int32} : a ≤ b ↔ ¬ b < a := by
  rw [Int32.le_iff_toInt_le, Int32.lt_iff_toInt_lt]
  omega
/-- the key of a number among those that were counted last -/
theorem sem_125 {I : Nat → Nat → Int32} {x : Int64} {m nc num : Nat} (em : I 1 2 = Int32.ofNat m) (ec : I 1 1 = Int32.ofNat nc) (b2 : 2 ≤ m) (bm : m ≤ 6) (bc : nc ≤ 6) (hw : wayC x (I 1 3) m nc 0 I) :
    ∀ n, (∀ i j p l y x6 r, i + j = nc → p < m ^ i → isCuts y (dg m i p) i → okP (lP x) (lA (I 1 3)) m i p → cK (okA (lP x) (lA (I 1 3)) m nc) 0 (p * m ^ j) + l = num → l < cK (okA (lP x) (lA (I 1 3)) m nc) (p * m ^ j) (m ^ j) → F_125 I n 8 y (Int32.ofNat l) (Int32.ofNat i) x6 = some r → ∃ N, N < m ^ nc ∧ okA (lP x) (lA (I 1 3)) m nc N ∧ cK (okA (lP x) (lA (I 1 3)) m nc) 0 N = num ∧ isCuts r (dg m nc N) nc) ∧
      (∀ i j p l d y r, i + j + 1 = nc → d < m → p < m ^ i → isCuts y (dg m i p) i → okP (lP x) (lA (I 1 3)) m i p → cK (okA (lP x) (lA (I 1 3)) m nc) 0 ((p * m + d) * m ^ j) + l = num → l < cK (okA (lP x) (lA (I 1 3)) m nc) ((p * m + d) * m ^ j) ((m - d) * m ^ j) → F_125 I n 20 y (Int32.ofNat l) (Int32.ofNat i) (Int32.ofNat d) = some r → ∃ N, N < m ^ nc ∧ okA (lP x) (lA (I 1 3)) m nc N ∧ cK (okA (lP x) (lA (I 1 3)) m nc) 0 N = num ∧ isCuts r (dg m nc N) nc)
  | 0 => ⟨fun _ _ _ _ _ _ _ _ _ _ _ _ _ h => (by cases h), fun _ _ _ _ _ _ _ _ _ _ _ _ _ _ h => (by cases h)⟩
  | n + 1 => by
    obtain ⟨ih1, ih2⟩ := sem_125 em ec b2 bm bc hw (num := num) n
    refine ⟨?_, ?_⟩
    · intro i j p l y x6 r hij hp hy hok hs hl h
      simp only [F_125, reduceIte] at h
      rw [ec] at h
      by_cases g : Int32.ofNat nc ≤ Int32.ofNat i
      · rw [if_pos g] at h
        cases h
        have := (oN_le (by omega) (by omega)).mp g
        have e : i = nc := by omega
        subst e
        have ej : j = 0 := by omega
        subst ej
        rw [Nat.pow_zero, Nat.mul_one] at hs hl
        rw [cK_1] at hl
        by_cases ha : okA (lP x) (lA (I 1 3)) m i p
        · rw [pB_t ha, bn_t] at hl
          exact ⟨p, hp, ha, by omega, hy⟩
        · rw [pB_f ha, bn_f] at hl
          exact absurd hl (Nat.not_lt_zero l)
      · rw [if_neg g] at h
        have := mt (oN_le (by omega) (by omega)).mpr g
        obtain ⟨j', rfl⟩ : ∃ j', j = j' + 1 := ⟨j - 1, by omega⟩
        have e0 := blk_s (m := m) (j := j') (p := p) 0
        rw [Nat.zero_mul, Nat.add_zero] at e0
        rw [e0] at hs hl
        refine ih2 i j' p l 0 y r (by omega) (by omega) hp hy hok hs ?_ h
        rw [Nat.sub_zero, show m * m ^ j' = m ^ (j' + 1) by rw [Nat.pow_succ, Nat.mul_comm]]
        exact hl
    · intro i j p l d y r hij hd hp hy hok hs hl h
      have hm : 0 < m := by omega
      have hB := cnt_blk (P := lP x) (adj := lA (I 1 3)) hm hd hij hok
      have pj : m ^ j ≤ 46656 := pw_le bm (by omega)
      have pj1 : m ^ (j + 1) ≤ 46656 := pw_le bm (by omega)
      have Bl : cK (okA (lP x) (lA (I 1 3)) m nc) ((p * m + d) * m ^ j) (m ^ j) ≤ m ^ j := cK_le
      have ll : l < 46656 := by
        have h1 : cK (okA (lP x) (lA (I 1 3)) m nc) ((p * m + d) * m ^ j) ((m - d) * m ^ j) ≤ (m - d) * m ^ j := cK_le
        have h2 : (m - d) * m ^ j ≤ m * m ^ j := Nat.mul_le_mul_right _ (by omega)
        rw [show m * m ^ j = m ^ (j + 1) by rw [Nat.pow_succ, Nat.mul_comm]] at h2
        omega
      have take : l < cK (okA (lP x) (lA (I 1 3)) m nc) ((p * m + d) * m ^ j) (m ^ j) → F_125 I n 8 (y ||| bitL (Int32.ofNat i) (Int32.ofNat d)) (Int32.ofNat l) (Int32.ofNat i + 1) (Int32.ofNat d) = some r → ∃ N, N < m ^ nc ∧ okA (lP x) (lA (I 1 3)) m nc N ∧ cK (okA (lP x) (lA (I 1 3)) m nc) 0 N = num ∧ isCuts r (dg m nc N) nc := fun hl h => by
        rw [oN_s] at h
        have hq : (lP x i d && (decide (i = 0) || lA (I 1 3) d (p % m))) = true := by
          cases q : (lP x i d && (decide (i = 0) || lA (I 1 3) d (p % m))) with
          | true => rfl
          | false =>
            rw [hB, q, bn_f, Nat.zero_mul] at hl
            exact absurd hl (Nat.not_lt_zero l)
        rw [Bool.and_eq_true, Bool.or_eq_true, decide_eq_true_eq] at hq
        exact ih1 (i + 1) j (p * m + d) l _ _ r (by omega) (num_lt hp hd) (isCuts_up (by omega) hd bm hy) (okP_s hd hok hq.1 hq.2) hs hl h
      have skip : ¬ l < cK (okA (lP x) (lA (I 1 3)) m nc) ((p * m + d) * m ^ j) (m ^ j) → d + 1 < m → F_125 I n 20 y (Int32.ofNat l - Int32.ofNat (cK (okA (lP x) (lA (I 1 3)) m nc) ((p * m + d) * m ^ j) (m ^ j))) (Int32.ofNat i) (Int32.ofNat d + 1) = some r → ∃ N, N < m ^ nc ∧ okA (lP x) (lA (I 1 3)) m nc N ∧ cK (okA (lP x) (lA (I 1 3)) m nc) 0 N = num ∧ isCuts r (dg m nc N) nc := fun hl2 hd2 h => by
        rw [oN_s, oN_sub (by omega)] at h
        have e1 : (p * m + (d + 1)) * m ^ j = (p * m + d) * m ^ j + m ^ j := by rw [← Nat.add_assoc, Nat.succ_mul]
        have e2 : (m - d) * m ^ j = m ^ j + (m - (d + 1)) * m ^ j := by
          rw [show m - d = (m - (d + 1)) + 1 by omega, Nat.succ_mul, Nat.add_comm]
        rw [e2, cK_app] at hl
        refine ih2 i j p _ (d + 1) y r hij hd2 hp hy hok ?_ ?_ h
        · rw [e1, cK_app, Nat.zero_add]
          omega
        · rw [e1]
          omega
      simp only [F_125, Nat.reduceEqDiff, reduceIte] at h
      rw [em, oN_q (by omega)] at h
      by_cases g : Int32.ofNat (m - 1) ≤ Int32.ofNat d
      · rw [if_pos g] at h
        have := (oN_le (by omega) (by omega)).mp g
        refine take ?_ h
        rw [show m - d = 1 by omega, Nat.one_mul] at hl
        exact hl
      · rw [if_neg g] at h
        have gd := mt (oN_le (by omega) (by omega)).mpr g
        have hwy := hw i d (Nat.zero_le _) (by omega) hd
        rw [show nc - 1 - i = j by omega, wU_N, bj_bn, ← Int32.ofNat_mul] at hwy
        have near : (i = 0 ∨ lA (I 1 3) d (p % m) = true) → I (3 + (Int32.ofNat i).toNatClampNeg) (Int32.ofNat d).toNatClampNeg = Int32.ofNat (cK (okA (lP x) (lA (I 1 3)) m nc) ((p * m + d) * m ^ j) (m ^ j)) := fun q => by
          rw [ofN_clamp (by omega), ofN_clamp (by omega), hwy, hB]
          have : (decide (i = 0) || lA (I 1 3) d (p % m)) = true := by rw [Bool.or_eq_true, decide_eq_true_eq]; exact q
          rw [this, Bool.and_true]
        have go : ∀ w, w = Int32.ofNat (cK (okA (lP x) (lA (I 1 3)) m nc) ((p * m + d) * m ^ j) (m ^ j)) → (if Int32.ofNat l < w then F_125 I n 8 (y ||| bitL (Int32.ofNat i) (Int32.ofNat d)) (Int32.ofNat l) (Int32.ofNat i + 1) (Int32.ofNat d) else F_125 I n 20 y (Int32.ofNat l - w) (Int32.ofNat i) (Int32.ofNat d + 1)) = some r → ∃ N, N < m ^ nc ∧ okA (lP x) (lA (I 1 3)) m nc N ∧ cK (okA (lP x) (lA (I 1 3)) m nc) 0 N = num ∧ isCuts r (dg m nc N) nc := fun w e h => by
          rw [e] at h
          by_cases q : Int32.ofNat l < Int32.ofNat (cK (okA (lP x) (lA (I 1 3)) m nc) ((p * m + d) * m ^ j) (m ^ j))
          · rw [if_pos q] at h
            exact take ((oN_lt (by omega) (by omega)).mp q) h
          · rw [if_neg q] at h
            exact skip (mt (oN_lt (by omega) (by omega)).mpr q) (by omega) h
        by_cases g1 : Int32.ofNat i ≤ 0
        · rw [if_pos g1] at h
          have : i = 0 := by
            have := (oN_le (a := i) (b := 0) (by omega) (by decide)).mp g1
            omega
          exact go _ (near (.inl this)) h
        · rw [if_neg g1] at h
          have i0 : 0 < i := by
            have := mt (oN_le (a := i) (b := 0) (by omega) (by decide)).mpr g1
            omega
          have ed : dpL y (Int32.ofNat i - 1) = Int32.ofNat (p % m) := by
            rw [oN_q (by omega), isCuts_dp hy (by omega) (by omega) (Nat.lt_of_lt_of_le (dg_lt hm) (by omega)), dg_l i0]
          rw [ed] at h
          by_cases g2 : (if 0 ≤ Int32.ofNat d - Int32.ofNat (p % m) then Int32.ofNat d - Int32.ofNat (p % m) else 0 - (Int32.ofNat d - Int32.ofNat (p % m))) ≤ I 1 3
          · rw [if_pos g2] at h
            exact go _ (near (.inr (decide_eq_true (le_nl.mp g2)))) h
          · rw [if_neg g2] at h
            have hz : cK (okA (lP x) (lA (I 1 3)) m nc) ((p * m + d) * m ^ j) (m ^ j) = 0 := by
              rw [hB, show lA (I 1 3) d (p % m) = false from decide_eq_false (fun z => g2 (le_nl.mpr z)), decide_eq_false (show ¬ i = 0 by omega), Bool.or_false, Bool.and_false, bn_f, Nat.zero_mul]
            exact go 0 (by rw [hz]; rfl) h
theorem qg_41 {h : sH} {r : sR} {Q : sR → Prop} {a0 : Int32} {a1 : Int32} {a2 : Int64} {a3 : Int64} {I : Nat → Nat → Int32} {L : Nat → Nat → Int64} {R : Nat → Nat} (th : qH h I L R) (g : qGo 41 [.ref (1), .int (a0), .int (a1), .long (a2), .long (a3)] h r)
    (p1 : ∀ (c1 : a0 < (I 1 1)), ∀ N lv, qLs lv [some (.ref (1)), some (.int (a0)), some (.int (a1)), some (.long (a2)), none, some (.long (a3)), none, some (.int ((0 : Int32))), some (.int ((0 : Int32)))] → qW 41 N 29 lv [] h Q)
    (p2 : ∀ (c1 : ¬ a0 < (I 1 1)), ∀ (c6 : ¬ (letIn a2 a3)), Q (.inl (some (.int ((0 : Int32)))), h))
    (p3 : ∀ (c1 : ¬ a0 < (I 1 1)), ∀ (c6 : letIn a2 a3), Q (.inl (some (.int ((1 : Int32)))), h)) : Q r := by
  refine qGo_w g (fun N => ?_)
  have hl0 : qLs (lv_args 0 [.ref (1), .int (a0), .int (a1), .long (a2), .long (a3)]) [some (.ref (1)), some (.int (a0)), some (.int (a1)), some (.long (a2)), none, some (.long (a3)), none, none, none] := qLs_ar 2
  refine q_iload_n (show mE (mtv 41) 0 = some (.iload_n 1, 1, 0, 0) from rfl) (hl0 1 _ rfl) ?_
  refine q_aload_n (show mE (mtv 41) 1 = some (.aload_n 0, 1, 0, 0) from rfl) (hl0 0 _ rfl) ?_
  refine q_getI th (show mE (mtv 41) 2 = some (.getfield 16, 3, 4, 1) from rfl) (by decide) rfl ?_
  refine q_ic_lt (t := 23) (show mE (mtv 41) 5 = some (.if_icmp .lt 18, 3, 0, 0) from rfl) rfl (fun c1 => ?_) (fun c1 => ?_)
  · refine q_iconst (show mE (mtv 41) 23 = some (.iconst 0, 1, 0, 0) from rfl) kI_0 ?_
    refine q_istore (show mE (mtv 41) 24 = some (.istore 7, 2, 0, 0) from rfl) (Nat.le_of_ble_eq_true rfl) hl0 (fun lv2 (hl3 : qLs lv2 [some (.ref (1)), some (.int (a0)), some (.int (a1)), some (.long (a2)), none, some (.long (a3)), none, some (.int ((0 : Int32))), none]) => ?_)
    refine q_iconst (show mE (mtv 41) 26 = some (.iconst 0, 1, 0, 0) from rfl) kI_0 ?_
    refine q_istore (show mE (mtv 41) 27 = some (.istore 8, 2, 0, 0) from rfl) (Nat.le_of_ble_eq_true rfl) hl3 (fun lv4 (hl5 : qLs lv4 [some (.ref (1)), some (.int (a0)), some (.int (a1)), some (.long (a2)), none, some (.long (a3)), none, some (.int ((0 : Int32))), some (.int ((0 : Int32)))]) => ?_)
    exact p1 c1 _ lv4 (qLs_wk hl5 (⟨rfl, rfl, rfl, rfl, rfl, rfl, rfl, trivial⟩))
  · refine q_lload_n (show mE (mtv 41) 8 = some (.lload_n 3, 1, 0, 0) from rfl) (hl0 3 _ rfl) ?_
    refine q_lload (show mE (mtv 41) 9 = some (.lload 5, 2, 0, 0) from rfl) (hl0 5 _ rfl) ?_
    refine q_staticP (show mE (mtv 41) 11 = some (.invokestatic 63, 3, 19, 0) from rfl) (by decide) rfl rfl rfl (fun _ g => sp_19 g) ?_
    refine q_ifb_eq (t := 21) (show mE (mtv 41) 14 = some (.ifCond .eq 7, 3, 0, 0) from rfl) rfl (fun c6 => ?_) (fun c6 => ?_)
    · refine q_iconst (show mE (mtv 41) 21 = some (.iconst 0, 1, 0, 0) from rfl) kI_0 ?_
      refine q_ireturn (show mE (mtv 41) 22 = some (.ireturn, 1, 0, 0) from rfl) ?_
      exact p2 c1 c6
    · refine q_iconst (show mE (mtv 41) 17 = some (.iconst 1, 1, 0, 0) from rfl) kI_1 ?_
      refine q_goto (t := 22) (show mE (mtv 41) 18 = some (.goto 4, 3, 0, 0) from rfl) rfl ?_
      refine q_ireturn (show mE (mtv 41) 22 = some (.ireturn, 1, 0, 0) from rfl) ?_
      exact p3 c1 c6
theorem qg_41_29 {N : Nat} {lv : sL} {h : sH} {Q : sR → Prop} {x1 : Int32} {x2 : Int32} {x3 : Int64} {x5 : Int64} {x7 : Int32} {x8 : Int32} {I : Nat → Nat → Int32} {L : Nat → Nat → Int64} {R : Nat → Nat} (th : qH h I L R) {PP : Int32 → Int64 → Int32 → Prop} (ih : ∀ {b : Int32} {y : Int64} {r : sR}, qGo 41 [.ref (1), .int (x1 + (1 : Int32)), .int b, .long y, .long x5] h r → ∃ v, r = (.inl (some (.int v)), h) ∧ PP b y v) (hl : qLs lv [some (.ref (1)), some (.int (x1)), some (.int (x2)), some (.long (x3)), none, some (.long (x5)), none, some (.int (x7)), some (.int (x8))])
    (p1 : ∀ (c1 : (I 1 2) ≤ x8), Q (.inl (some (.int (x7))), h))
    (p2 : ∀ (c1 : ¬ (I 1 2) ≤ x8), ∀ (c2 : x1 = 0), ∀ (v3 : Int32), ∀ (e4 : PP x8 (x3 ||| (bitL x1 x8)) v3), ∀ lv, qLs lv [some (.ref (1)), some (.int (x1)), some (.int (x2)), some (.long (x3)), none, some (.long (x5)), none, some (.int (x7 + v3)), some (.int (x8 + (1 : Int32)))] → qW 41 N 29 lv [] h Q)
    (p3 : ∀ (c1 : ¬ (I 1 2) ≤ x8), ∀ (c2 : ¬ x1 = 0), ∀ (c9 : (I 1 3) < (if 0 ≤ x8 - x2 then x8 - x2 else 0 - (x8 - x2))), ∀ lv, qLs lv [some (.ref (1)), some (.int (x1)), some (.int (x2)), some (.long (x3)), none, some (.long (x5)), none, some (.int (x7)), some (.int (x8 + (1 : Int32)))] → qW 41 N 29 lv [] h Q)
    (p4 : ∀ (c1 : ¬ (I 1 2) ≤ x8), ∀ (c2 : ¬ x1 = 0), ∀ (c9 : ¬ (I 1 3) < (if 0 ≤ x8 - x2 then x8 - x2 else 0 - (x8 - x2))), ∀ (v12 : Int32), ∀ (e13 : PP x8 (x3 ||| (bitL x1 x8)) v12), ∀ lv, qLs lv [some (.ref (1)), some (.int (x1)), some (.int (x2)), some (.long (x3)), none, some (.long (x5)), none, some (.int (x7 + v12)), some (.int (x8 + (1 : Int32)))] → qW 41 N 29 lv [] h Q) : qW 41 (N + 1) 29 lv [] h Q := by
  refine q1_iload (show mE (mtv 41) 29 = some (.iload 8, 2, 0, 0) from rfl) (hl 8 _ rfl) ?_
  refine q_aload_n (show mE (mtv 41) 31 = some (.aload_n 0, 1, 0, 0) from rfl) (hl 0 _ rfl) ?_
  refine q_getI th (show mE (mtv 41) 32 = some (.getfield 20, 3, 4, 2) from rfl) (by decide) rfl ?_
  refine q_ic_ge (t := 86) (show mE (mtv 41) 35 = some (.if_icmp .ge 51, 3, 0, 0) from rfl) rfl (fun c1 => ?_) (fun c1 => ?_)
  · refine q_iload (show mE (mtv 41) 86 = some (.iload 7, 2, 0, 0) from rfl) (hl 7 _ rfl) ?_
    refine q_ireturn (show mE (mtv 41) 88 = some (.ireturn, 1, 0, 0) from rfl) ?_
    exact p1 c1
  · refine q_iload_n (show mE (mtv 41) 38 = some (.iload_n 1, 1, 0, 0) from rfl) (hl 1 _ rfl) ?_
    refine q_if_eq (t := 56) (show mE (mtv 41) 39 = some (.ifCond .eq 17, 3, 0, 0) from rfl) rfl (fun c2 => ?_) (fun c2 => ?_)
    · refine q_iload (show mE (mtv 41) 56 = some (.iload 7, 2, 0, 0) from rfl) (hl 7 _ rfl) ?_
      refine q_aload_n (show mE (mtv 41) 58 = some (.aload_n 0, 1, 0, 0) from rfl) (hl 0 _ rfl) ?_
      refine q_iload_n (show mE (mtv 41) 59 = some (.iload_n 1, 1, 0, 0) from rfl) (hl 1 _ rfl) ?_
      refine q_iconst (show mE (mtv 41) 60 = some (.iconst 1, 1, 0, 0) from rfl) kI_1 ?_
      refine q_iadd (show mE (mtv 41) 61 = some (.iadd, 1, 0, 0) from rfl) ?_
      refine q_iload (show mE (mtv 41) 62 = some (.iload 8, 2, 0, 0) from rfl) (hl 8 _ rfl) ?_
      refine q_lload_n (show mE (mtv 41) 64 = some (.lload_n 3, 1, 0, 0) from rfl) (hl 3 _ rfl) ?_
      refine q_iload_n (show mE (mtv 41) 65 = some (.iload_n 1, 1, 0, 0) from rfl) (hl 1 _ rfl) ?_
      refine q_iload (show mE (mtv 41) 66 = some (.iload 8, 2, 0, 0) from rfl) (hl 8 _ rfl) ?_
      refine q_staticP (show mE (mtv 41) 68 = some (.invokestatic 47, 3, 35, 0) from rfl) (by decide) rfl rfl rfl (fun _ g => sp_35 g) ?_
      refine q_lor (show mE (mtv 41) 71 = some (.lor, 1, 0, 0) from rfl) ?_
      refine q_lload (show mE (mtv 41) 72 = some (.lload 5, 2, 0, 0) from rfl) (hl 5 _ rfl) ?_
      refine q_virtualE (show mE (mtv 41) 74 = some (.invokevirtual 59, 3, 41, 4) from rfl) (by decide) rfl rfl rfl (fun _ g => ih g) ?_
      rintro _ ⟨v3, rfl, e4⟩
      refine qK_v ?_
      refine q_iadd (show mE (mtv 41) 77 = some (.iadd, 1, 0, 0) from rfl) ?_
      refine q_istore (show mE (mtv 41) 78 = some (.istore 7, 2, 0, 0) from rfl) (Nat.le_of_ble_eq_true rfl) hl (fun lv5 (hl6 : qLs lv5 [some (.ref (1)), some (.int (x1)), some (.int (x2)), some (.long (x3)), none, some (.long (x5)), none, some (.int (x7 + v3)), some (.int (x8))]) => ?_)
      refine q_iinc (show mE (mtv 41) 80 = some (.iinc 8 1, 3, 0, 0) from rfl) (Nat.le_of_ble_eq_true rfl) hl6 (hl6 8 _ rfl) kI_1 (fun lv7 (hl8 : qLs lv7 [some (.ref (1)), some (.int (x1)), some (.int (x2)), some (.long (x3)), none, some (.long (x5)), none, some (.int (x7 + v3)), some (.int (x8 + (1 : Int32)))]) => ?_)
      refine q_goto (t := 29) (show mE (mtv 41) 83 = some (.goto (-54), 3, 0, 0) from rfl) rfl ?_
      exact p2 c1 c2 v3 e4 lv7 (qLs_wk hl8 (⟨rfl, rfl, rfl, rfl, rfl, rfl, rfl, trivial⟩))
    · refine q_iload (show mE (mtv 41) 42 = some (.iload 8, 2, 0, 0) from rfl) (hl 8 _ rfl) ?_
      refine q_iload_n (show mE (mtv 41) 44 = some (.iload_n 2, 1, 0, 0) from rfl) (hl 2 _ rfl) ?_
      refine q_isub (show mE (mtv 41) 45 = some (.isub, 1, 0, 0) from rfl) ?_
      refine q_abs (show mE (mtv 41) 46 = some (.invokestatic 41, 3, 1001, 0) from rfl) ?_
      refine q_aload_n (show mE (mtv 41) 49 = some (.aload_n 0, 1, 0, 0) from rfl) (hl 0 _ rfl) ?_
      refine q_getI th (show mE (mtv 41) 50 = some (.getfield 23, 3, 4, 3) from rfl) (by decide) rfl ?_
      refine q_ic_gt (t := 80) (show mE (mtv 41) 53 = some (.if_icmp .gt 27, 3, 0, 0) from rfl) rfl (fun c9 => ?_) (fun c9 => ?_)
      · refine q_iinc (show mE (mtv 41) 80 = some (.iinc 8 1, 3, 0, 0) from rfl) (Nat.le_of_ble_eq_true rfl) hl (hl 8 _ rfl) kI_1 (fun lv10 (hl11 : qLs lv10 [some (.ref (1)), some (.int (x1)), some (.int (x2)), some (.long (x3)), none, some (.long (x5)), none, some (.int (x7)), some (.int (x8 + (1 : Int32)))]) => ?_)
        refine q_goto (t := 29) (show mE (mtv 41) 83 = some (.goto (-54), 3, 0, 0) from rfl) rfl ?_
        exact p3 c1 c2 c9 lv10 (qLs_wk hl11 (⟨rfl, rfl, rfl, rfl, rfl, rfl, rfl, trivial⟩))
      · refine q_iload (show mE (mtv 41) 56 = some (.iload 7, 2, 0, 0) from rfl) (hl 7 _ rfl) ?_
        refine q_aload_n (show mE (mtv 41) 58 = some (.aload_n 0, 1, 0, 0) from rfl) (hl 0 _ rfl) ?_
        refine q_iload_n (show mE (mtv 41) 59 = some (.iload_n 1, 1, 0, 0) from rfl) (hl 1 _ rfl) ?_
        refine q_iconst (show mE (mtv 41) 60 = some (.iconst 1, 1, 0, 0) from rfl) kI_1 ?_
        refine q_iadd (show mE (mtv 41) 61 = some (.iadd, 1, 0, 0) from rfl) ?_
        refine q_iload (show mE (mtv 41) 62 = some (.iload 8, 2, 0, 0) from rfl) (hl 8 _ rfl) ?_
        refine q_lload_n (show mE (mtv 41) 64 = some (.lload_n 3, 1, 0, 0) from rfl) (hl 3 _ rfl) ?_
        refine q_iload_n (show mE (mtv 41) 65 = some (.iload_n 1, 1, 0, 0) from rfl) (hl 1 _ rfl) ?_
        refine q_iload (show mE (mtv 41) 66 = some (.iload 8, 2, 0, 0) from rfl) (hl 8 _ rfl) ?_
        refine q_staticP (show mE (mtv 41) 68 = some (.invokestatic 47, 3, 35, 0) from rfl) (by decide) rfl rfl rfl (fun _ g => sp_35 g) ?_
        refine q_lor (show mE (mtv 41) 71 = some (.lor, 1, 0, 0) from rfl) ?_
        refine q_lload (show mE (mtv 41) 72 = some (.lload 5, 2, 0, 0) from rfl) (hl 5 _ rfl) ?_
        refine q_virtualE (show mE (mtv 41) 74 = some (.invokevirtual 59, 3, 41, 4) from rfl) (by decide) rfl rfl rfl (fun _ g => ih g) ?_
        rintro _ ⟨v12, rfl, e13⟩
        refine qK_v ?_
        refine q_iadd (show mE (mtv 41) 77 = some (.iadd, 1, 0, 0) from rfl) ?_
        refine q_istore (show mE (mtv 41) 78 = some (.istore 7, 2, 0, 0) from rfl) (Nat.le_of_ble_eq_true rfl) hl (fun lv14 (hl15 : qLs lv14 [some (.ref (1)), some (.int (x1)), some (.int (x2)), some (.long (x3)), none, some (.long (x5)), none, some (.int (x7 + v12)), some (.int (x8))]) => ?_)
        refine q_iinc (show mE (mtv 41) 80 = some (.iinc 8 1, 3, 0, 0) from rfl) (Nat.le_of_ble_eq_true rfl) hl15 (hl15 8 _ rfl) kI_1 (fun lv16 (hl17 : qLs lv16 [some (.ref (1)), some (.int (x1)), some (.int (x2)), some (.long (x3)), none, some (.long (x5)), none, some (.int (x7 + v12)), some (.int (x8 + (1 : Int32)))]) => ?_)
        refine q_goto (t := 29) (show mE (mtv 41) 83 = some (.goto (-54), 3, 0, 0) from rfl) rfl ?_
        exact p4 c1 c2 c9 v12 e13 lv16 (qLs_wk hl17 (⟨rfl, rfl, rfl, rfl, rfl, rfl, rfl, trivial⟩))
/-- from a chamber on, the depths may be side by side -/
noncomputable def nearF (lim : Int32) (m nc c N : Nat) : Prop := ∀ i, c ≤ i → 0 < i → i < nc → lA lim (dg m nc N i) (dg m nc N (i - 1)) = true
theorem nearF_blk {lim : Int32} {m nc j c p e N : Nat} (hm : 0 < m) (he : e < m) (hn : c + j + 1 = nc) (h1 : (p * m + e) * m ^ j ≤ N) (h2 : N < (p * m + e) * m ^ j + m ^ j) : nearF lim m nc c N ↔ (c = 0 ∨ lA lim e (p % m) = true) ∧ nearF lim m nc (c + 1) N := by
  have hl : dg m nc N c = e := by rw [dg_last hm h1 h2 (by omega), md_e he]
  have hh : 0 < c → dg m nc N (c - 1) = p % m := fun hc => by rw [dg_b hm he hn h1 h2 (by omega), dg_l hc]
  constructor
  · intro h
    refine ⟨?_, fun i h3 h4 h5 => h i (by omega) h4 h5⟩
    by_cases c0 : c = 0
    · exact .inl c0
    · have := h c (Nat.le_refl c) (by omega) (by omega)
      rw [hl, hh (by omega)] at this
      exact .inr this
  · rintro ⟨h, h3⟩ i h4 h5 h6
    by_cases e2 : i = c
    · subst e2
      rw [hl, hh h5]
      exact h.resolve_left (by omega)
    · exact h3 i (by omega) h5 h6
theorem nearF_end {lim : Int32} {m nc N : Nat} : nearF lim m nc nc N := fun _ h1 _ h3 => absurd h3 (by omega)
/-- .. and all depths are let in -/
noncomputable def tryF (lim : Int32) (z : Int64) (m nc c N : Nat) : Prop := nearF lim m nc c N ∧ ∀ i, i < nc → lb z (8 * i + dg m nc N i) = true
noncomputable def cnd41 (I : Nat → Nat → Int32) (a b : Int32) (y : Int64) (m nc c p : Nat) : Prop := I 1 2 = Int32.ofNat m ∧ I 1 1 = Int32.ofNat nc ∧ 1 ≤ m ∧ m ≤ 6 ∧ nc ≤ 6 ∧ a = Int32.ofNat c ∧ c ≤ nc ∧ p < m ^ c ∧ isCuts y (dg m c p) c ∧ (0 < c → b = Int32.ofNat (p % m))
noncomputable def tryV (I : Nat → Nat → Int32) (z : Int64) (a b : Int32) (y : Int64) (v : Int32) : Prop := ∀ m nc c p, cnd41 I a b y m nc c p → v = Int32.ofNat (cK (tryF (I 1 3) z m nc c) (p * m ^ (nc - c)) (m ^ (nc - c)))
noncomputable def inv41 (I : Nat → Nat → Int32) (z : Int64) (a b : Int32) (y : Int64) (v d : Int32) : Prop := ∀ m nc c p, cnd41 I a b y m nc c p → ∃ dn, d = Int32.ofNat dn ∧ dn ≤ m ∧ v = Int32.ofNat (cK (tryF (I 1 3) z m nc c) (p * m ^ (nc - c)) (dn * m ^ (nc - c - 1)))
theorem cnd41_lt {I : Nat → Nat → Int32} {a b : Int32} {y : Int64} {m nc c p : Nat} (h : cnd41 I a b y m nc c p) (ca : a < I 1 1) : c < nc := by
  obtain ⟨em, ec, m1, m6, n6, ea, cn, -⟩ := h
  rw [ea, ec] at ca
  exact (oN_lt (by omega) (by omega)).mp ca
theorem inv41_s {I : Nat → Nat → Int32} {z : Int64} {a b : Int32} {y : Int64} {v d w : Int32} (ca : a < I 1 1) (hv : inv41 I z a b y v d) (hd : ¬ I 1 2 ≤ d)
    (hw : ∀ m nc c p dn, cnd41 I a b y m nc c p → c < nc → d = Int32.ofNat dn → dn < m → w = Int32.ofNat (cK (tryF (I 1 3) z m nc c) ((p * m + dn) * m ^ (nc - c - 1)) (m ^ (nc - c - 1)))) : inv41 I z a b y (v + w) (d + 1) := by
  intro m nc c p hc
  obtain ⟨dn, e1, e2, e3⟩ := hv m nc c p hc
  have hl := cnd41_lt hc ca
  have hdn : dn < m := by
    obtain ⟨em, ec, m1, m6, -⟩ := hc
    rw [em, e1] at hd
    have := mt (oN_le (by omega) (by omega)).mpr hd
    omega
  refine ⟨dn + 1, by rw [e1, oN_s], hdn, ?_⟩
  rw [e3, hw m nc c p dn hc hl e1 hdn, ← Int32.ofNat_add, Nat.succ_mul, cK_app]
  have := blk_s (m := m) (j := nc - c - 1) (p := p) dn
  rw [show nc - c - 1 + 1 = nc - c by omega] at this
  rw [this]
/-- what the next chamber's block counts -/
theorem tryV_s {I : Nat → Nat → Int32} {z : Int64} {a b : Int32} {y : Int64} {v d : Int32} (h : tryV I z (a + 1) d (y ||| bitL a d) v) {m nc c p dn : Nat} (hc : cnd41 I a b y m nc c p) (hl : c < nc) (e : d = Int32.ofNat dn) (hd : dn < m) : v = Int32.ofNat (cK (tryF (I 1 3) z m nc (c + 1)) ((p * m + dn) * m ^ (nc - c - 1)) (m ^ (nc - c - 1))) := by
  obtain ⟨em, ec, m1, m6, n6, ea, cn, hp, hy, hb⟩ := hc
  subst ea e
  refine h m nc (c + 1) (p * m + dn) ⟨em, ec, m1, m6, n6, oN_s c, hl, num_lt hp hd, isCuts_up (by omega) hd m6 hy, fun _ => ?_⟩
  rw [md_e hd]
theorem lk_41 {h : sH} {I : Nat → Nat → Int32} {L : Nat → Nat → Int64} {R : Nat → Nat} (th : qH h I L R) {z y : Int64} {a b : Int32} (ca : a < I 1 1) (ih : ∀ {b' : Int32} {y' : Int64} {r : sR}, qGo 41 [.ref (1), .int (a + (1 : Int32)), .int b', .long y', .long z] h r → ∃ v, r = (.inl (some (.int v)), h) ∧ tryV I z (a + 1) b' y' v) :
    ∀ N v d lv, inv41 I z a b y v d → qLs lv [some (.ref (1)), some (.int (a)), some (.int (b)), some (.long (y)), none, some (.long (z)), none, some (.int (v)), some (.int (d))] → qW 41 N 29 lv [] h (fun r => ∃ v, r = (.inl (some (.int v)), h) ∧ tryV I z a b y v)
  | 0, _, _, _, _, _ => qW_0
  | N + 1, v, d, lv, hv, hl => by
    refine qg_41_29 th ih hl (fun c1 => ?_) (fun c1 c2 v3 e4 lv' hl' => ?_) (fun c1 c2 c9 lv' hl' => ?_) (fun c1 c2 c9 v3 e4 lv' hl' => ?_)
    · refine ⟨v, rfl, fun m nc c p hc => ?_⟩
      obtain ⟨dn, e1, e2, e3⟩ := hv m nc c p hc
      have hl := cnd41_lt hc ca
      obtain ⟨em, ec, m1, m6, -⟩ := hc
      rw [em, e1] at c1
      have := (oN_le (by omega) (by omega)).mp c1
      rw [e3, show dn = m by omega, show m * m ^ (nc - c - 1) = m ^ (nc - c) by rw [Nat.mul_comm, ← Nat.pow_succ, show (nc - c - 1).succ = nc - c by omega]]
    · refine lk_41 th ca ih N (v + v3) (d + 1) lv' (inv41_s ca hv c1 (fun m nc c p dn hc hcl e hd => ?_)) hl'
      rw [tryV_s e4 hc hcl e hd]
      refine congrArg Int32.ofNat (cK_ext (fun N h1 h2 => ?_))
      have hm : 0 < m := by omega
      unfold tryF
      rw [nearF_blk hm hd (show c + (nc - c - 1) + 1 = nc by omega) h1 h2]
      have c0 : c = 0 := by
        obtain ⟨em, ec, m1, m6, n6, ea, -⟩ := hc
        rw [ea] at c2
        exact (oN_inj (b := 0) (by omega) (by decide)).mp c2
      exact ⟨fun q => ⟨⟨.inl c0, q.1⟩, q.2⟩, fun q => ⟨q.1.2, q.2⟩⟩
    · refine lk_41 th ca ih N v (d + 1) lv' ?_ hl'
      have := inv41_s (w := 0) ca hv c1 (fun m nc c p dn hc hcl e hd => ?_)
      · rwa [Int32.add_zero] at this
      · have hm : 0 < m := by omega
        rw [cK_and (b := false) (g := fun _ => True) (fun N h1 h2 => ⟨fun q => ?_, fun q => (by cases q.1)⟩), bn_f, Nat.zero_mul]
        · rfl
        · have := ((nearF_blk hm hd (show c + (nc - c - 1) + 1 = nc by omega) h1 h2).mp q.1).1
          exfalso
          obtain ⟨em, ec, m1, m6, n6, ea, cn, hp, hy, hb⟩ := hc
          rcases this with g | g
          · rw [ea, g] at c2; exact c2 rfl
          · have c0 : 0 < c := by
              apply Nat.pos_of_ne_zero
              intro g2
              rw [ea, g2] at c2; exact c2 rfl
            rw [hb c0, e] at c9
            exact of_decide_eq_true g c9
    · refine lk_41 th ca ih N (v + v3) (d + 1) lv' (inv41_s ca hv c1 (fun m nc c p dn hc hcl e hd => ?_)) hl'
      rw [tryV_s e4 hc hcl e hd]
      refine congrArg Int32.ofNat (cK_ext (fun N h1 h2 => ?_))
      have hm : 0 < m := by omega
      unfold tryF
      rw [nearF_blk hm hd (show c + (nc - c - 1) + 1 = nc by omega) h1 h2]
      have c0 : c = 0 ∨ lA (I 1 3) dn (p % m) = true := by
        obtain ⟨em, ec, m1, m6, n6, ea, cn, hp, hy, hb⟩ := hc
        by_cases g : c = 0
        · exact .inl g
        · rw [hb (by omega), e] at c9
          exact .inr (decide_eq_true c9)
      exact ⟨fun q => ⟨⟨c0, q.1⟩, q.2⟩, fun q => ⟨q.1.2, q.2⟩⟩
theorem try_e {I : Nat → Nat → Int32} {a b : Int32} {y z : Int64} (c1 : ¬ a < I 1 1) {m nc c p : Nat} (hc : cnd41 I a b y m nc c p) : nc - c = 0 ∧ (tryF (I 1 3) z m nc c p ↔ letIn y z) := by
  obtain ⟨em, ec, m1, m6, n6, ea, cn, hp, hy, hb⟩ := hc
  rw [ea, ec] at c1
  have := mt (oN_lt (by omega) (by omega)).mpr c1
  have e : c = nc := by omega
  subst e
  refine ⟨Nat.sub_self c, ?_⟩
  unfold tryF letIn
  rw [letIn_iff hy n6 (fun i hi => Nat.lt_of_lt_of_le (dg_lt (by omega)) (by omega))]
  exact ⟨fun q => q.2, fun q => ⟨nearF_end, q⟩⟩
theorem try_0 {I : Nat → Nat → Int32} {a b : Int32} {y z : Int64} (c1 : ¬ a < I 1 1) (c6 : ¬ letIn y z) : tryV I z a b y 0 := fun m nc c p hc => by
  obtain ⟨e1, e2⟩ := try_e (z := z) c1 hc
  rw [e1, Nat.pow_zero, Nat.mul_one, cK_1, pB_f (fun q => c6 (e2.mp q))]; rfl
theorem try_1 {I : Nat → Nat → Int32} {a b : Int32} {y z : Int64} (c1 : ¬ a < I 1 1) (c6 : letIn y z) : tryV I z a b y 1 := fun m nc c p hc => by
  obtain ⟨e1, e2⟩ := try_e (z := z) c1 hc
  rw [e1, Nat.pow_zero, Nat.mul_one, cK_1, pB_t (e2.mpr c6)]; rfl
theorem sp_41n {h : sH} {I : Nat → Nat → Int32} {L : Nat → Nat → Int64} {R : Nat → Nat} (th : qH h I L R) {z : Int64} : ∀ (k : Nat) (a b : Int32) (y : Int64) (r : sR), (I 1 1).toInt - a.toInt ≤ (k : Int) → qGo 41 [.ref (1), .int a, .int b, .long y, .long z] h r → ∃ v, r = (.inl (some (.int v)), h) ∧ tryV I z a b y v := by
  intro k
  induction k with
  | zero =>
    intro a b y r hk g
    refine qg_41 (Q := fun r => ∃ v, r = (.inl (some (.int v)), h) ∧ tryV I z a b y v) th g (fun c1 N lv hl => ?_) (fun c1 c6 => ⟨0, rfl, ?_⟩) (fun c1 c6 => ⟨1, rfl, ?_⟩)
    · have := Int32.lt_iff_toInt_lt.mp c1
      omega
    · exact try_0 c1 c6
    · exact try_1 c1 c6
  | succ k IH =>
    intro a b y r hk g
    refine qg_41 (Q := fun r => ∃ v, r = (.inl (some (.int v)), h) ∧ tryV I z a b y v) th g (fun c1 N lv hl => ?_) (fun c1 c6 => ⟨0, rfl, ?_⟩) (fun c1 c6 => ⟨1, rfl, ?_⟩)
    · refine lk_41 th c1 (fun g' => IH _ _ _ _ ?_ g') N 0 0 lv (fun m nc c p hc => ⟨0, rfl, Nat.zero_le _, ?_⟩) hl
      · have h1 := Int32.lt_iff_toInt_lt.mp c1
        have h2 : (1 : Int32).toInt = 1 := rfl
        have h3 := i32_rng (I 1 1)
        have h4 := i32_rng a
        rw [i32_add (by omega) (by omega), h2]
        omega
      · rw [Nat.zero_mul]; rfl
    · exact try_0 c1 c6
    · exact try_1 c1 c6
theorem sp_41 {h : sH} {I : Nat → Nat → Int32} {L : Nat → Nat → Int64} {R : Nat → Nat} {z y : Int64} {a b : Int32} {r : sR} (th : qH h I L R) (g : qGo 41 [.ref (1), .int a, .int b, .long y, .long z] h r) : ∃ v, r = (.inl (some (.int v)), h) ∧ tryV I z a b y v := sp_41n th (((I 1 1).toInt - a.toInt).toNat) a b y r (by omega) g
theorem qg_40 {h : sH} {r : sR} {Q : sR → Prop} {a0 : Int64} {I : Nat → Nat → Int32} {L : Nat → Nat → Int64} {R : Nat → Nat} (th : qH h I L R) (g : qGo 40 [.ref (1), .long (a0)] h r)
    (p1 : ∀ (v1 : Int32), ∀ (e2 : tryV I a0 (0 : Int32) (0 : Int32) (0 : Int64) v1), Q (.inl (some (.int (v1))), h)) : Q r := by
  refine qGo_w g (fun N => ?_)
  have hl0 : qLs (lv_args 0 [.ref (1), .long (a0)]) [some (.ref (1)), some (.long (a0)), none] := qLs_ar 0
  refine q_aload_n (show mE (mtv 40) 0 = some (.aload_n 0, 1, 0, 0) from rfl) (hl0 0 _ rfl) ?_
  refine q_iconst (show mE (mtv 40) 1 = some (.iconst 0, 1, 0, 0) from rfl) kI_0 ?_
  refine q_iconst (show mE (mtv 40) 2 = some (.iconst 0, 1, 0, 0) from rfl) kI_0 ?_
  refine q_lconst (show mE (mtv 40) 3 = some (.lconst 0, 1, 0, 0) from rfl) kL_0 ?_
  refine q_lload_n (show mE (mtv 40) 4 = some (.lload_n 1, 1, 0, 0) from rfl) (hl0 1 _ rfl) ?_
  refine q_virtualE (show mE (mtv 40) 5 = some (.invokevirtual 59, 3, 41, 4) from rfl) (by decide) rfl rfl rfl (fun _ g => sp_41 th g) ?_
  rintro _ ⟨v1, rfl, e2⟩
  refine qK_v ?_
  refine q_ireturn (show mE (mtv 40) 8 = some (.ireturn, 1, 0, 0) from rfl) ?_
  exact p1 v1 e2
noncomputable def tryC (I : Nat → Nat → Int32) (z : Int64) (v : Int32) : Prop := ∀ m nc, I 1 2 = Int32.ofNat m → I 1 1 = Int32.ofNat nc → 1 ≤ m → m ≤ 6 → nc ≤ 6 → v = Int32.ofNat (cK (tryF (I 1 3) z m nc 0) 0 (m ^ nc))
theorem sp_40 {h : sH} {r : sR} {z : Int64} {I : Nat → Nat → Int32} {L : Nat → Nat → Int64} {R : Nat → Nat} (th : qH h I L R) (g : qGo 40 [.ref (1), .long z] h r) : ∃ v, r = (.inl (some (.int v)), h) ∧ tryC I z v := by
  refine qg_40 (Q := fun r => ∃ v, r = (.inl (some (.int v)), h) ∧ tryC I z v) th g (fun v e => ⟨v, rfl, fun m nc em ec m1 m6 n6 => ?_⟩)
  have := e m nc 0 0 ⟨em, ec, m1, m6, n6, rfl, Nat.zero_le _, Nat.one_pos, isCuts_0, fun q => absurd q (Nat.lt_irrefl 0)⟩
  rw [Nat.zero_mul, Nat.sub_zero] at this
  exact this
end
section
/-! part 63: the search of the class: what rules a key out -/
theorem kN_10 : Int32.ofNat 10 = (10 : Int32) := by decide
theorem letIn_b {a b : Int64} : letIn a b ↔ ∀ n, n < 64 → lb a n = true → lb b n = true := by
  constructor
  · intro h n hn ha
    have := congrArg (fun z => lb z n) h
    simp only [lb_and, lb_nt, lb_0, decide_eq_true hn, ha, Bool.true_and] at this
    cases g : lb b n with
    | true => rfl
    | false => rw [g] at this; cases this
  · intro h
    apply lb_ext
    intro n hn
    rw [lb_and, lb_nt, lb_0, decide_eq_true hn, Bool.true_and]
    cases g : lb a n with
    | false => rfl
    | true => rw [h n hn g]; rfl
theorem letIn_t {a b c : Int64} (h1 : letIn a b) (h2 : letIn b c) : letIn a c := letIn_b.mpr (fun n hn ha => letIn_b.mp h2 n hn (letIn_b.mp h1 n hn ha))
theorem letIn_and {x a b : Int64} : letIn x (a &&& b) ↔ letIn x a ∧ letIn x b := by
  rw [letIn_b, letIn_b, letIn_b]
  constructor
  · intro h
    refine ⟨fun n hn hx => ?_, fun n hn hx => ?_⟩
    · have := h n hn hx
      rw [lb_and, Bool.and_eq_true] at this
      exact this.1
    · have := h n hn hx
      rw [lb_and, Bool.and_eq_true] at this
      exact this.2
  · intro h n hn hx
    rw [lb_and, Bool.and_eq_true]
    exact ⟨h.1 n hn hx, h.2 n hn hx⟩
/-- what the search holds against a key -/
noncomputable def badV (I : Nat → Nat → Int32) (L : Nat → Nat → Int64) (x : Int64) : Prop := ¬ I 9 4 = 0 ∨ (∃ i, i < (I 9 2).toNatClampNeg ∧ letIn (L 10 i) x) ∨ (∃ i, i < (I 9 3).toNatClampNeg ∧ letIn x (L 11 i)) ∨ ¬ letIn x (L 9 8)
noncomputable def frS (J I : Nat → Nat → Int32) : Prop := ∀ a b, ¬ (a = 9 ∧ (b = 2 ∨ b = 3 ∨ b = 4)) → J a b = I a b
noncomputable def frL (K L : Nat → Nat → Int64) : Prop := ∀ a b, ¬ (a = 10 ∨ a = 11 ∨ (a = 9 ∧ b = 8)) → K a b = L a b
/-- a step that rules more keys out: those of B -/
noncomputable def stp (n k : Nat) (I : Nat → Nat → Int32) (L : Nat → Nat → Int64) (J : Nat → Nat → Int32) (K : Nat → Nat → Int64) (B : Int64 → Prop) : Prop :=
  frS J I ∧ frL K L ∧ (∀ n, lb (K 9 8) n = true → lb (L 9 8) n = true) ∧ ∀ r0 k0, I 9 2 = Int32.ofNat r0 → I 9 3 = Int32.ofNat k0 → r0 + n ≤ 180 → k0 + k ≤ 10 →
    ∃ r1 k1, J 9 2 = Int32.ofNat r1 ∧ r1 ≤ r0 + n ∧ J 9 3 = Int32.ofNat k1 ∧ k1 ≤ k0 + k ∧ ∀ x, badV J K x ↔ badV I L x ∨ B x
theorem stp_0 {I : Nat → Nat → Int32} {L : Nat → Nat → Int64} : stp 0 0 I L I L (fun _ => False) :=
  ⟨fun _ _ _ => rfl, fun _ _ _ => rfl, fun _ h => h, fun r0 k0 h1 h2 _ _ => ⟨r0, k0, h1, Nat.le_refl _, h2, Nat.le_refl _, fun x => ⟨Or.inl, fun q => q.elim id False.elim⟩⟩⟩
theorem stp_c {n k n' k' : Nat} {I J J' : Nat → Nat → Int32} {L K K' : Nat → Nat → Int64} {B B' : Int64 → Prop} (h : stp n k I L J K B) (g : stp n' k' J K J' K' B') : stp (n + n') (k + k') I L J' K' (fun x => B x ∨ B' x) := by
  obtain ⟨h1, h2, h3, h4⟩ := h
  obtain ⟨g1, g2, g3, g4⟩ := g
  refine ⟨fun a b q => (g1 a b q).trans (h1 a b q), fun a b q => (g2 a b q).trans (h2 a b q), fun n q => h3 n (g3 n q), fun r0 k0 e1 e2 l1 l2 => ?_⟩
  obtain ⟨r1, k1, a1, a2, a3, a4, a5⟩ := h4 r0 k0 e1 e2 (by omega) (by omega)
  obtain ⟨r2, k2, b1, b2, b3, b4, b5⟩ := g4 r1 k1 a1 a3 (by omega) (by omega)
  refine ⟨r2, k2, b1, by omega, b3, by omega, fun x => ?_⟩
  rw [b5 x, a5 x]
  exact or_assoc
theorem stp_w {n k n' k' : Nat} {I J : Nat → Nat → Int32} {L K : Nat → Nat → Int64} {B B' : Int64 → Prop} (h : stp n k I L J K B) (hn : n ≤ n') (hk : k ≤ k') (hB : ∀ x, B x ↔ B' x) : stp n' k' I L J K B' := by
  obtain ⟨h1, h2, h3, h4⟩ := h
  refine ⟨h1, h2, h3, fun r0 k0 e1 e2 l1 l2 => ?_⟩
  obtain ⟨r1, k1, a1, a2, a3, a4, a5⟩ := h4 r0 k0 e1 e2 (by omega) (by omega)
  refine ⟨r1, k1, a1, by omega, a3, by omega, fun x => ?_⟩
  rw [a5 x, hB x]
/-- all are ruled out -/
theorem stp_v {I : Nat → Nat → Int32} {L : Nat → Nat → Int64} : stp 0 0 I L (upI I 9 4 1) L (fun _ => True) := by
  refine ⟨fun a b q => upI_ne (fun z => q ⟨z.1, .inr (.inr z.2)⟩), fun _ _ _ => rfl, fun _ h => h, fun r0 k0 h1 h2 _ _ => ⟨r0, k0, (upI_ne (by decide)).trans h1, Nat.le_refl _, (upI_ne (by decide)).trans h2, Nat.le_refl _, fun x => ⟨fun _ => .inr True.intro, fun _ => .inl ?_⟩⟩⟩
  rw [upI_s]; decide
theorem stp_and {I : Nat → Nat → Int32} {L : Nat → Nat → Int64} {y : Int64} : stp 0 0 I L I (upL L 9 8 (L 9 8 &&& y)) (fun x => ¬ letIn x y) := by
  refine ⟨fun _ _ _ => rfl, fun a b q => upL_ne (fun z => q (.inr (.inr z))), fun n h => ?_, fun r0 k0 h1 h2 _ _ => ⟨r0, k0, h1, Nat.le_refl _, h2, Nat.le_refl _, fun x => ?_⟩⟩
  · rw [upL_s, lb_and, Bool.and_eq_true] at h
    exact h.1
  · unfold badV
    have e1 : ∀ i, upL L 9 8 (L 9 8 &&& y) 10 i = L 10 i := fun i => upL_ne (fun z => absurd z.1 (by decide))
    have e2 : ∀ i, upL L 9 8 (L 9 8 &&& y) 11 i = L 11 i := fun i => upL_ne (fun z => absurd z.1 (by decide))
    simp only [e1, e2, upL_s]
    rw [letIn_and]
    constructor
    · rintro (q | q | q | q)
      · exact .inl (.inl q)
      · exact .inl (.inr (.inl q))
      · exact .inl (.inr (.inr (.inl q)))
      · by_cases g : letIn x y
        · exact .inl (.inr (.inr (.inr (fun z => q ⟨z, g⟩))))
        · exact .inr g
    · rintro ((q | q | q | q) | q)
      · exact .inl q
      · exact .inr (.inl q)
      · exact .inr (.inr (.inl q))
      · exact .inr (.inr (.inr (fun z => q z.1)))
      · exact .inr (.inr (.inr (fun z => q z.2)))
noncomputable def roP (I : Nat → Nat → Int32) (L : Nat → Nat → Int64) (y : Int64) (J : Nat → Nat → Int32) (K : Nat → Nat → Int64) : Prop := stp 1 0 I L J K (fun x => letIn y x)
theorem sem_85 {I : Nat → Nat → Int32} {L : Nat → Nat → Int64} {y : Int64} : ∀ n i r, i ≤ (I 9 2).toNatClampNeg → F_85 n 2 I L y (Int32.ofNat i) = some r → (r = ((), I, L) ∧ ((180 : Int32) ≤ I 9 2 ∨ ∃ i, i < (I 9 2).toNatClampNeg ∧ letIn (L 10 i) y)) ∨ (¬ (180 : Int32) ≤ I 9 2 ∧ r = ((), upI I 9 2 (I 9 2 + 1), upL L 10 (I 9 2).toNatClampNeg y))
  | 0, _, _, _, h => by cases h
  | n + 1, i, r, hi, h => by
    have bm := nn_lt (I 9 2)
    simp only [F_85, reduceIte] at h
    by_cases g : I 9 2 ≤ Int32.ofNat i
    · rw [if_pos g] at h
      by_cases g2 : (180 : Int32) ≤ I 9 2
      · rw [if_pos g2] at h
        cases h
        exact .inl ⟨rfl, .inl g2⟩
      · rw [if_neg g2] at h
        cases h
        exact .inr ⟨g2, rfl⟩
    · rw [if_neg g, ofN_clamp (by omega), oN_s] at h
      have := mt (le_oN (by omega)).mpr g
      by_cases g2 : (L 10 i &&& (y ^^^ 18446744073709551615)) = 0
      · rw [if_pos g2] at h
        cases h
        exact .inl ⟨rfl, .inr ⟨i, by omega, g2⟩⟩
      · rw [if_neg g2] at h
        exact sem_85 n (i + 1) r (by omega) h
theorem sp_85 {h : sH} {r : sR} {y : Int64} {I : Nat → Nat → Int32} {L : Nat → Nat → Int64} {R : Nat → Nat} (th : qH h I L R) (g : qGo 85 [.ref (9), .long y] h r) : ∃ J K h1, r = (.inl none, h1) ∧ qH h1 J K R ∧ roP I L y J K := by
  refine qg_85 (Q := fun r => ∃ J K h1, r = (.inl none, h1) ∧ qH h1 J K R ∧ roP I L y J K) g (fun N lv hl => ?_)
  refine qW_mono ?_ (fl_85 N I L y 0 lv h th hl)
  intro r ⟨n, x, e, h1, q1, q2⟩
  refine ⟨x.2.1, x.2.2, h1, q1, q2, ?_⟩
  rcases sem_85 n 0 x (Nat.zero_le _) e with ⟨e1, e2⟩ | ⟨e1, e2⟩
  · rw [e1]
    refine ⟨fun _ _ _ => rfl, fun _ _ _ => rfl, fun _ h => h, fun r0 k0 a1 a2 l1 l2 => ⟨r0, k0, a1, by omega, a2, by omega, fun z => ⟨Or.inl, ?_⟩⟩⟩
    rintro (q | q)
    · exact q
    · rcases e2 with e2 | ⟨i, e2, e3⟩
      · rw [a1] at e2
        have := (oN_le (a := 180) (by decide) (by omega)).mp e2
        omega
      · exact .inr (.inl ⟨i, e2, letIn_t e3 q⟩)
  · rw [e2]
    dsimp only
    refine ⟨fun a b q => upI_ne (fun z => q ⟨z.1, .inl z.2⟩), fun a b q => upL_ne (fun z => q (.inl z.1)), fun n q => ?_, fun r0 k0 a1 a2 l1 l2 => ?_⟩
    · rwa [upL_ne (fun z => absurd z.1 (by decide))] at q
    · refine ⟨r0 + 1, k0, by rw [upI_s, a1, oN_s], Nat.le_refl _, (upI_ne (by decide)).trans a2, by omega, fun z => ?_⟩
      have f1 : ∀ i, upL L 10 (I 9 2).toNatClampNeg y 11 i = L 11 i := fun i => upL_ne (fun z => absurd z.1 (by decide))
      have f2 : upL L 10 (I 9 2).toNatClampNeg y 9 8 = L 9 8 := upL_ne (fun z => absurd z.1 (by decide))
      have f3 : upI I 9 2 (I 9 2 + 1) 9 4 = I 9 4 := upI_ne (by decide)
      have f4 : upI I 9 2 (I 9 2 + 1) 9 3 = I 9 3 := upI_ne (by decide)
      unfold badV
      simp only [f1, f2, f3, f4, upI_s]
      rw [a1, oN_s, ofN_clamp (by omega), ofN_clamp (by omega)]
      have key : (∃ i, i < r0 + 1 ∧ letIn (upL L 10 r0 y 10 i) z) ↔ (∃ i, i < r0 ∧ letIn (L 10 i) z) ∨ letIn y z := by
        constructor
        · rintro ⟨i, i1, i2⟩
          by_cases e : i = r0
          · rw [e, upL_s] at i2; exact .inr i2
          · rw [upL_ne (fun q => e q.2)] at i2; exact .inl ⟨i, by omega, i2⟩
        · rintro (⟨i, i1, i2⟩ | q)
          · exact ⟨i, by omega, by rw [upL_ne (fun q => by omega)]; exact i2⟩
          · exact ⟨r0, by omega, by rw [upL_s]; exact q⟩
      rw [key]
      constructor
      · rintro (q | (q | q) | q | q)
        · exact .inl (.inl q)
        · exact .inl (.inr (.inl q))
        · exact .inr q
        · exact .inl (.inr (.inr (.inl q)))
        · exact .inl (.inr (.inr (.inr q)))
      · rintro ((q | q | q | q) | q)
        · exact .inl q
        · exact .inr (.inl (.inl q))
        · exact .inr (.inr (.inl q))
        · exact .inr (.inr (.inr q))
        · exact .inr (.inl (.inr q))
noncomputable def koP (I : Nat → Nat → Int32) (L : Nat → Nat → Int64) (y : Int64) (J : Nat → Nat → Int32) (K : Nat → Nat → Int64) : Prop := stp 0 1 I L J K (fun x => letIn x y)
theorem qg_89 {h : sH} {r : sR} {Q : sR → Prop} {a0 : Int64} {I : Nat → Nat → Int32} {L : Nat → Nat → Int64} {R : Nat → Nat} (th : qH h I L R) (g : qGo 89 [.ref (9), .long (a0)] h r)
    (p1 : ∀ (c1 : (10 : Int32) ≤ (I 9 3)), Q (.inl none, h))
    (p2 : ∀ (c1 : ¬ (10 : Int32) ≤ (I 9 3)), ∀ (bb2 : sIn (I 9 3) 10 = true), ∀ (h5 : sH), ∀ (t6 : qH h5 (upI I 9 3 ((I 9 3) + (1 : Int32))) (upL L 11 ((I 9 3).toNatClampNeg) a0) R), Q (.inl none, h5)) : Q r := by
  refine qGo_w g (fun N => ?_)
  have hl0 : qLs (lv_args 0 [.ref (9), .long (a0)]) [some (.ref (9)), some (.long (a0)), none] := qLs_ar 0
  refine q_aload_n (show mE (mtv 89) 0 = some (.aload_n 0, 1, 0, 0) from rfl) (hl0 0 _ rfl) ?_
  refine q_getI th (show mE (mtv 89) 1 = some (.getfield 22, 3, 7, 3) from rfl) (by decide) rfl ?_
  refine q_aload_n (show mE (mtv 89) 4 = some (.aload_n 0, 1, 0, 0) from rfl) (hl0 0 _ rfl) ?_
  refine q_getR (m := 11) th (show mE (mtv 89) 5 = some (.getfield 15, 3, 7, 1) from rfl) (by decide) rfl rfl ?_
  refine q_alen th (show mE (mtv 89) 8 = some (.arraylength, 1, 0, 0) from rfl) (by decide) rfl kN_10 ?_
  refine q_ic_ge (t := 32) (show mE (mtv 89) 9 = some (.if_icmp .ge 23, 3, 0, 0) from rfl) rfl (fun c1 => ?_) (fun c1 => ?_)
  · refine q_return_ (show mE (mtv 89) 32 = some (.return_, 1, 0, 0) from rfl) ?_
    exact p1 c1
  · refine q_aload_n (show mE (mtv 89) 12 = some (.aload_n 0, 1, 0, 0) from rfl) (hl0 0 _ rfl) ?_
    refine q_getR (m := 11) th (show mE (mtv 89) 13 = some (.getfield 15, 3, 7, 1) from rfl) (by decide) rfl rfl ?_
    refine q_aload_n (show mE (mtv 89) 16 = some (.aload_n 0, 1, 0, 0) from rfl) (hl0 0 _ rfl) ?_
    refine q_getI th (show mE (mtv 89) 17 = some (.getfield 22, 3, 7, 3) from rfl) (by decide) rfl ?_
    refine q_lload_n (show mE (mtv 89) 20 = some (.lload_n 1, 1, 0, 0) from rfl) (hl0 1 _ rfl) ?_
    refine q_lastore (n := 10) th (show mE (mtv 89) 21 = some (.lastore, 1, 0, 0) from rfl) (by decide) rfl (fun bb2 h3 t4 => ?_)
    refine q_aload_n (show mE (mtv 89) 22 = some (.aload_n 0, 1, 0, 0) from rfl) (hl0 0 _ rfl) ?_
    refine q_dupR (show mE (mtv 89) 23 = some (.dup, 1, 0, 0) from rfl) ?_
    refine q_getI t4 (show mE (mtv 89) 24 = some (.getfield 22, 3, 7, 3) from rfl) (by decide) rfl ?_
    refine q_iconst (show mE (mtv 89) 27 = some (.iconst 1, 1, 0, 0) from rfl) kI_1 ?_
    refine q_iadd (show mE (mtv 89) 28 = some (.iadd, 1, 0, 0) from rfl) ?_
    refine q_putI t4 (show mE (mtv 89) 29 = some (.putfield 22, 3, 7, 3) from rfl) (by decide) rfl (fun h5 t6 => ?_)
    refine q_return_ (show mE (mtv 89) 32 = some (.return_, 1, 0, 0) from rfl) ?_
    exact p2 c1 bb2 h5 t6
theorem sp_89 {h : sH} {r : sR} {y : Int64} {I : Nat → Nat → Int32} {L : Nat → Nat → Int64} {R : Nat → Nat} (th : qH h I L R) (g : qGo 89 [.ref (9), .long y] h r) : ∃ J K h1, r = (.inl none, h1) ∧ qH h1 J K R ∧ koP I L y J K := by
  refine qg_89 (Q := fun r => ∃ J K h1, r = (.inl none, h1) ∧ qH h1 J K R ∧ koP I L y J K) th g (fun c1 => ⟨I, L, h, rfl, th, ?_⟩) (fun c1 _ h1 t1 => ⟨_, _, h1, rfl, t1, ?_⟩)
  · refine ⟨fun _ _ _ => rfl, fun _ _ _ => rfl, fun _ h => h, fun r0 k0 a1 a2 l1 l2 => ?_⟩
    rw [a2] at c1
    have := (oN_le (a := 10) (by decide) (by omega)).mp c1
    omega
  · refine ⟨fun a b q => upI_ne (fun z => q ⟨z.1, .inr (.inl z.2)⟩), fun a b q => upL_ne (fun z => q (.inr (.inl z.1))), fun n q => ?_, fun r0 k0 a1 a2 l1 l2 => ?_⟩
    · rwa [upL_ne (fun z => absurd z.1 (by decide))] at q
    · refine ⟨r0, k0 + 1, (upI_ne (by decide)).trans a1, by omega, by rw [upI_s, a2, oN_s], Nat.le_refl _, fun z => ?_⟩
      have f1 : ∀ i, upL L 11 (I 9 3).toNatClampNeg y 10 i = L 10 i := fun i => upL_ne (fun z => absurd z.1 (by decide))
      have f2 : upL L 11 (I 9 3).toNatClampNeg y 9 8 = L 9 8 := upL_ne (fun z => absurd z.1 (by decide))
      have f3 : upI I 9 3 (I 9 3 + 1) 9 4 = I 9 4 := upI_ne (by decide)
      have f4 : upI I 9 3 (I 9 3 + 1) 9 2 = I 9 2 := upI_ne (by decide)
      unfold badV
      simp only [f1, f2, f3, f4, upI_s]
      rw [a2, oN_s, ofN_clamp (by omega), ofN_clamp (by omega)]
      have key : (∃ i, i < k0 + 1 ∧ letIn z (upL L 11 k0 y 11 i)) ↔ (∃ i, i < k0 ∧ letIn z (L 11 i)) ∨ letIn z y := by
        constructor
        · rintro ⟨i, i1, i2⟩
          by_cases e : i = k0
          · rw [e, upL_s] at i2; exact .inr i2
          · rw [upL_ne (fun q => e q.2)] at i2; exact .inl ⟨i, by omega, i2⟩
        · rintro (⟨i, i1, i2⟩ | q)
          · exact ⟨i, by omega, by rw [upL_ne (fun q => by omega)]; exact i2⟩
          · exact ⟨k0, by omega, by rw [upL_s]; exact q⟩
      rw [key]
      constructor
      · rintro (q | q | (q | q) | q)
        · exact .inl (.inl q)
        · exact .inl (.inr (.inl q))
        · exact .inl (.inr (.inr (.inl q)))
        · exact .inr q
        · exact .inl (.inr (.inr (.inr q)))
      · rintro ((q | q | q | q) | q)
        · exact .inl q
        · exact .inr (.inl q)
        · exact .inr (.inr (.inl (.inl q)))
        · exact .inr (.inr (.inr q))
        · exact .inr (.inr (.inl (.inr q)))
/-- what a stray-to-be rules out -/
noncomputable def lsB (y : Int64) (f : Int32) (x : Int64) : Prop := (¬ f = 0 ∧ letIn y x) ∨ (f = 0 ∧ y = 0)
noncomputable def lsP (I : Nat → Nat → Int32) (L : Nat → Nat → Int64) (y : Int64) (f : Int32) (J : Nat → Nat → Int32) (K : Nat → Nat → Int64) : Prop := stp 1 0 I L J K (lsB y f)
theorem qg_87 {h : sH} {r : sR} {Q : sR → Prop} {a0 : Int64} {a1 : Int32} {I : Nat → Nat → Int32} {L : Nat → Nat → Int64} {R : Nat → Nat} (th : qH h I L R) (g : qGo 87 [.ref (0), .long (a0), .int (a1)] h r)
    (p1 : ∀ (c1 : a1 = 0), ∀ (c2 : ¬ (a0 = (0 : Int64))), Q (.inl none, h))
    (p2 : ∀ (c1 : a1 = 0), ∀ (c2 : a0 = (0 : Int64)), ∀ (h4 : sH), ∀ (t5 : qH h4 (upI I 9 4 (1 : Int32)) L R), Q (.inl none, h4))
    (p3 : ∀ (c1 : ¬ a1 = 0), ∀ (j6 : Nat → Nat → Int32), ∀ (K10 : Nat → Nat → Int64), ∀ (h7 : sH), ∀ (t8 : qH h7 j6 K10 R), ∀ (e9 : roP I L a0 j6 K10), Q (.inl none, h7)) : Q r := by
  refine qGo_w g (fun N => ?_)
  have hl0 : qLs (lv_args 0 [.ref (0), .long (a0), .int (a1)]) [some (.ref (0)), some (.long (a0)), none, some (.int (a1))] := qLs_ar 0
  refine q_iload_n (show mE (mtv 87) 0 = some (.iload_n 3, 1, 0, 0) from rfl) (hl0 3 _ rfl) ?_
  refine q_if_eq (t := 15) (show mE (mtv 87) 1 = some (.ifCond .eq 14, 3, 0, 0) from rfl) rfl (fun c1 => ?_) (fun c1 => ?_)
  · refine q_lload_n (show mE (mtv 87) 15 = some (.lload_n 1, 1, 0, 0) from rfl) (hl0 1 _ rfl) ?_
    refine q_lconst (show mE (mtv 87) 16 = some (.lconst 0, 1, 0, 0) from rfl) kL_0 ?_
    refine q_lcmp (show mE (mtv 87) 17 = some (.lcmp, 1, 0, 0) from rfl) ?_
    refine q_ifl_ne (t := 28) (show mE (mtv 87) 18 = some (.ifCond .ne 10, 3, 0, 0) from rfl) rfl (fun c2 => ?_) (fun c2 => ?_)
    · refine q_return_ (show mE (mtv 87) 28 = some (.return_, 1, 0, 0) from rfl) ?_
      exact p1 c1 c2
    · refine q_aload_n (show mE (mtv 87) 21 = some (.aload_n 0, 1, 0, 0) from rfl) (hl0 0 _ rfl) ?_
      refine q_getR (m := 9) th (show mE (mtv 87) 22 = some (.getfield 19, 3, 8, 1) from rfl) (by decide) rfl rfl ?_
      refine q_virtualI (show mE (mtv 87) 25 = some (.invokevirtual 567, 3, 88, 7) from rfl) (by decide) rfl rfl rfl (fun _ => ?_)
      have hl3 : qLs (lv_args 0 [.ref (9)]) [some (.ref (9))] := qLs_ar 0
      refine q_aload_n (show mE (mtv 88) 0 = some (.aload_n 0, 1, 0, 0) from rfl) (hl3 0 _ rfl) ?_
      refine q_iconst (show mE (mtv 88) 1 = some (.iconst 1, 1, 0, 0) from rfl) kI_1 ?_
      refine q_putI th (show mE (mtv 88) 2 = some (.putfield 25, 3, 7, 4) from rfl) (by decide) rfl (fun h4 t5 => ?_)
      refine q_return_ (show mE (mtv 88) 5 = some (.return_, 1, 0, 0) from rfl) ?_
      refine qK_n ?_
      refine q_return_ (show mE (mtv 87) 28 = some (.return_, 1, 0, 0) from rfl) ?_
      exact p2 c1 c2 h4 t5
  · refine q_aload_n (show mE (mtv 87) 4 = some (.aload_n 0, 1, 0, 0) from rfl) (hl0 0 _ rfl) ?_
    refine q_getR (m := 9) th (show mE (mtv 87) 5 = some (.getfield 19, 3, 8, 1) from rfl) (by decide) rfl rfl ?_
    refine q_lload_n (show mE (mtv 87) 8 = some (.lload_n 1, 1, 0, 0) from rfl) (hl0 1 _ rfl) ?_
    refine q_virtualE (show mE (mtv 87) 9 = some (.invokevirtual 552, 3, 85, 7) from rfl) (by decide) rfl rfl rfl (fun _ g => sp_85 th g) ?_
    rintro _ ⟨j6, K10, h7, rfl, t8, e9⟩
    refine qK_n ?_
    refine q_goto (t := 28) (show mE (mtv 87) 12 = some (.goto 16, 3, 0, 0) from rfl) rfl ?_
    refine q_return_ (show mE (mtv 87) 28 = some (.return_, 1, 0, 0) from rfl) ?_
    exact p3 c1 j6 K10 h7 t8 e9
theorem sp_87 {h : sH} {r : sR} {y : Int64} {f : Int32} {I : Nat → Nat → Int32} {L : Nat → Nat → Int64} {R : Nat → Nat} (th : qH h I L R) (g : qGo 87 [.ref (0), .long y, .int f] h r) : ∃ J K h1, r = (.inl none, h1) ∧ qH h1 J K R ∧ lsP I L y f J K := by
  refine qg_87 (Q := fun r => ∃ J K h1, r = (.inl none, h1) ∧ qH h1 J K R ∧ lsP I L y f J K) th g (fun c1 c2 => ⟨I, L, h, rfl, th, ?_⟩) (fun c1 c2 h1 t1 => ⟨_, _, h1, rfl, t1, ?_⟩) (fun c1 J K h1 t1 e => ⟨J, K, h1, rfl, t1, ?_⟩)
  · refine stp_w stp_0 (by omega) (by omega) (fun x => ?_)
    unfold lsB
    simp only [c1, c2, not_true_eq_false, false_and, and_false, or_false]
  · refine stp_w stp_v (by omega) (by omega) (fun x => ?_)
    unfold lsB
    simp only [c1, c2, not_true_eq_false, false_and, and_self, false_or]
  · refine stp_w e (by omega) (by omega) (fun x => ?_)
    unfold lsB
    simp only [c1, not_false_eq_true, true_and, false_and, or_false]
/-- the depths beside those of pins -/
noncomputable def thinM (p : Int64) : Int64 := (p <<< (((1 : Int32)).toInt64 &&& 63)) ||| (((p).toUInt64 >>> (((1 : Int32)).toInt64.toUInt64 &&& Int64.toUInt64 63)).toInt64)
noncomputable def ltB (nc : Int32) (p : Int64) (f : Int32) (x : Int64) : Prop := ¬ G_91 p 0 0 nc.toNatClampNeg ≤ 0 ∨ (¬ f = 0 ∧ ¬ letIn x (thinM p ^^^ 18446744073709551615))
noncomputable def ltP (I : Nat → Nat → Int32) (L : Nat → Nat → Int64) (p : Int64) (f : Int32) (J : Nat → Nat → Int32) (K : Nat → Nat → Int64) : Prop := stp 0 0 I L J K (ltB (I 1 1) p f)
theorem qg_90 {h : sH} {r : sR} {Q : sR → Prop} {a0 : Int64} {a1 : Int32} {I : Nat → Nat → Int32} {L : Nat → Nat → Int64} {R : Nat → Nat} (th : qH h I L R) (g : qGo 90 [.ref (0), .long (a0), .int (a1)] h r)
    (p1 : ∀ (c1 : (G_91  (a0) 0 ((0 : Int32)) ((I 1 1)).toNatClampNeg) ≤ 0), ∀ (c2 : a1 = 0), Q (.inl none, h))
    (p2 : ∀ (c1 : (G_91  (a0) 0 ((0 : Int32)) ((I 1 1)).toNatClampNeg) ≤ 0), ∀ (c2 : ¬ a1 = 0), ∀ (h4 : sH), ∀ (t5 : qH h4 I (upL L 9 8 ((L 9 8) &&& (((a0 <<< (((1 : Int32)).toInt64 &&& 63)) ||| (((a0).toUInt64 >>> (((1 : Int32)).toInt64.toUInt64 &&& Int64.toUInt64 63)).toInt64)) ^^^ (18446744073709551615 : Int64)))) R), Q (.inl none, h4))
    (p3 : ∀ (c1 : ¬ (G_91  (a0) 0 ((0 : Int32)) ((I 1 1)).toNatClampNeg) ≤ 0), ∀ (h7 : sH), ∀ (t8 : qH h7 (upI I 9 4 (1 : Int32)) L R), ∀ (c9 : a1 = 0), Q (.inl none, h7))
    (p4 : ∀ (c1 : ¬ (G_91  (a0) 0 ((0 : Int32)) ((I 1 1)).toNatClampNeg) ≤ 0), ∀ (c9 : ¬ a1 = 0), ∀ (h11 : sH), ∀ (t12 : qH h11 (upI I 9 4 (1 : Int32)) (upL L 9 8 ((L 9 8) &&& (((a0 <<< (((1 : Int32)).toInt64 &&& 63)) ||| (((a0).toUInt64 >>> (((1 : Int32)).toInt64.toUInt64 &&& Int64.toUInt64 63)).toInt64)) ^^^ (18446744073709551615 : Int64)))) R), Q (.inl none, h11)) : Q r := by
  refine qGo_w g (fun N => ?_)
  have hl0 : qLs (lv_args 0 [.ref (0), .long (a0), .int (a1)]) [some (.ref (0)), some (.long (a0)), none, some (.int (a1))] := qLs_ar 0
  refine q_aload_n (show mE (mtv 90) 0 = some (.aload_n 0, 1, 0, 0) from rfl) (hl0 0 _ rfl) ?_
  refine q_lload_n (show mE (mtv 90) 1 = some (.lload_n 1, 1, 0, 0) from rfl) (hl0 1 _ rfl) ?_
  refine q_virtualP (show mE (mtv 90) 2 = some (.invokevirtual 276, 3, 91, 8) from rfl) (by decide) rfl rfl rfl (fun _ g => sp_91 th g) ?_
  refine q_if_le (t := 15) (show mE (mtv 90) 5 = some (.ifCond .le 10, 3, 0, 0) from rfl) rfl (fun c1 => ?_) (fun c1 => ?_)
  · refine q_iload_n (show mE (mtv 90) 15 = some (.iload_n 3, 1, 0, 0) from rfl) (hl0 3 _ rfl) ?_
    refine q_if_eq (t := 33) (show mE (mtv 90) 16 = some (.ifCond .eq 17, 3, 0, 0) from rfl) rfl (fun c2 => ?_) (fun c2 => ?_)
    · refine q_return_ (show mE (mtv 90) 33 = some (.return_, 1, 0, 0) from rfl) ?_
      exact p1 c1 c2
    · refine q_aload_n (show mE (mtv 90) 19 = some (.aload_n 0, 1, 0, 0) from rfl) (hl0 0 _ rfl) ?_
      refine q_getR (m := 9) th (show mE (mtv 90) 20 = some (.getfield 19, 3, 8, 1) from rfl) (by decide) rfl rfl ?_
      refine q_lload_n (show mE (mtv 90) 23 = some (.lload_n 1, 1, 0, 0) from rfl) (hl0 1 _ rfl) ?_
      refine q_iconst (show mE (mtv 90) 24 = some (.iconst 1, 1, 0, 0) from rfl) kI_1 ?_
      refine q_lshl (show mE (mtv 90) 25 = some (.lshl, 1, 0, 0) from rfl) ?_
      refine q_lload_n (show mE (mtv 90) 26 = some (.lload_n 1, 1, 0, 0) from rfl) (hl0 1 _ rfl) ?_
      refine q_iconst (show mE (mtv 90) 27 = some (.iconst 1, 1, 0, 0) from rfl) kI_1 ?_
      refine q_lushr (show mE (mtv 90) 28 = some (.lushr, 1, 0, 0) from rfl) ?_
      refine q_lor (show mE (mtv 90) 29 = some (.lor, 1, 0, 0) from rfl) ?_
      refine q_virtualI (show mE (mtv 90) 30 = some (.invokevirtual 576, 3, 92, 7) from rfl) (by decide) rfl rfl rfl (fun _ => ?_)
      have hl3 : qLs (lv_args 0 [.ref (9), .long ((a0 <<< (((1 : Int32)).toInt64 &&& 63)) ||| (((a0).toUInt64 >>> (((1 : Int32)).toInt64.toUInt64 &&& Int64.toUInt64 63)).toInt64))]) [some (.ref (9)), some (.long ((a0 <<< (((1 : Int32)).toInt64 &&& 63)) ||| (((a0).toUInt64 >>> (((1 : Int32)).toInt64.toUInt64 &&& Int64.toUInt64 63)).toInt64))), none] := qLs_ar 0
      refine q_aload_n (show mE (mtv 92) 0 = some (.aload_n 0, 1, 0, 0) from rfl) (hl3 0 _ rfl) ?_
      refine q_dupR (show mE (mtv 92) 1 = some (.dup, 1, 0, 0) from rfl) ?_
      refine q_getL th (show mE (mtv 92) 2 = some (.getfield 47, 3, 7, 8) from rfl) (by decide) rfl ?_
      refine q_lload_n (show mE (mtv 92) 5 = some (.lload_n 1, 1, 0, 0) from rfl) (hl3 1 _ rfl) ?_
      refine q_ldc2_w (show mE (mtv 92) 6 = some (.ldc2_w 57, 3, 18446744073709551615, 0) from rfl) rfl ?_
      refine q_lxor (show mE (mtv 92) 9 = some (.lxor, 1, 0, 0) from rfl) ?_
      refine q_land (show mE (mtv 92) 10 = some (.land, 1, 0, 0) from rfl) ?_
      refine q_putL th (show mE (mtv 92) 11 = some (.putfield 47, 3, 7, 8) from rfl) (by decide) rfl (fun h4 t5 => ?_)
      refine q_return_ (show mE (mtv 92) 14 = some (.return_, 1, 0, 0) from rfl) ?_
      refine qK_n ?_
      refine q_return_ (show mE (mtv 90) 33 = some (.return_, 1, 0, 0) from rfl) ?_
      exact p2 c1 c2 h4 t5
  · refine q_aload_n (show mE (mtv 90) 8 = some (.aload_n 0, 1, 0, 0) from rfl) (hl0 0 _ rfl) ?_
    refine q_getR (m := 9) th (show mE (mtv 90) 9 = some (.getfield 19, 3, 8, 1) from rfl) (by decide) rfl rfl ?_
    refine q_virtualI (show mE (mtv 90) 12 = some (.invokevirtual 567, 3, 88, 7) from rfl) (by decide) rfl rfl rfl (fun _ => ?_)
    have hl6 : qLs (lv_args 0 [.ref (9)]) [some (.ref (9))] := qLs_ar 0
    refine q_aload_n (show mE (mtv 88) 0 = some (.aload_n 0, 1, 0, 0) from rfl) (hl6 0 _ rfl) ?_
    refine q_iconst (show mE (mtv 88) 1 = some (.iconst 1, 1, 0, 0) from rfl) kI_1 ?_
    refine q_putI th (show mE (mtv 88) 2 = some (.putfield 25, 3, 7, 4) from rfl) (by decide) rfl (fun h7 t8 => ?_)
    refine q_return_ (show mE (mtv 88) 5 = some (.return_, 1, 0, 0) from rfl) ?_
    refine qK_n ?_
    refine q_iload_n (show mE (mtv 90) 15 = some (.iload_n 3, 1, 0, 0) from rfl) (hl0 3 _ rfl) ?_
    refine q_if_eq (t := 33) (show mE (mtv 90) 16 = some (.ifCond .eq 17, 3, 0, 0) from rfl) rfl (fun c9 => ?_) (fun c9 => ?_)
    · refine q_return_ (show mE (mtv 90) 33 = some (.return_, 1, 0, 0) from rfl) ?_
      exact p3 c1 h7 t8 c9
    · refine q_aload_n (show mE (mtv 90) 19 = some (.aload_n 0, 1, 0, 0) from rfl) (hl0 0 _ rfl) ?_
      refine q_getR (m := 9) t8 (show mE (mtv 90) 20 = some (.getfield 19, 3, 8, 1) from rfl) (by decide) rfl rfl ?_
      refine q_lload_n (show mE (mtv 90) 23 = some (.lload_n 1, 1, 0, 0) from rfl) (hl0 1 _ rfl) ?_
      refine q_iconst (show mE (mtv 90) 24 = some (.iconst 1, 1, 0, 0) from rfl) kI_1 ?_
      refine q_lshl (show mE (mtv 90) 25 = some (.lshl, 1, 0, 0) from rfl) ?_
      refine q_lload_n (show mE (mtv 90) 26 = some (.lload_n 1, 1, 0, 0) from rfl) (hl0 1 _ rfl) ?_
      refine q_iconst (show mE (mtv 90) 27 = some (.iconst 1, 1, 0, 0) from rfl) kI_1 ?_
      refine q_lushr (show mE (mtv 90) 28 = some (.lushr, 1, 0, 0) from rfl) ?_
      refine q_lor (show mE (mtv 90) 29 = some (.lor, 1, 0, 0) from rfl) ?_
      refine q_virtualI (show mE (mtv 90) 30 = some (.invokevirtual 576, 3, 92, 7) from rfl) (by decide) rfl rfl rfl (fun _ => ?_)
      have hl10 : qLs (lv_args 0 [.ref (9), .long ((a0 <<< (((1 : Int32)).toInt64 &&& 63)) ||| (((a0).toUInt64 >>> (((1 : Int32)).toInt64.toUInt64 &&& Int64.toUInt64 63)).toInt64))]) [some (.ref (9)), some (.long ((a0 <<< (((1 : Int32)).toInt64 &&& 63)) ||| (((a0).toUInt64 >>> (((1 : Int32)).toInt64.toUInt64 &&& Int64.toUInt64 63)).toInt64))), none] := qLs_ar 0
      refine q_aload_n (show mE (mtv 92) 0 = some (.aload_n 0, 1, 0, 0) from rfl) (hl10 0 _ rfl) ?_
      refine q_dupR (show mE (mtv 92) 1 = some (.dup, 1, 0, 0) from rfl) ?_
      refine q_getL t8 (show mE (mtv 92) 2 = some (.getfield 47, 3, 7, 8) from rfl) (by decide) rfl ?_
      refine q_lload_n (show mE (mtv 92) 5 = some (.lload_n 1, 1, 0, 0) from rfl) (hl10 1 _ rfl) ?_
      refine q_ldc2_w (show mE (mtv 92) 6 = some (.ldc2_w 57, 3, 18446744073709551615, 0) from rfl) rfl ?_
      refine q_lxor (show mE (mtv 92) 9 = some (.lxor, 1, 0, 0) from rfl) ?_
      refine q_land (show mE (mtv 92) 10 = some (.land, 1, 0, 0) from rfl) ?_
      refine q_putL t8 (show mE (mtv 92) 11 = some (.putfield 47, 3, 7, 8) from rfl) (by decide) rfl (fun h11 t12 => ?_)
      refine q_return_ (show mE (mtv 92) 14 = some (.return_, 1, 0, 0) from rfl) ?_
      refine qK_n ?_
      refine q_return_ (show mE (mtv 90) 33 = some (.return_, 1, 0, 0) from rfl) ?_
      exact p4 c1 c9 h11 t12
theorem sp_90 {h : sH} {r : sR} {p : Int64} {f : Int32} {I : Nat → Nat → Int32} {L : Nat → Nat → Int64} {R : Nat → Nat} (th : qH h I L R) (g : qGo 90 [.ref (0), .long p, .int f] h r) : ∃ J K h1, r = (.inl none, h1) ∧ qH h1 J K R ∧ ltP I L p f J K := by
  refine qg_90 (Q := fun r => ∃ J K h1, r = (.inl none, h1) ∧ qH h1 J K R ∧ ltP I L p f J K) th g (fun c1 c2 => ⟨I, L, h, rfl, th, ?_⟩) (fun c1 c2 h1 t1 => ⟨_, _, h1, rfl, t1, ?_⟩) (fun c1 h1 t1 c2 => ⟨_, _, h1, rfl, t1, ?_⟩) (fun c1 c2 h1 t1 => ⟨_, _, h1, rfl, t1, ?_⟩)
  · refine stp_w stp_0 (by omega) (by omega) (fun x => ?_)
    unfold ltB
    simp only [c1, c2, not_true_eq_false, false_and, or_false]
  · refine stp_w stp_and (by omega) (by omega) (fun x => ?_)
    show _ ↔ ltB _ _ _ _
    unfold ltB
    simp only [c1, c2, not_true_eq_false, not_false_eq_true, true_and, false_or]
    exact Iff.rfl
  · refine stp_w stp_v (by omega) (by omega) (fun x => ?_)
    unfold ltB
    simp only [c1, not_false_eq_true, true_or]
  · refine stp_w (stp_c stp_v stp_and) (by omega) (by omega) (fun x => ?_)
    unfold ltB
    simp only [c1, not_false_eq_true, true_or]
/-- what a door rules out: its ward, who is wished, whether it is one of those for which a key is searched -/
noncomputable def liB (I : Nat → Nat → Int32) (L : Nat → Nat → Int64) (wd ws f : Int32) (x : Int64) : Prop :=
  (∃ k, k < (I 0 9).toNatClampNeg ∧ ¬ hs ws (Int32.ofNat k) = true ∧ (I (19 + k) 1 &&& wd) = 0 ∧ lsB (L (19 + k) 0 &&& (G_14 L ws 0 0 (I 0 9).toNatClampNeg ^^^ 18446744073709551615)) f x) ∨ (¬ f = 0 ∧ ¬ (I 1 4 &&& wd) = 0) ∨ (f = 0 ∧ (I 1 4 &&& wd) = 0 ∧ letIn x (G_14 L ws 0 0 (I 0 9).toNatClampNeg)) ∨ (I 0 16 = 0 ∧ ltB (I 1 1) (G_14 L ws 0 0 (I 0 9).toNatClampNeg) f x)
noncomputable def liP (I : Nat → Nat → Int32) (L : Nat → Nat → Int64) (wd ws f : Int32) (J : Nat → Nat → Int32) (K : Nat → Nat → Int64) : Prop := stp (I 0 9).toNatClampNeg 1 I L J K (liB I L wd ws f)
theorem qg_86 {h : sH} {r : sR} {Q : sR → Prop} {a0 : Int32} {a1 : Int32} {a2 : Int32} {I : Nat → Nat → Int32} {L : Nat → Nat → Int64} {R : Nat → Nat} (th : qH h I L R) (g : qGo 86 [.ref (0), .int (a0), .int (a1), .int (a2)] h r)
    (p1 : ∀ N lv, qLs lv [some (.ref (0)), some (.int (a0)), some (.int (a1)), some (.int (a2)), some (.long (G_14 L (a1) 0 ((0 : Int64)) ((I 0 9)).toNatClampNeg)), none, some (.int (b2 (((I 1 4) &&& a0) = 0))), some (.int ((0 : Int32)))] → qW 86 N 23 lv [] h Q) : Q r := by
  refine qGo_w g (fun N => ?_)
  have hl0 : qLs (lv_args 0 [.ref (0), .int (a0), .int (a1), .int (a2)]) [some (.ref (0)), some (.int (a0)), some (.int (a1)), some (.int (a2)), none, none, none, none] := qLs_ar 4
  refine q_aload_n (show mE (mtv 86) 0 = some (.aload_n 0, 1, 0, 0) from rfl) (hl0 0 _ rfl) ?_
  refine q_iload_n (show mE (mtv 86) 1 = some (.iload_n 2, 1, 0, 0) from rfl) (hl0 2 _ rfl) ?_
  refine q_virtualP (show mE (mtv 86) 2 = some (.invokevirtual 201, 3, 14, 8) from rfl) (by decide) rfl rfl rfl (fun _ g => sp_14 th g) ?_
  refine q_lstore (show mE (mtv 86) 5 = some (.lstore 4, 2, 0, 0) from rfl) (Nat.le_of_ble_eq_true rfl) hl0 (fun lv1 (hl2 : qLs lv1 [some (.ref (0)), some (.int (a0)), some (.int (a1)), some (.int (a2)), some (.long (G_14 L (a1) 0 ((0 : Int64)) ((I 0 9)).toNatClampNeg)), none, none, none]) => ?_)
  refine q_aload_n (show mE (mtv 86) 7 = some (.aload_n 0, 1, 0, 0) from rfl) (hl2 0 _ rfl) ?_
  refine q_getR (m := 1) th (show mE (mtv 86) 8 = some (.getfield 10, 3, 8, 0) from rfl) (by decide) rfl rfl ?_
  refine q_getI th (show mE (mtv 86) 11 = some (.getfield 260, 3, 4, 4) from rfl) (by decide) rfl ?_
  refine q_iload_n (show mE (mtv 86) 14 = some (.iload_n 1, 1, 0, 0) from rfl) (hl2 1 _ rfl) ?_
  refine q_staticP (show mE (mtv 86) 15 = some (.invokestatic 306, 3, 18, 0) from rfl) (by decide) rfl rfl rfl (fun _ g => sp_18 g) ?_
  refine q_istore (show mE (mtv 86) 18 = some (.istore 6, 2, 0, 0) from rfl) (Nat.le_of_ble_eq_true rfl) hl2 (fun lv3 (hl4 : qLs lv3 [some (.ref (0)), some (.int (a0)), some (.int (a1)), some (.int (a2)), some (.long (G_14 L (a1) 0 ((0 : Int64)) ((I 0 9)).toNatClampNeg)), none, some (.int (b2 (((I 1 4) &&& a0) = 0))), none]) => ?_)
  refine q_iconst (show mE (mtv 86) 20 = some (.iconst 0, 1, 0, 0) from rfl) kI_0 ?_
  refine q_istore (show mE (mtv 86) 21 = some (.istore 7, 2, 0, 0) from rfl) (Nat.le_of_ble_eq_true rfl) hl4 (fun lv5 (hl6 : qLs lv5 [some (.ref (0)), some (.int (a0)), some (.int (a1)), some (.int (a2)), some (.long (G_14 L (a1) 0 ((0 : Int64)) ((I 0 9)).toNatClampNeg)), none, some (.int (b2 (((I 1 4) &&& a0) = 0))), some (.int ((0 : Int32)))]) => ?_)
  exact p1 _ lv5 (qLs_wk hl6 (⟨rfl, rfl, rfl, rfl, rfl, rfl, rfl, trivial⟩))
theorem qg_86_23 {N : Nat} {lv : sL} {h : sH} {Q : sR → Prop} {x1 : Int32} {x2 : Int32} {x3 : Int32} {x4 : Int64} {x6 : Int32} {x7 : Int32} {I : Nat → Nat → Int32} {L : Nat → Nat → Int64} {R : Nat → Nat} (th : qH h I L R) (hl : qLs lv [some (.ref (0)), some (.int (x1)), some (.int (x2)), some (.int (x3)), some (.long (x4)), none, some (.int (x6)), some (.int (x7))])
    (p1 : ∀ (c1 : (I 0 9) ≤ x7), ∀ (c2 : x3 = 0), ∀ (c4 : x6 = 0), ∀ (z5 : I 0 16 = 0 ∨ I 0 16 = 1), ∀ (c6 : ¬ (I 0 16) = 0), Q (.inl none, h))
    (p2 : ∀ (c1 : (I 0 9) ≤ x7), ∀ (c2 : x3 = 0), ∀ (c4 : x6 = 0), ∀ (z5 : I 0 16 = 0 ∨ I 0 16 = 1), ∀ (c6 : (I 0 16) = 0), ∀ (j7 : Nat → Nat → Int32), ∀ (K11 : Nat → Nat → Int64), ∀ (h8 : sH), ∀ (t9 : qH h8 j7 K11 R), ∀ (e10 : ltP I L x4 x3 j7 K11), Q (.inl none, h8))
    (p3 : ∀ (c1 : (I 0 9) ≤ x7), ∀ (c2 : x3 = 0), ∀ (c4 : ¬ x6 = 0), ∀ (j12 : Nat → Nat → Int32), ∀ (K16 : Nat → Nat → Int64), ∀ (h13 : sH), ∀ (t14 : qH h13 j12 K16 R), ∀ (e15 : koP I L x4 j12 K16), ∀ (z17 : j12 0 16 = 0 ∨ j12 0 16 = 1), ∀ (c18 : ¬ (j12 0 16) = 0), Q (.inl none, h13))
    (p4 : ∀ (c1 : (I 0 9) ≤ x7), ∀ (c2 : x3 = 0), ∀ (c4 : ¬ x6 = 0), ∀ (j12 : Nat → Nat → Int32), ∀ (K16 : Nat → Nat → Int64), ∀ (e15 : koP I L x4 j12 K16), ∀ (z17 : j12 0 16 = 0 ∨ j12 0 16 = 1), ∀ (c18 : (j12 0 16) = 0), ∀ (j19 : Nat → Nat → Int32), ∀ (K23 : Nat → Nat → Int64), ∀ (h20 : sH), ∀ (t21 : qH h20 j19 K23 R), ∀ (e22 : ltP j12 K16 x4 x3 j19 K23), Q (.inl none, h20))
    (p5 : ∀ (c1 : (I 0 9) ≤ x7), ∀ (c2 : ¬ x3 = 0), ∀ (c24 : ¬ x6 = 0), ∀ (z26 : I 0 16 = 0 ∨ I 0 16 = 1), ∀ (c27 : ¬ (I 0 16) = 0), Q (.inl none, h))
    (p6 : ∀ (c1 : (I 0 9) ≤ x7), ∀ (c2 : ¬ x3 = 0), ∀ (c24 : ¬ x6 = 0), ∀ (z26 : I 0 16 = 0 ∨ I 0 16 = 1), ∀ (c27 : (I 0 16) = 0), ∀ (j28 : Nat → Nat → Int32), ∀ (K32 : Nat → Nat → Int64), ∀ (h29 : sH), ∀ (t30 : qH h29 j28 K32 R), ∀ (e31 : ltP I L x4 x3 j28 K32), Q (.inl none, h29))
    (p7 : ∀ (c1 : (I 0 9) ≤ x7), ∀ (c2 : ¬ x3 = 0), ∀ (c24 : x6 = 0), ∀ (h34 : sH), ∀ (t35 : qH h34 (upI I 9 4 (1 : Int32)) L R), ∀ (c37 : ¬ (I 0 16) = 0), Q (.inl none, h34))
    (p8 : ∀ (c1 : (I 0 9) ≤ x7), ∀ (c2 : ¬ x3 = 0), ∀ (c24 : x6 = 0), ∀ (c37 : (I 0 16) = 0), ∀ (j38 : Nat → Nat → Int32), ∀ (K42 : Nat → Nat → Int64), ∀ (h39 : sH), ∀ (t40 : qH h39 j38 K42 R), ∀ (e41 : ltP (upI I 9 4 (1 : Int32)) L x4 x3 j38 K42), Q (.inl none, h39))
    (p9 : ∀ (c1 : ¬ (I 0 9) ≤ x7), ∀ (c43 : hs x2 x7 = true), ∀ lv, qLs lv [some (.ref (0)), some (.int (x1)), some (.int (x2)), some (.int (x3)), some (.long (x4)), none, some (.int (x6)), some (.int (x7 + (1 : Int32)))] → qW 86 N 23 lv [] h Q)
    (p10 : ∀ (c1 : ¬ (I 0 9) ≤ x7), ∀ (c43 : ¬ (hs x2 x7 = true)), ∀ (bb46 : sIn x7 16 = true), ∀ (c47 : ¬ (((I (19 + (x7).toNatClampNeg) 1) &&& x1) = 0)), ∀ lv, qLs lv [some (.ref (0)), some (.int (x1)), some (.int (x2)), some (.int (x3)), some (.long (x4)), none, some (.int (x6)), some (.int (x7 + (1 : Int32)))] → qW 86 N 23 lv [] h Q)
    (p11 : ∀ (c1 : ¬ (I 0 9) ≤ x7), ∀ (c43 : ¬ (hs x2 x7 = true)), ∀ (bb46 : sIn x7 16 = true), ∀ (c47 : ((I (19 + (x7).toNatClampNeg) 1) &&& x1) = 0), ∀ (j51 : Nat → Nat → Int32), ∀ (K55 : Nat → Nat → Int64), ∀ (h52 : sH), ∀ (t53 : qH h52 j51 K55 R), ∀ (e54 : lsP I L ((L (19 + (x7).toNatClampNeg) 0) &&& (x4 ^^^ (18446744073709551615 : Int64))) x3 j51 K55), ∀ lv, qLs lv [some (.ref (0)), some (.int (x1)), some (.int (x2)), some (.int (x3)), some (.long (x4)), none, some (.int (x6)), some (.int (x7 + (1 : Int32)))] → qW 86 N 23 lv [] h52 Q) : qW 86 (N + 1) 23 lv [] h Q := by
  refine q1_iload (show mE (mtv 86) 23 = some (.iload 7, 2, 0, 0) from rfl) (hl 7 _ rfl) ?_
  refine q_aload_n (show mE (mtv 86) 25 = some (.aload_n 0, 1, 0, 0) from rfl) (hl 0 _ rfl) ?_
  refine q_getI th (show mE (mtv 86) 26 = some (.getfield 88, 3, 8, 9) from rfl) (by decide) rfl ?_
  refine q_ic_ge (t := 86) (show mE (mtv 86) 29 = some (.if_icmp .ge 57, 3, 0, 0) from rfl) rfl (fun c1 => ?_) (fun c1 => ?_)
  · refine q_iload_n (show mE (mtv 86) 86 = some (.iload_n 3, 1, 0, 0) from rfl) (hl 3 _ rfl) ?_
    refine q_if_eq (t := 102) (show mE (mtv 86) 87 = some (.ifCond .eq 15, 3, 0, 0) from rfl) rfl (fun c2 => ?_) (fun c2 => ?_)
    · refine q_iload_n (show mE (mtv 86) 102 = some (.iload_n 3, 1, 0, 0) from rfl) (hl 3 _ rfl) ?_
      refine q_if_ne (t := 120) (show mE (mtv 86) 103 = some (.ifCond .ne 17, 3, 0, 0) from rfl) rfl (fun c3 => ?_) (fun c3 => ?_)
      · exact absurd c2 c3
      · clear c3
        refine q_iload (show mE (mtv 86) 106 = some (.iload 6, 2, 0, 0) from rfl) (hl 6 _ rfl) ?_
        refine q_if_eq (t := 120) (show mE (mtv 86) 108 = some (.ifCond .eq 12, 3, 0, 0) from rfl) rfl (fun c4 => ?_) (fun c4 => ?_)
        · refine q_aload_n (show mE (mtv 86) 120 = some (.aload_n 0, 1, 0, 0) from rfl) (hl 0 _ rfl) ?_
          refine q_getB th (show mE (mtv 86) 121 = some (.getfield 63, 3, 8, 16) from rfl) (by decide) rfl (fun z5 => ?_)
          refine q_if_ne (t := 134) (show mE (mtv 86) 124 = some (.ifCond .ne 10, 3, 0, 0) from rfl) rfl (fun c6 => ?_) (fun c6 => ?_)
          · refine q_return_ (show mE (mtv 86) 134 = some (.return_, 1, 0, 0) from rfl) ?_
            exact p1 c1 c2 c4 z5 c6
          · refine q_aload_n (show mE (mtv 86) 127 = some (.aload_n 0, 1, 0, 0) from rfl) (hl 0 _ rfl) ?_
            refine q_lload (show mE (mtv 86) 128 = some (.lload 4, 2, 0, 0) from rfl) (hl 4 _ rfl) ?_
            refine q_iload_n (show mE (mtv 86) 130 = some (.iload_n 3, 1, 0, 0) from rfl) (hl 3 _ rfl) ?_
            refine q_virtualE (show mE (mtv 86) 131 = some (.invokevirtual 573, 3, 90, 8) from rfl) (by decide) rfl rfl rfl (fun _ g => sp_90 th g) ?_
            rintro _ ⟨j7, K11, h8, rfl, t9, e10⟩
            refine qK_n ?_
            refine q_return_ (show mE (mtv 86) 134 = some (.return_, 1, 0, 0) from rfl) ?_
            exact p2 c1 c2 c4 z5 c6 j7 K11 h8 t9 e10
        · refine q_aload_n (show mE (mtv 86) 111 = some (.aload_n 0, 1, 0, 0) from rfl) (hl 0 _ rfl) ?_
          refine q_getR (m := 9) th (show mE (mtv 86) 112 = some (.getfield 19, 3, 8, 1) from rfl) (by decide) rfl rfl ?_
          refine q_lload (show mE (mtv 86) 115 = some (.lload 4, 2, 0, 0) from rfl) (hl 4 _ rfl) ?_
          refine q_virtualE (show mE (mtv 86) 117 = some (.invokevirtual 570, 3, 89, 7) from rfl) (by decide) rfl rfl rfl (fun _ g => sp_89 th g) ?_
          rintro _ ⟨j12, K16, h13, rfl, t14, e15⟩
          refine qK_n ?_
          refine q_aload_n (show mE (mtv 86) 120 = some (.aload_n 0, 1, 0, 0) from rfl) (hl 0 _ rfl) ?_
          refine q_getB t14 (show mE (mtv 86) 121 = some (.getfield 63, 3, 8, 16) from rfl) (by decide) rfl (fun z17 => ?_)
          refine q_if_ne (t := 134) (show mE (mtv 86) 124 = some (.ifCond .ne 10, 3, 0, 0) from rfl) rfl (fun c18 => ?_) (fun c18 => ?_)
          · refine q_return_ (show mE (mtv 86) 134 = some (.return_, 1, 0, 0) from rfl) ?_
            exact p3 c1 c2 c4 j12 K16 h13 t14 e15 z17 c18
          · refine q_aload_n (show mE (mtv 86) 127 = some (.aload_n 0, 1, 0, 0) from rfl) (hl 0 _ rfl) ?_
            refine q_lload (show mE (mtv 86) 128 = some (.lload 4, 2, 0, 0) from rfl) (hl 4 _ rfl) ?_
            refine q_iload_n (show mE (mtv 86) 130 = some (.iload_n 3, 1, 0, 0) from rfl) (hl 3 _ rfl) ?_
            refine q_virtualE (show mE (mtv 86) 131 = some (.invokevirtual 573, 3, 90, 8) from rfl) (by decide) rfl rfl rfl (fun _ g => sp_90 t14 g) ?_
            rintro _ ⟨j19, K23, h20, rfl, t21, e22⟩
            refine qK_n ?_
            refine q_return_ (show mE (mtv 86) 134 = some (.return_, 1, 0, 0) from rfl) ?_
            exact p4 c1 c2 c4 j12 K16 e15 z17 c18 j19 K23 h20 t21 e22
    · refine q_iload (show mE (mtv 86) 90 = some (.iload 6, 2, 0, 0) from rfl) (hl 6 _ rfl) ?_
      refine q_if_ne (t := 102) (show mE (mtv 86) 92 = some (.ifCond .ne 10, 3, 0, 0) from rfl) rfl (fun c24 => ?_) (fun c24 => ?_)
      · refine q_iload_n (show mE (mtv 86) 102 = some (.iload_n 3, 1, 0, 0) from rfl) (hl 3 _ rfl) ?_
        refine q_if_ne (t := 120) (show mE (mtv 86) 103 = some (.ifCond .ne 17, 3, 0, 0) from rfl) rfl (fun c25 => ?_) (fun c25 => ?_)
        · clear c25
          refine q_aload_n (show mE (mtv 86) 120 = some (.aload_n 0, 1, 0, 0) from rfl) (hl 0 _ rfl) ?_
          refine q_getB th (show mE (mtv 86) 121 = some (.getfield 63, 3, 8, 16) from rfl) (by decide) rfl (fun z26 => ?_)
          refine q_if_ne (t := 134) (show mE (mtv 86) 124 = some (.ifCond .ne 10, 3, 0, 0) from rfl) rfl (fun c27 => ?_) (fun c27 => ?_)
          · refine q_return_ (show mE (mtv 86) 134 = some (.return_, 1, 0, 0) from rfl) ?_
            exact p5 c1 c2 c24 z26 c27
          · refine q_aload_n (show mE (mtv 86) 127 = some (.aload_n 0, 1, 0, 0) from rfl) (hl 0 _ rfl) ?_
            refine q_lload (show mE (mtv 86) 128 = some (.lload 4, 2, 0, 0) from rfl) (hl 4 _ rfl) ?_
            refine q_iload_n (show mE (mtv 86) 130 = some (.iload_n 3, 1, 0, 0) from rfl) (hl 3 _ rfl) ?_
            refine q_virtualE (show mE (mtv 86) 131 = some (.invokevirtual 573, 3, 90, 8) from rfl) (by decide) rfl rfl rfl (fun _ g => sp_90 th g) ?_
            rintro _ ⟨j28, K32, h29, rfl, t30, e31⟩
            refine qK_n ?_
            refine q_return_ (show mE (mtv 86) 134 = some (.return_, 1, 0, 0) from rfl) ?_
            exact p6 c1 c2 c24 z26 c27 j28 K32 h29 t30 e31
        · exact absurd c25 c2
      · refine q_aload_n (show mE (mtv 86) 95 = some (.aload_n 0, 1, 0, 0) from rfl) (hl 0 _ rfl) ?_
        refine q_getR (m := 9) th (show mE (mtv 86) 96 = some (.getfield 19, 3, 8, 1) from rfl) (by decide) rfl rfl ?_
        refine q_virtualI (show mE (mtv 86) 99 = some (.invokevirtual 567, 3, 88, 7) from rfl) (by decide) rfl rfl rfl (fun _ => ?_)
        have hl33 : qLs (lv_args 0 [.ref (9)]) [some (.ref (9))] := qLs_ar 0
        refine q_aload_n (show mE (mtv 88) 0 = some (.aload_n 0, 1, 0, 0) from rfl) (hl33 0 _ rfl) ?_
        refine q_iconst (show mE (mtv 88) 1 = some (.iconst 1, 1, 0, 0) from rfl) kI_1 ?_
        refine q_putI th (show mE (mtv 88) 2 = some (.putfield 25, 3, 7, 4) from rfl) (by decide) rfl (fun h34 t35 => ?_)
        refine q_return_ (show mE (mtv 88) 5 = some (.return_, 1, 0, 0) from rfl) ?_
        refine qK_n ?_
        refine q_iload_n (show mE (mtv 86) 102 = some (.iload_n 3, 1, 0, 0) from rfl) (hl 3 _ rfl) ?_
        refine q_if_ne (t := 120) (show mE (mtv 86) 103 = some (.ifCond .ne 17, 3, 0, 0) from rfl) rfl (fun c36 => ?_) (fun c36 => ?_)
        · clear c36
          refine q_aload_n (show mE (mtv 86) 120 = some (.aload_n 0, 1, 0, 0) from rfl) (hl 0 _ rfl) ?_
          refine q_getIe t35 (show mE (mtv 86) 121 = some (.getfield 63, 3, 8, 16) from rfl) (by decide) rfl (upI_n (Or.inr (by decide))) ?_
          refine q_if_ne (t := 134) (show mE (mtv 86) 124 = some (.ifCond .ne 10, 3, 0, 0) from rfl) rfl (fun c37 => ?_) (fun c37 => ?_)
          · refine q_return_ (show mE (mtv 86) 134 = some (.return_, 1, 0, 0) from rfl) ?_
            exact p7 c1 c2 c24 h34 t35 c37
          · refine q_aload_n (show mE (mtv 86) 127 = some (.aload_n 0, 1, 0, 0) from rfl) (hl 0 _ rfl) ?_
            refine q_lload (show mE (mtv 86) 128 = some (.lload 4, 2, 0, 0) from rfl) (hl 4 _ rfl) ?_
            refine q_iload_n (show mE (mtv 86) 130 = some (.iload_n 3, 1, 0, 0) from rfl) (hl 3 _ rfl) ?_
            refine q_virtualE (show mE (mtv 86) 131 = some (.invokevirtual 573, 3, 90, 8) from rfl) (by decide) rfl rfl rfl (fun _ g => sp_90 t35 g) ?_
            rintro _ ⟨j38, K42, h39, rfl, t40, e41⟩
            refine qK_n ?_
            refine q_return_ (show mE (mtv 86) 134 = some (.return_, 1, 0, 0) from rfl) ?_
            exact p8 c1 c2 c24 c37 j38 K42 h39 t40 e41
        · exact absurd c36 c2
  · refine q_iload_n (show mE (mtv 86) 32 = some (.iload_n 2, 1, 0, 0) from rfl) (hl 2 _ rfl) ?_
    refine q_iload (show mE (mtv 86) 33 = some (.iload 7, 2, 0, 0) from rfl) (hl 7 _ rfl) ?_
    refine q_staticP (show mE (mtv 86) 35 = some (.invokestatic 197, 3, 15, 0) from rfl) (by decide) rfl rfl rfl (fun _ g => sp_15 g) ?_
    refine q_ifb_ne (t := 80) (show mE (mtv 86) 38 = some (.ifCond .ne 42, 3, 0, 0) from rfl) rfl (fun c43 => ?_) (fun c43 => ?_)
    · refine q_iinc (show mE (mtv 86) 80 = some (.iinc 7 1, 3, 0, 0) from rfl) (Nat.le_of_ble_eq_true rfl) hl (hl 7 _ rfl) kI_1 (fun lv44 (hl45 : qLs lv44 [some (.ref (0)), some (.int (x1)), some (.int (x2)), some (.int (x3)), some (.long (x4)), none, some (.int (x6)), some (.int (x7 + (1 : Int32)))]) => ?_)
      refine q_goto (t := 23) (show mE (mtv 86) 83 = some (.goto (-60), 3, 0, 0) from rfl) rfl ?_
      exact p9 c1 c43 lv44 (qLs_wk hl45 (⟨rfl, rfl, rfl, rfl, rfl, rfl, rfl, trivial⟩))
    · refine q_aload_n (show mE (mtv 86) 41 = some (.aload_n 0, 1, 0, 0) from rfl) (hl 0 _ rfl) ?_
      refine q_getR (m := 12) th (show mE (mtv 86) 42 = some (.getfield 25, 3, 8, 2) from rfl) (by decide) rfl rfl ?_
      refine q_iload (show mE (mtv 86) 45 = some (.iload 7, 2, 0, 0) from rfl) (hl 7 _ rfl) ?_
      refine q_aaload (n := 16) (t := 4) (m := 19) th (show mE (mtv 86) 47 = some (.aaload, 1, 0, 0) from rfl) (by decide) rfl (fun _ _ => rfl) (fun bb46 => ?_)
      refine q_getI th (show mE (mtv 86) 48 = some (.getfield 263, 3, 3, 1) from rfl) (qB bb46 (by decide)) rfl ?_
      refine q_iload_n (show mE (mtv 86) 51 = some (.iload_n 1, 1, 0, 0) from rfl) (hl 1 _ rfl) ?_
      refine q_staticP (show mE (mtv 86) 52 = some (.invokestatic 306, 3, 18, 0) from rfl) (by decide) rfl rfl rfl (fun _ g => sp_18 g) ?_
      refine q_ifb_eq (t := 80) (show mE (mtv 86) 55 = some (.ifCond .eq 25, 3, 0, 0) from rfl) rfl (fun c47 => ?_) (fun c47 => ?_)
      · refine q_iinc (show mE (mtv 86) 80 = some (.iinc 7 1, 3, 0, 0) from rfl) (Nat.le_of_ble_eq_true rfl) hl (hl 7 _ rfl) kI_1 (fun lv48 (hl49 : qLs lv48 [some (.ref (0)), some (.int (x1)), some (.int (x2)), some (.int (x3)), some (.long (x4)), none, some (.int (x6)), some (.int (x7 + (1 : Int32)))]) => ?_)
        refine q_goto (t := 23) (show mE (mtv 86) 83 = some (.goto (-60), 3, 0, 0) from rfl) rfl ?_
        exact p10 c1 c43 bb46 c47 lv48 (qLs_wk hl49 (⟨rfl, rfl, rfl, rfl, rfl, rfl, rfl, trivial⟩))
      · refine q_aload_n (show mE (mtv 86) 58 = some (.aload_n 0, 1, 0, 0) from rfl) (hl 0 _ rfl) ?_
        refine q_aload_n (show mE (mtv 86) 59 = some (.aload_n 0, 1, 0, 0) from rfl) (hl 0 _ rfl) ?_
        refine q_getR (m := 12) th (show mE (mtv 86) 60 = some (.getfield 25, 3, 8, 2) from rfl) (by decide) rfl rfl ?_
        refine q_iload (show mE (mtv 86) 63 = some (.iload 7, 2, 0, 0) from rfl) (hl 7 _ rfl) ?_
        refine q_aaload (n := 16) (t := 4) (m := 19) th (show mE (mtv 86) 65 = some (.aaload, 1, 0, 0) from rfl) (by decide) rfl (fun _ _ => rfl) (fun bb50 => ?_)
        refine q_getL th (show mE (mtv 86) 66 = some (.getfield 165, 3, 3, 0) from rfl) (qB bb50 (by decide)) rfl ?_
        refine q_lload (show mE (mtv 86) 69 = some (.lload 4, 2, 0, 0) from rfl) (hl 4 _ rfl) ?_
        refine q_ldc2_w (show mE (mtv 86) 71 = some (.ldc2_w 561, 3, 18446744073709551615, 0) from rfl) rfl ?_
        refine q_lxor (show mE (mtv 86) 74 = some (.lxor, 1, 0, 0) from rfl) ?_
        refine q_land (show mE (mtv 86) 75 = some (.land, 1, 0, 0) from rfl) ?_
        refine q_iload_n (show mE (mtv 86) 76 = some (.iload_n 3, 1, 0, 0) from rfl) (hl 3 _ rfl) ?_
        refine q_virtualE (show mE (mtv 86) 77 = some (.invokevirtual 563, 3, 87, 8) from rfl) (by decide) rfl rfl rfl (fun _ g => sp_87 th g) ?_
        rintro _ ⟨j51, K55, h52, rfl, t53, e54⟩
        refine qK_n ?_
        refine q_iinc (show mE (mtv 86) 80 = some (.iinc 7 1, 3, 0, 0) from rfl) (Nat.le_of_ble_eq_true rfl) hl (hl 7 _ rfl) kI_1 (fun lv56 (hl57 : qLs lv56 [some (.ref (0)), some (.int (x1)), some (.int (x2)), some (.int (x3)), some (.long (x4)), none, some (.int (x6)), some (.int (x7 + (1 : Int32)))]) => ?_)
        refine q_goto (t := 23) (show mE (mtv 86) 83 = some (.goto (-60), 3, 0, 0) from rfl) rfl ?_
        exact p11 c1 c43 bb46 c47 j51 K55 h52 t53 e54 lv56 (qLs_wk hl57 (⟨rfl, rfl, rfl, rfl, rfl, rfl, rfl, trivial⟩))
theorem lk_86 {I : Nat → Nat → Int32} {L : Nat → Nat → Int64} {R : Nat → Nat} {wd ws f x6 : Int32} {x4 : Int64} (hx6 : x6 = b2 ((I 1 4 &&& wd) = 0)) (hx4 : x4 = G_14 L ws 0 0 (I 0 9).toNatClampNeg) : ∀ N J K j lv h, qH h J K R → j ≤ (I 0 9).toNatClampNeg → stp j 0 I L J K (fun x => ∃ k, k < j ∧ ¬ hs ws (Int32.ofNat k) = true ∧ (I (19 + k) 1 &&& wd) = 0 ∧ lsB (L (19 + k) 0 &&& (x4 ^^^ 18446744073709551615)) f x) →
    qLs lv [some (.ref (0)), some (.int (wd)), some (.int (ws)), some (.int (f)), some (.long (x4)), none, some (.int (x6)), some (.int (Int32.ofNat j))] → qW 86 N 23 lv [] h (fun r => ∃ J K h1, r = (.inl none, h1) ∧ qH h1 J K R ∧ liP I L wd ws f J K)
  | 0, _, _, _, _, _, _, _, _, _ => qW_0
  | N + 1, J, K, j, lv, h, th, hj, hs0, hl => by
    have bm := nn_lt (I 0 9)
    have f09 : J 0 9 = I 0 9 := hs0.1 0 9 (by omega)
    have f16 : J 0 16 = I 0 16 := hs0.1 0 16 (by omega)
    have f11 : J 1 1 = I 1 1 := hs0.1 1 1 (by omega)
    have fin : ∀ {J' K' B}, stp j 1 I L J' K' B → j = (I 0 9).toNatClampNeg → (∀ x, B x ↔ liB I L wd ws f x) → liP I L wd ws f J' K' := fun {J' K' B} g e hb => stp_w g (by omega) (Nat.le_refl _) hb
    have en : J 0 9 ≤ Int32.ofNat j → j = (I 0 9).toNatClampNeg := fun c => by
      rw [f09] at c
      have := (le_oN (by omega)).mp c
      omega
    have x60 : x6 = 0 → ¬ (I 1 4 &&& wd) = 0 := fun e q => by
      rw [hx6, b2_t q] at e; exact absurd e (by decide)
    have x61 : ¬ x6 = 0 → (I 1 4 &&& wd) = 0 := fun e => by
      apply Decidable.of_not_not
      intro q
      exact e (by rw [hx6, b2_f q])
    subst hx4
    have nx : ∀ J' K' h', qH h' J' K' R → stp (j + 1) 0 I L J' K' (fun x => ∃ k, k < j + 1 ∧ ¬ hs ws (Int32.ofNat k) = true ∧ (I (19 + k) 1 &&& wd) = 0 ∧ lsB (L (19 + k) 0 &&& (G_14 L ws 0 0 (I 0 9).toNatClampNeg ^^^ 18446744073709551615)) f x) → j < (I 0 9).toNatClampNeg → ∀ lv', qLs lv' [some (.ref (0)), some (.int (wd)), some (.int (ws)), some (.int (f)), some (.long (G_14 L ws 0 0 (I 0 9).toNatClampNeg)), none, some (.int (x6)), some (.int (Int32.ofNat j + 1))] → qW 86 N 23 lv' [] h' (fun r => ∃ J K h1, r = (.inl none, h1) ∧ qH h1 J K R ∧ liP I L wd ws f J K) := fun J' K' h' t' s' hjl lv' hl' => by
      rw [oN_s] at hl'
      exact lk_86 hx6 rfl N J' K' (j + 1) lv' h' t' hjl s' hl'
    have go : ¬ J 0 9 ≤ Int32.ofNat j → j < (I 0 9).toNatClampNeg := fun c => by
      rw [f09] at c
      have := mt (le_oN (by omega)).mpr c
      omega
    have none' : (∀ x, ¬ (¬ hs ws (Int32.ofNat j) = true ∧ (I (19 + j) 1 &&& wd) = 0 ∧ lsB (L (19 + j) 0 &&& (G_14 L ws 0 0 (I 0 9).toNatClampNeg ^^^ 18446744073709551615)) f x)) → stp (j + 1) 0 I L J K (fun x => ∃ k, k < j + 1 ∧ ¬ hs ws (Int32.ofNat k) = true ∧ (I (19 + k) 1 &&& wd) = 0 ∧ lsB (L (19 + k) 0 &&& (G_14 L ws 0 0 (I 0 9).toNatClampNeg ^^^ 18446744073709551615)) f x) := fun hn => stp_w hs0 (by omega) (Nat.le_refl _) (fun x => ⟨fun ⟨k, q1, q2⟩ => ⟨k, by omega, q2⟩, fun ⟨k, q1, q2⟩ => by
      by_cases e : k = j
      · subst e; exact absurd q2 (hn x)
      · exact ⟨k, by omega, q2⟩⟩)
    refine qg_86_23 th hl (fun c1 c2 c4 _ c6 => ?_) (fun c1 c2 c4 _ c6 J1 K1 h1 t1 e1 => ?_) (fun c1 c2 c4 J1 K1 h1 t1 e1 _ c18 => ?_) (fun c1 c2 c4 J1 K1 e1 _ c18 J2 K2 h2 t2 e2 => ?_) (fun c1 c2 c4 _ c6 => ?_) (fun c1 c2 c4 _ c6 J1 K1 h1 t1 e1 => ?_) (fun c1 c2 c4 h1 t1 c6 => ?_) (fun c1 c2 c4 c6 J1 K1 h1 t1 e1 => ?_) (fun c1 c43 lv' hl' => ?_) (fun c1 c43 _ c47 lv' hl' => ?_) (fun c1 c43 _ c47 J1 K1 h1 t1 e1 lv' hl' => ?_)
    · refine ⟨J, K, h, rfl, th, fin (stp_w hs0 (Nat.le_refl _) (by omega) (fun _ => Iff.rfl)) (en c1) (fun x => ?_)⟩
      rw [f16] at c6
      have c5 := x60 c4
      unfold liB
      rw [en c1]
      simp only [c2, c5, c6, not_true_eq_false, false_and, and_false, or_false]
    · refine ⟨J1, K1, h1, rfl, t1, fin (stp_w (stp_c hs0 e1) (by omega) (by omega) (fun _ => Iff.rfl)) (en c1) (fun x => ?_)⟩
      rw [f16] at c6
      have c5 := x60 c4
      unfold liB
      rw [en c1, f11]
      simp only [c2, c5, c6, not_true_eq_false, false_and, and_false, true_and, false_or]
    · have g16 : J1 0 16 = I 0 16 := (e1.1 0 16 (by omega)).trans f16
      refine ⟨J1, K1, h1, rfl, t1, fin (stp_w (stp_c hs0 e1) (by omega) (by omega) (fun _ => Iff.rfl)) (en c1) (fun x => ?_)⟩
      rw [g16] at c18
      have c5 := x61 c4
      unfold liB
      rw [en c1]
      simp only [c2, c5, c18, not_true_eq_false, false_and, true_and, false_or, or_false]
    · have g16 : J1 0 16 = I 0 16 := (e1.1 0 16 (by omega)).trans f16
      have g11 : J1 1 1 = I 1 1 := (e1.1 1 1 (by omega)).trans f11
      refine ⟨J2, K2, h2, rfl, t2, fin (stp_w (stp_c (stp_c hs0 e1) e2) (by omega) (by omega) (fun _ => Iff.rfl)) (en c1) (fun x => ?_)⟩
      rw [g16] at c18
      have c5 := x61 c4
      unfold liB
      rw [en c1, g11]
      simp only [c2, c5, c18, not_true_eq_false, false_and, true_and, false_or]
      exact or_assoc
    · refine ⟨J, K, h, rfl, th, fin (stp_w hs0 (Nat.le_refl _) (by omega) (fun _ => Iff.rfl)) (en c1) (fun x => ?_)⟩
      rw [f16] at c6
      have c5 := x61 c4
      unfold liB
      rw [en c1]
      simp only [c2, c5, c6, not_true_eq_false, false_and, and_false, or_false]
    · refine ⟨J1, K1, h1, rfl, t1, fin (stp_w (stp_c hs0 e1) (by omega) (by omega) (fun _ => Iff.rfl)) (en c1) (fun x => ?_)⟩
      rw [f16] at c6
      have c5 := x61 c4
      unfold liB
      rw [en c1, f11]
      simp only [c2, c5, c6, not_true_eq_false, false_and, and_false, true_and, false_or]
    · refine ⟨_, _, h1, rfl, t1, fin (stp_w (stp_c hs0 stp_v) (by omega) (by omega) (fun _ => Iff.rfl)) (en c1) (fun x => ?_)⟩
      have c5 := x60 c4
      unfold liB
      simp only [c2, c5, not_false_eq_true, and_self, true_or, or_true]
    · refine ⟨_, _, h1, rfl, t1, fin (stp_w (stp_c (stp_c hs0 stp_v) e1) (by omega) (by omega) (fun _ => Iff.rfl)) (en c1) (fun x => ?_)⟩
      have c5 := x60 c4
      unfold liB
      simp only [c2, c5, not_false_eq_true, and_self, true_or, or_true]
    · exact nx J K h th (none' (fun x q => q.1 c43)) (go c1) lv' hl'
    · have hjl := go c1
      rw [ofN_clamp (by omega), hs0.1 (19 + j) 1 (by omega)] at c47
      exact nx J K h th (none' (fun x q => c47 q.2.1)) hjl lv' hl'
    · have hjl := go c1
      rw [ofN_clamp (by omega), hs0.1 (19 + j) 1 (by omega)] at c47
      rw [ofN_clamp (by omega), hs0.2.1 (19 + j) 0 (by omega)] at e1
      refine nx J1 K1 h1 t1 (stp_w (stp_c hs0 e1) (Nat.le_refl _) (Nat.le_refl _) (fun x => ?_)) hjl lv' hl'
      constructor
      · rintro (⟨k, q1, q2⟩ | q)
        · exact ⟨k, by omega, q2⟩
        · exact ⟨j, by omega, c43, c47, q⟩
      · rintro ⟨k, q1, q2⟩
        by_cases e : k = j
        · subst e; exact .inr q2.2.2
        · exact .inl ⟨k, by omega, q2⟩
theorem sp_86 {h : sH} {r : sR} {wd ws f : Int32} {I : Nat → Nat → Int32} {L : Nat → Nat → Int64} {R : Nat → Nat} (th : qH h I L R) (g : qGo 86 [.ref (0), .int wd, .int ws, .int f] h r) : ∃ J K h1, r = (.inl none, h1) ∧ qH h1 J K R ∧ liP I L wd ws f J K := by
  refine qg_86 (Q := fun r => ∃ J K h1, r = (.inl none, h1) ∧ qH h1 J K R ∧ liP I L wd ws f J K) th g (fun N lv hl => ?_)
  exact lk_86 rfl rfl N I L 0 lv h th (Nat.zero_le _) (stp_w stp_0 (Nat.le_refl _) (Nat.le_refl _) (fun x => ⟨False.elim, fun ⟨k, q, _⟩ => absurd q (Nat.not_lt_zero k)⟩)) hl
/-- all depths of the machine -/
noncomputable def allP (I : Nat → Nat → Int32) (v : Int64) : Prop := ∀ nc m, I 1 1 = Int32.ofNat nc → I 1 2 = Int32.ofNat m → nc ≤ 6 → m ≤ 6 → ∀ c d, d < 8 → (lb v (8 * c + d) = true ↔ c < nc ∧ d < m)
theorem sem_49b {I : Nat → Nat → Int32} {nc m : Nat} (ec : I 1 1 = Int32.ofNat nc) (em : I 1 2 = Int32.ofNat m) (bc : nc ≤ 6) (bm : m ≤ 6) : ∀ n, (∀ i y x r, i ≤ nc → (∀ c d, d < 8 → (lb y (8 * c + d) = true ↔ c < i ∧ d < m)) → F_49 I n 4 y (Int32.ofNat i) x = some r → ∀ c d, d < 8 → (lb r (8 * c + d) = true ↔ c < nc ∧ d < m)) ∧
      (∀ i j y r, i < nc → j ≤ m → (∀ c d, d < 8 → (lb y (8 * c + d) = true ↔ (c < i ∧ d < m ∨ c = i ∧ d < j))) → F_49 I n 15 y (Int32.ofNat i) (Int32.ofNat j) = some r → ∀ c d, d < 8 → (lb r (8 * c + d) = true ↔ c < nc ∧ d < m))
  | 0 => ⟨fun _ _ _ _ _ _ h => (by cases h), fun _ _ _ _ _ _ _ h => (by cases h)⟩
  | n + 1 => by
    obtain ⟨ih1, ih2⟩ := sem_49b ec em bc bm n
    refine ⟨?_, ?_⟩
    · intro i y x r hi hy h
      simp only [F_49, reduceIte] at h
      rw [ec] at h
      by_cases g : Int32.ofNat nc ≤ Int32.ofNat i
      · rw [if_pos g] at h
        cases h
        have := (oN_le (by omega) (by omega)).mp g
        rw [show nc = i by omega]
        exact hy
      · rw [if_neg g] at h
        have := mt (oN_le (by omega) (by omega)).mpr g
        refine ih2 i 0 y r (by omega) (Nat.zero_le _) (fun c d hd => ?_) h
        rw [hy c d hd]
        omega
    · intro i j y r hi hj hy h
      simp only [F_49, Nat.reduceEqDiff, reduceIte] at h
      rw [em] at h
      by_cases g : Int32.ofNat m ≤ Int32.ofNat j
      · rw [if_pos g, oN_s] at h
        have := (oN_le (by omega) (by omega)).mp g
        refine ih1 (i + 1) y _ r hi (fun c d hd => ?_) h
        rw [hy c d hd]
        omega
      · rw [if_neg g, oN_s] at h
        have := mt (oN_le (by omega) (by omega)).mpr g
        refine ih2 i (j + 1) _ r hi (by omega) (fun c d hd => ?_) h
        rw [lb_or, Bool.or_eq_true, hy c d hd, lb_bit (by omega) (by omega), decide_eq_true_eq]
        omega
theorem sp_49 {h : sH} {r : sR} {I : Nat → Nat → Int32} {L : Nat → Nat → Int64} {R : Nat → Nat} (th : qH h I L R) (g : qGo 49 [.ref (1)] h r) : ∃ v, r = (.inl (some (.long v)), h) ∧ allP I v := by
  refine qg_49 (Q := fun r => ∃ v, r = (.inl (some (.long v)), h) ∧ allP I v) g (fun N lv hl => ?_)
  refine qW_mono ?_ ((fl_49 N).1 0 0 0 lv h th hl)
  intro r ⟨n, x, e, q⟩
  exact ⟨x, q, fun nc m ec em bc bm => (sem_49b ec em bc bm n).1 0 0 0 x (Nat.zero_le _) (fun c d hd => by rw [lb_0]; exact ⟨fun z => (by cases z), fun z => absurd z.1 (Nat.not_lt_zero c)⟩) e⟩
/-- a search begins -/
noncomputable def beP (I : Nat → Nat → Int32) (L : Nat → Nat → Int64) (blk : Int64) (J : Nat → Nat → Int32) (K : Nat → Nat → Int64) : Prop := J 9 2 = 0 ∧ J 9 3 = 0 ∧ J 9 4 = 0 ∧ J 9 5 = I 1 1 ∧ J 9 6 = I 1 2 ∧ J 9 7 = I 1 3 ∧ (∀ a b, a ≠ 9 → J a b = I a b) ∧ (∀ a b, ¬ (a = 9 ∧ b = 8) → K a b = L a b) ∧ ∀ nc m, I 1 1 = Int32.ofNat nc → I 1 2 = Int32.ofNat m → nc ≤ 6 → m ≤ 6 → ∀ c d, d < 8 → (lb (K 9 8) (8 * c + d) = true ↔ (c < nc ∧ d < m) ∧ (byteL blk (Int32.ofNat c) = 0 ∨ lb blk (8 * c + d) = true))
theorem qg_84 {h : sH} {r : sR} {Q : sR → Prop} {a1 : Int64} {I : Nat → Nat → Int32} {L : Nat → Nat → Int64} {R : Nat → Nat} (th : qH h I L R) (g : qGo 84 [.ref (9), .ref (1), .long (a1)] h r)
    (p1 : ∀ (v13 : Int64), ∀ (e14 : allP (upI (upI (upI (upI (upI (upI I 9 2 (0 : Int32)) 9 3 (0 : Int32)) 9 4 (0 : Int32)) 9 5 (I 1 1)) 9 6 (I 1 2)) 9 7 (I 1 3)) v13), ∀ (h15 : sH), ∀ (t16 : qH h15 (upI (upI (upI (upI (upI (upI I 9 2 (0 : Int32)) 9 3 (0 : Int32)) 9 4 (0 : Int32)) 9 5 (I 1 1)) 9 6 (I 1 2)) 9 7 (I 1 3)) (upL L 9 8 v13) R), ∀ N lv, qLs lv [some (.ref (9)), none, some (.long (a1)), none, some (.int ((0 : Int32)))] → qW 84 N 50 lv [] h15 Q) : Q r := by
  refine qGo_w g (fun N => ?_)
  have hl0 : qLs (lv_args 0 [.ref (9), .ref (1), .long (a1)]) [some (.ref (9)), some (.ref (1)), some (.long (a1)), none, none] := qLs_ar 1
  refine q_aload_n (show mE (mtv 84) 0 = some (.aload_n 0, 1, 0, 0) from rfl) (hl0 0 _ rfl) ?_
  refine q_iconst (show mE (mtv 84) 1 = some (.iconst 0, 1, 0, 0) from rfl) kI_0 ?_
  refine q_putI th (show mE (mtv 84) 2 = some (.putfield 18, 3, 7, 2) from rfl) (by decide) rfl (fun h1 t2 => ?_)
  refine q_aload_n (show mE (mtv 84) 5 = some (.aload_n 0, 1, 0, 0) from rfl) (hl0 0 _ rfl) ?_
  refine q_iconst (show mE (mtv 84) 6 = some (.iconst 0, 1, 0, 0) from rfl) kI_0 ?_
  refine q_putI t2 (show mE (mtv 84) 7 = some (.putfield 22, 3, 7, 3) from rfl) (by decide) rfl (fun h3 t4 => ?_)
  refine q_aload_n (show mE (mtv 84) 10 = some (.aload_n 0, 1, 0, 0) from rfl) (hl0 0 _ rfl) ?_
  refine q_iconst (show mE (mtv 84) 11 = some (.iconst 0, 1, 0, 0) from rfl) kI_0 ?_
  refine q_putI t4 (show mE (mtv 84) 12 = some (.putfield 25, 3, 7, 4) from rfl) (by decide) rfl (fun h5 t6 => ?_)
  refine q_aload_n (show mE (mtv 84) 15 = some (.aload_n 0, 1, 0, 0) from rfl) (hl0 0 _ rfl) ?_
  refine q_aload_n (show mE (mtv 84) 16 = some (.aload_n 1, 1, 0, 0) from rfl) (hl0 1 _ rfl) ?_
  refine q_getIe t6 (show mE (mtv 84) 17 = some (.getfield 29, 3, 4, 1) from rfl) (by decide) rfl ((upI_n (Or.inr (by decide))).trans ((upI_n (Or.inr (by decide))).trans (upI_n (Or.inr (by decide))))) ?_
  refine q_putI t6 (show mE (mtv 84) 20 = some (.putfield 34, 3, 7, 5) from rfl) (by decide) rfl (fun h7 t8 => ?_)
  refine q_aload_n (show mE (mtv 84) 23 = some (.aload_n 0, 1, 0, 0) from rfl) (hl0 0 _ rfl) ?_
  refine q_aload_n (show mE (mtv 84) 24 = some (.aload_n 1, 1, 0, 0) from rfl) (hl0 1 _ rfl) ?_
  refine q_getIe t8 (show mE (mtv 84) 25 = some (.getfield 35, 3, 4, 2) from rfl) (by decide) rfl ((upI_n (Or.inr (by decide))).trans ((upI_n (Or.inr (by decide))).trans ((upI_n (Or.inr (by decide))).trans (upI_n (Or.inl (by decide)))))) ?_
  refine q_putI t8 (show mE (mtv 84) 28 = some (.putfield 38, 3, 7, 6) from rfl) (by decide) rfl (fun h9 t10 => ?_)
  refine q_aload_n (show mE (mtv 84) 31 = some (.aload_n 0, 1, 0, 0) from rfl) (hl0 0 _ rfl) ?_
  refine q_aload_n (show mE (mtv 84) 32 = some (.aload_n 1, 1, 0, 0) from rfl) (hl0 1 _ rfl) ?_
  refine q_getIe t10 (show mE (mtv 84) 33 = some (.getfield 39, 3, 4, 3) from rfl) (by decide) rfl ((upI_n (Or.inr (by decide))).trans ((upI_n (Or.inr (by decide))).trans ((upI_n (Or.inr (by decide))).trans ((upI_n (Or.inl (by decide))).trans (upI_n (Or.inr (by decide))))))) ?_
  refine q_putI t10 (show mE (mtv 84) 36 = some (.putfield 42, 3, 7, 7) from rfl) (by decide) rfl (fun h11 t12 => ?_)
  refine q_aload_n (show mE (mtv 84) 39 = some (.aload_n 0, 1, 0, 0) from rfl) (hl0 0 _ rfl) ?_
  refine q_aload_n (show mE (mtv 84) 40 = some (.aload_n 1, 1, 0, 0) from rfl) (hl0 1 _ rfl) ?_
  refine q_virtualE (show mE (mtv 84) 41 = some (.invokevirtual 43, 3, 49, 4) from rfl) (by decide) rfl rfl rfl (fun _ g => sp_49 t12 g) ?_
  rintro _ ⟨v13, rfl, e14⟩
  refine qK_v ?_
  refine q_putL t12 (show mE (mtv 84) 44 = some (.putfield 47, 3, 7, 8) from rfl) (by decide) rfl (fun h15 t16 => ?_)
  refine q_iconst (show mE (mtv 84) 47 = some (.iconst 0, 1, 0, 0) from rfl) kI_0 ?_
  refine q_istore (show mE (mtv 84) 48 = some (.istore 4, 2, 0, 0) from rfl) (Nat.le_of_ble_eq_true rfl) hl0 (fun lv17 (hl18 : qLs lv17 [some (.ref (9)), some (.ref (1)), some (.long (a1)), none, some (.int ((0 : Int32)))]) => ?_)
  exact p1 v13 e14 h15 t16 _ lv17 (qLs_wk hl18 (⟨rfl, rfl, rfl, trivial⟩))
theorem qg_84_50 {N : Nat} {lv : sL} {h : sH} {Q : sR → Prop} {x2 : Int64} {x4 : Int32} {I : Nat → Nat → Int32} {L : Nat → Nat → Int64} {R : Nat → Nat} (th : qH h I L R) (hl : qLs lv [some (.ref (9)), none, some (.long (x2)), none, some (.int (x4))])
    (p1 : ∀ (c1 : (I 9 5) ≤ x4), Q (.inl none, h))
    (p2 : ∀ (c1 : ¬ (I 9 5) ≤ x4), ∀ (c2 : (byteL x2 x4) = (0 : Int64)), ∀ lv, qLs lv [some (.ref (9)), none, some (.long (x2)), none, some (.int (x4 + (1 : Int32)))] → qW 84 N 50 lv [] h Q)
    (p3 : ∀ (c1 : ¬ (I 9 5) ≤ x4), ∀ (c2 : ¬ ((byteL x2 x4) = (0 : Int64))), ∀ (h5 : sH), ∀ (t6 : qH h5 I (upL L 9 8 ((L 9 8) &&& (x2 ||| (((255 : Int64) <<< ((((8 : Int32) * x4)).toInt64 &&& 63)) ^^^ (18446744073709551615 : Int64))))) R), ∀ lv, qLs lv [some (.ref (9)), none, some (.long (x2)), none, some (.int (x4 + (1 : Int32)))] → qW 84 N 50 lv [] h5 Q) : qW 84 (N + 1) 50 lv [] h Q := by
  refine q1_iload (show mE (mtv 84) 50 = some (.iload 4, 2, 0, 0) from rfl) (hl 4 _ rfl) ?_
  refine q_aload_n (show mE (mtv 84) 52 = some (.aload_n 0, 1, 0, 0) from rfl) (hl 0 _ rfl) ?_
  refine q_getI th (show mE (mtv 84) 53 = some (.getfield 34, 3, 7, 5) from rfl) (by decide) rfl ?_
  refine q_ic_ge (t := 100) (show mE (mtv 84) 56 = some (.if_icmp .ge 44, 3, 0, 0) from rfl) rfl (fun c1 => ?_) (fun c1 => ?_)
  · refine q_return_ (show mE (mtv 84) 100 = some (.return_, 1, 0, 0) from rfl) ?_
    exact p1 c1
  · refine q_lload_n (show mE (mtv 84) 59 = some (.lload_n 2, 1, 0, 0) from rfl) (hl 2 _ rfl) ?_
    refine q_iload (show mE (mtv 84) 60 = some (.iload 4, 2, 0, 0) from rfl) (hl 4 _ rfl) ?_
    refine q_staticP (show mE (mtv 84) 62 = some (.invokestatic 51, 3, 23, 0) from rfl) (by decide) rfl rfl rfl (fun _ g => sp_23 g) ?_
    refine q_lconst (show mE (mtv 84) 65 = some (.lconst 0, 1, 0, 0) from rfl) kL_0 ?_
    refine q_lcmp (show mE (mtv 84) 66 = some (.lcmp, 1, 0, 0) from rfl) ?_
    refine q_ifl_eq (t := 94) (show mE (mtv 84) 67 = some (.ifCond .eq 27, 3, 0, 0) from rfl) rfl (fun c2 => ?_) (fun c2 => ?_)
    · refine q_iinc (show mE (mtv 84) 94 = some (.iinc 4 1, 3, 0, 0) from rfl) (Nat.le_of_ble_eq_true rfl) hl (hl 4 _ rfl) kI_1 (fun lv3 (hl4 : qLs lv3 [some (.ref (9)), none, some (.long (x2)), none, some (.int (x4 + (1 : Int32)))]) => ?_)
      refine q_goto (t := 50) (show mE (mtv 84) 97 = some (.goto (-47), 3, 0, 0) from rfl) rfl ?_
      exact p2 c1 c2 lv3 (qLs_wk hl4 (⟨rfl, rfl, rfl, trivial⟩))
    · refine q_aload_n (show mE (mtv 84) 70 = some (.aload_n 0, 1, 0, 0) from rfl) (hl 0 _ rfl) ?_
      refine q_dupR (show mE (mtv 84) 71 = some (.dup, 1, 0, 0) from rfl) ?_
      refine q_getL th (show mE (mtv 84) 72 = some (.getfield 47, 3, 7, 8) from rfl) (by decide) rfl ?_
      refine q_lload_n (show mE (mtv 84) 75 = some (.lload_n 2, 1, 0, 0) from rfl) (hl 2 _ rfl) ?_
      refine q_ldc2_w (show mE (mtv 84) 76 = some (.ldc2_w 55, 3, 255, 0) from rfl) rfl ?_
      refine q_bipush (show mE (mtv 84) 79 = some (.bipush 8, 2, 0, 0) from rfl) kB_8 ?_
      refine q_iload (show mE (mtv 84) 81 = some (.iload 4, 2, 0, 0) from rfl) (hl 4 _ rfl) ?_
      refine q_imul (show mE (mtv 84) 83 = some (.imul, 1, 0, 0) from rfl) ?_
      refine q_lshl (show mE (mtv 84) 84 = some (.lshl, 1, 0, 0) from rfl) ?_
      refine q_ldc2_w (show mE (mtv 84) 85 = some (.ldc2_w 57, 3, 18446744073709551615, 0) from rfl) rfl ?_
      refine q_lxor (show mE (mtv 84) 88 = some (.lxor, 1, 0, 0) from rfl) ?_
      refine q_lor (show mE (mtv 84) 89 = some (.lor, 1, 0, 0) from rfl) ?_
      refine q_land (show mE (mtv 84) 90 = some (.land, 1, 0, 0) from rfl) ?_
      refine q_putL th (show mE (mtv 84) 91 = some (.putfield 47, 3, 7, 8) from rfl) (by decide) rfl (fun h5 t6 => ?_)
      refine q_iinc (show mE (mtv 84) 94 = some (.iinc 4 1, 3, 0, 0) from rfl) (Nat.le_of_ble_eq_true rfl) hl (hl 4 _ rfl) kI_1 (fun lv7 (hl8 : qLs lv7 [some (.ref (9)), none, some (.long (x2)), none, some (.int (x4 + (1 : Int32)))]) => ?_)
      refine q_goto (t := 50) (show mE (mtv 84) 97 = some (.goto (-47), 3, 0, 0) from rfl) rfl ?_
      exact p3 c1 c2 h5 t6 lv7 (qLs_wk hl8 (⟨rfl, rfl, rfl, trivial⟩))
theorem lb_255s {c n : Nat} (hc : c < 7) (hn : n < 64) : lb ((255 : Int64) <<< (((8 : Int32) * Int32.ofNat c).toInt64 &&& 63)) n = decide (8 * c ≤ n ∧ n < 8 * c + 8) := by
  have e := i32_8 (c := c) (by omega)
  have e2 : ((8 : Int32) * Int32.ofNat c).toNatClampNeg = 8 * c := by
    show ((8 : Int32) * Int32.ofNat c).toInt.toNat = _
    rw [e]; rfl
  rw [lb_shlX (by rw [e]; omega) (by rw [e]; omega), e2, lb_255, decide_eq_true hn, Bool.true_and, ← Bool.decide_and]
  exact decide_eq_decide.mpr (by omega)
theorem lk_84 {I : Nat → Nat → Int32} {L : Nat → Nat → Int64} {R : Nat → Nat} {blk v : Int64} {J : Nat → Nat → Int32} (hv : allP I v) (hJ : J 9 5 = I 1 1) : ∀ N K i lv h, qH h J K R → (∀ a b, ¬ (a = 9 ∧ b = 8) → K a b = L a b) → i < 2147483648 → (∀ nc m, I 1 1 = Int32.ofNat nc → I 1 2 = Int32.ofNat m → nc ≤ 6 → m ≤ 6 → i ≤ nc ∧ ∀ c d, d < 8 → (lb (K 9 8) (8 * c + d) = true ↔ (c < nc ∧ d < m) ∧ (i ≤ c ∨ byteL blk (Int32.ofNat c) = 0 ∨ lb blk (8 * c + d) = true))) →
    qLs lv [some (.ref (9)), none, some (.long (blk)), none, some (.int (Int32.ofNat i))] → qW 84 N 50 lv [] h (fun r => ∃ K h1, r = (.inl none, h1) ∧ qH h1 J K R ∧ (∀ a b, ¬ (a = 9 ∧ b = 8) → K a b = L a b) ∧ ∀ nc m, I 1 1 = Int32.ofNat nc → I 1 2 = Int32.ofNat m → nc ≤ 6 → m ≤ 6 → ∀ c d, d < 8 → (lb (K 9 8) (8 * c + d) = true ↔ (c < nc ∧ d < m) ∧ (byteL blk (Int32.ofNat c) = 0 ∨ lb blk (8 * c + d) = true)))
  | 0, _, _, _, _, _, _, _, _, _ => qW_0
  | N + 1, K, i, lv, h, th, hK, hi, hv2, hl => by
    have gi : ¬ J 9 5 ≤ Int32.ofNat i → i < 2147483647 := fun c => by
      have := mt (le_oN hi).mpr c
      have := nn_lt (J 9 5)
      omega
    refine qg_84_50 th hl (fun c1 => ⟨K, h, rfl, th, hK, fun nc m ec em bc bm c d hd => ?_⟩) (fun c1 c2 lv' hl' => ?_) (fun c1 c2 h1 t1 lv' hl' => ?_)
    · obtain ⟨a1, a2⟩ := hv2 nc m ec em bc bm
      rw [a2 c d hd]
      rw [hJ, ec] at c1
      have := (oN_le (by omega) (by omega)).mp c1
      constructor
      · rintro ⟨q1, q2 | q2⟩
        · omega
        · exact ⟨q1, q2⟩
      · rintro ⟨q1, q2⟩
        exact ⟨q1, .inr q2⟩
    · rw [oN_s] at hl'
      have := gi c1
      refine lk_84 hv hJ N K (i + 1) lv' h th hK (by omega) (fun nc m ec em bc bm => ?_) hl'
      obtain ⟨a1, a2⟩ := hv2 nc m ec em bc bm
      rw [hJ, ec] at c1
      have := mt (oN_le (by omega) (by omega)).mpr c1
      refine ⟨by omega, fun c d hd => ?_⟩
      rw [a2 c d hd]
      constructor
      · rintro ⟨q1, q2 | q2⟩
        · by_cases e : c = i
          · subst e; exact ⟨q1, .inr (.inl c2)⟩
          · exact ⟨q1, .inl (by omega)⟩
        · exact ⟨q1, .inr q2⟩
      · rintro ⟨q1, q2 | q2⟩
        · exact ⟨q1, .inl (by omega)⟩
        · exact ⟨q1, .inr q2⟩
    · rw [oN_s] at hl'
      have := gi c1
      refine lk_84 hv hJ N _ (i + 1) lv' h1 t1 (fun a b q => (upL_ne q).trans (hK a b q)) (by omega) (fun nc m ec em bc bm => ?_) hl'
      obtain ⟨a1, a2⟩ := hv2 nc m ec em bc bm
      rw [hJ, ec] at c1
      have := mt (oN_le (by omega) (by omega)).mpr c1
      refine ⟨by omega, fun c d hd => ?_⟩
      by_cases hc : c < nc
      · rw [upL_s, lb_and, lb_or, lb_nt, lb_255s (by omega) (by omega), Bool.and_eq_true, Bool.or_eq_true, a2 c d hd, decide_eq_true (show 8 * c + d < 64 by omega), Bool.true_and, Bool.not_eq_true', decide_eq_false_iff_not]
        constructor
        · rintro ⟨⟨q1, q2⟩, q3⟩
          refine ⟨q1, ?_⟩
          by_cases e : c = i
          · subst e
            exact .inr (.inr (q3.resolve_right (fun z => z (by omega))))
          · rcases q2 with q2 | q2
            · exact .inl (by omega)
            · exact .inr q2
        · rintro ⟨q1, q2⟩
          by_cases e : c = i
          · subst e
            rcases q2 with q2 | q2 | q2
            · omega
            · exact absurd q2 c2
            · exact ⟨⟨q1, .inl (Nat.le_refl _)⟩, .inl q2⟩
          · refine ⟨⟨q1, ?_⟩, .inr (by omega)⟩
            rcases q2 with q2 | q2
            · exact .inl (by omega)
            · exact .inr q2
      · rw [upL_s, lb_and]
        have e : lb (K 9 8) (8 * c + d) = false := Bool.eq_false_iff.mpr (fun q => hc ((a2 c d hd).mp q).1.1)
        rw [e, Bool.false_and]
        exact ⟨fun q => (by cases q), fun q => absurd q.1.1 hc⟩
theorem sp_84 {h : sH} {r : sR} {blk : Int64} {I : Nat → Nat → Int32} {L : Nat → Nat → Int64} {R : Nat → Nat} (th : qH h I L R) (g : qGo 84 [.ref (9), .ref (1), .long blk] h r) : ∃ J K h1, r = (.inl none, h1) ∧ qH h1 J K R ∧ beP I L blk J K := by
  refine qg_84 (Q := fun r => ∃ J K h1, r = (.inl none, h1) ∧ qH h1 J K R ∧ beP I L blk J K) th g (fun v e h1 t1 N lv hl => ?_)
  have e' : allP I v := fun nc m ec em bc bm => e nc m (by simp (disch := decide) only [upI_ne]; exact ec) (by simp (disch := decide) only [upI_ne]; exact em) bc bm
  refine qW_mono ?_ (lk_84 (I := I) (L := L) (blk := blk) e' (by simp (disch := decide) only [upI_ne, upI_s]) N _ 0 lv h1 t1 (fun a b q => upL_ne q) (by decide) (fun nc m ec em bc bm => ⟨Nat.zero_le _, fun c d hd => ?_⟩) hl)
  · intro r ⟨K, h2, q1, q2, q3, q4⟩
    refine ⟨_, K, h2, q1, q2, ?_, ?_, ?_, ?_, ?_, ?_, fun a b q => ?_, q3, q4⟩
    · simp (disch := decide) only [upI_ne, upI_s]
    · simp (disch := decide) only [upI_ne, upI_s]
    · simp (disch := decide) only [upI_ne, upI_s]
    · simp (disch := decide) only [upI_ne, upI_s]
    · simp (disch := decide) only [upI_ne, upI_s]
    · simp (disch := decide) only [upI_ne, upI_s]
    · simp (disch := omega) only [upI_ne]
  · rw [upL_s, e' nc m ec em bc bm c d hd]
    exact ⟨fun q => ⟨q, .inl (Nat.zero_le _)⟩, fun q => q.1⟩
end
section
/-! part 64: the search of the class: the first key that nothing rules out -/
/-- what a key that begins so may still have -/
noncomputable def posL (al x : Int64) (a : Int32) : Int64 := x ||| (((((al)).toUInt64 >>> ((((8 : Int32) * a)).toInt64.toUInt64 &&& Int64.toUInt64 63)).toInt64) <<< ((((8 : Int32) * a)).toInt64 &&& 63))
theorem lb_pos {al x : Int64} {c n : Nat} (hc : c < 7) (hn : n < 64) : lb (posL al x (Int32.ofNat c)) n = (lb x n || (decide (8 * c ≤ n) && lb al n)) := by
  have e := i32_8 (c := c) (by omega)
  have e2 : ((8 : Int32) * Int32.ofNat c).toNatClampNeg = 8 * c := by
    show ((8 : Int32) * Int32.ofNat c).toInt.toNat = _
    rw [e]; rfl
  unfold posL
  rw [lb_or, lb_shlX (by rw [e]; omega) (by rw [e]; omega), e2, lb_shr (by rw [e]; omega) (by rw [e]; omega), e2, decide_eq_true hn, Bool.true_and]
  by_cases g : 8 * c ≤ n
  · rw [show 8 * c + (n - 8 * c) = n by omega]
  · rw [decide_eq_false g]; rfl
noncomputable def roQ (I : Nat → Nat → Int32) (L : Nat → Nat → Int64) (a : Int32) (x : Int64) : Prop := (∃ i, i < (I 9 2).toNatClampNeg ∧ letIn (L 10 i) x) ∨ (∃ i, i < (I 9 3).toNatClampNeg ∧ letIn (posL (L 9 8) x a) (L 11 i))
noncomputable def isRO (I : Nat → Nat → Int32) (L : Nat → Nat → Int64) (a : Int32) (x : Int64) : Bool := pB (roQ I L a x)
theorem isRO_t {I : Nat → Nat → Int32} {L : Nat → Nat → Int64} {a : Int32} {x : Int64} (h : roQ I L a x) : (1 : Int32) = b2 (isRO I L a x = true) := (b2_t (pB_t h)).symm
theorem sem_95 {I : Nat → Nat → Int32} {L : Nat → Nat → Int64} {a : Int32} {x : Int64} : ∀ n, (∀ i x5 x7 r, i ≤ (I 9 2).toNatClampNeg → (∀ j, j < i → ¬ letIn (L 10 j) x) → F_95 I L n 3 a x (Int32.ofNat i) x5 x7 = some r → r = b2 (isRO I L a x = true)) ∧
      (∀ i x4 r, i ≤ (I 9 3).toNatClampNeg → (∀ j, j < (I 9 2).toNatClampNeg → ¬ letIn (L 10 j) x) → (∀ j, j < i → ¬ letIn (posL (L 9 8) x a) (L 11 j)) → F_95 I L n 61 a x x4 (posL (L 9 8) x a) (Int32.ofNat i) = some r → r = b2 (isRO I L a x = true))
  | 0 => ⟨fun _ _ _ _ _ _ h => (by cases h), fun _ _ _ _ _ _ h => (by cases h)⟩
  | n + 1 => by
    obtain ⟨ih1, ih2⟩ := sem_95 (I := I) (L := L) (a := a) (x := x) n
    have b1 := nn_lt (I 9 2)
    have b2' := nn_lt (I 9 3)
    refine ⟨?_, ?_⟩
    · intro i x5 x7 r hi hn h
      simp only [F_95, reduceIte] at h
      by_cases g : I 9 2 ≤ Int32.ofNat i
      · rw [if_pos g] at h
        have := (le_oN (by omega)).mp g
        exact ih2 0 _ r (Nat.zero_le _) (fun j hj => hn j (by omega)) (fun j hj => absurd hj (Nat.not_lt_zero j)) h
      · rw [if_neg g, ofN_clamp (by omega), oN_s] at h
        have := mt (le_oN (by omega)).mpr g
        by_cases g2 : (L 10 i &&& (x ^^^ 18446744073709551615)) = 0
        · rw [if_pos g2] at h
          cases h
          exact isRO_t (.inl ⟨i, by omega, g2⟩)
        · rw [if_neg g2] at h
          refine ih1 (i + 1) x5 x7 r (by omega) (fun j hj => ?_) h
          by_cases e : j = i
          · rw [e]; exact g2
          · exact hn j (by omega)
    · intro i x4 r hi hn hk h
      simp only [F_95, Nat.reduceEqDiff, reduceIte] at h
      by_cases g : I 9 3 ≤ Int32.ofNat i
      · rw [if_pos g] at h
        cases h
        have := (le_oN (by omega)).mp g
        refine (b2_f (fun q => ?_)).symm
        rcases pB_iff.mp q with ⟨j, q1, q2⟩ | ⟨j, q1, q2⟩
        · exact hn j q1 q2
        · exact hk j (by omega) q2
      · rw [if_neg g, ofN_clamp (by omega), oN_s] at h
        have := mt (le_oN (by omega)).mpr g
        by_cases g2 : letIn (posL (L 9 8) x a) (L 11 i)
        · rw [if_pos g2] at h
          cases h
          exact isRO_t (.inr ⟨i, by omega, g2⟩)
        · rw [if_neg g2] at h
          refine ih2 (i + 1) x4 r (by omega) hn (fun j hj => ?_) h
          by_cases e : j = i
          · rw [e]; exact g2
          · exact hk j (by omega)
theorem sp_95 {h : sH} {r : sR} {a : Int32} {x : Int64} {I : Nat → Nat → Int32} {L : Nat → Nat → Int64} {R : Nat → Nat} (th : qH h I L R) (g : qGo 95 [.ref (9), .int a, .long x] h r) : r = (.inl (some (.int (b2 (isRO I L a x = true)))), h) := by
  refine qg_95 (Q := fun r => r = _) g (fun N lv hl => ?_)
  refine qW_mono ?_ ((fl_95 N).1 a x 0 0 0 lv h th hl)
  intro r ⟨n, z, e, q⟩
  rw [q, (sem_95 n).1 0 0 0 z (Nat.zero_le _) (fun j hj => absurd hj (Nat.not_lt_zero j)) e]
/-- a key that nothing is held against -/
noncomputable def gdN (I : Nat → Nat → Int32) (L : Nat → Nat → Int64) (m nc N : Nat) : Prop := ∀ x, isCuts x (dg m nc N) nc → ¬ badV I L x
noncomputable def goodF (I : Nat → Nat → Int32) (L : Nat → Nat → Int64) (m nc c N : Nat) : Prop := nearF (I 9 7) m nc c N ∧ gdN I L m nc N
noncomputable def cnd94 (I : Nat → Nat → Int32) (L : Nat → Nat → Int64) (a b : Int32) (y : Int64) (m nc c p : Nat) : Prop := I 9 6 = Int32.ofNat m ∧ I 9 5 = Int32.ofNat nc ∧ 1 ≤ m ∧ m ≤ 6 ∧ 1 ≤ nc ∧ nc ≤ 6 ∧ a = Int32.ofNat c ∧ c ≤ nc ∧ isCuts y (dg m c p) c ∧ (0 < c → b = Int32.ofNat (p % m)) ∧ (∀ i, i < c → lb (L 9 8) (8 * i + dg m c p i) = true) ∧ (∀ n, 8 * nc ≤ n → lb (L 9 8) n = false) ∧ I 9 4 = 0
noncomputable def noneIn (I : Nat → Nat → Int32) (L : Nat → Nat → Int64) (m nc c lo k : Nat) : Prop := ∀ N, lo ≤ N → N < lo + k → ¬ goodF I L m nc c N
noncomputable def fndIn (I : Nat → Nat → Int32) (L : Nat → Nat → Int64) (m nc c lo k : Nat) (v : Int64) : Prop := ∃ N, lo ≤ N ∧ N < lo + k ∧ goodF I L m nc c N ∧ isCuts v (dg m nc N) nc ∧ ∀ N', lo ≤ N' → N' < N → ¬ goodF I L m nc c N'
noncomputable def fstV (I : Nat → Nat → Int32) (L : Nat → Nat → Int64) (a b : Int32) (y v : Int64) : Prop := ∀ m nc c p, cnd94 I L a b y m nc c p → (v = 0 ∧ noneIn I L m nc c (p * m ^ (nc - c)) (m ^ (nc - c))) ∨ (¬ v = 0 ∧ fndIn I L m nc c (p * m ^ (nc - c)) (m ^ (nc - c)) v)
noncomputable def inv94 (I : Nat → Nat → Int32) (L : Nat → Nat → Int64) (a b : Int32) (y : Int64) (d : Int32) : Prop := ∀ m nc c p, cnd94 I L a b y m nc c p → ∃ dn, d = Int32.ofNat dn ∧ dn ≤ m ∧ noneIn I L m nc c (p * m ^ (nc - c)) (dn * m ^ (nc - c - 1))
theorem isCuts_ex {f : Nat → Nat} (hf : ∀ c, f c < 8) : ∀ n, n ≤ 7 → ∃ x, isCuts x f n
  | 0, _ => ⟨0, isCuts_0⟩
  | n + 1, hn => by
    obtain ⟨x, hx⟩ := isCuts_ex hf n (by omega)
    refine ⟨x ||| bitL (Int32.ofNat n) (Int32.ofNat (f n)), fun c e he => ?_⟩
    have := hf n
    rw [lb_or, hx c e he, lb_bit (by omega) (by omega), ← Bool.decide_or]
    refine decide_eq_decide.mpr ?_
    constructor
    · rintro (q | q)
      · exact ⟨by omega, q.2⟩
      · have : c = n := by omega
        subst this
        exact ⟨by omega, by omega⟩
    · rintro ⟨q1, q2⟩
      by_cases e2 : c = n
      · subst e2
        exact .inr (by omega)
      · exact .inl ⟨by omega, q2⟩
theorem isCuts_cg {x : Int64} {f g : Nat → Nat} {n : Nat} (h : isCuts x f n) (e : ∀ c, c < n → f c = g c) : isCuts x g n := fun c d hd => by
  rw [h c d hd]
  refine decide_eq_decide.mpr ⟨fun q => ⟨q.1, (e c q.1) ▸ q.2⟩, fun q => ⟨q.1, (e c q.1).symm ▸ q.2⟩⟩
theorem isCuts_at {x : Int64} {f : Nat → Nat} {n c : Nat} (h : isCuts x f n) (hc : c < n) (hf : f c < 8) : lb x (8 * c + f c) = true := by
  rw [h c (f c) hf]
  exact decide_eq_true ⟨hc, rfl⟩
theorem dg_p {m nc c p N i : Nat} (hm : 0 < m) (hc : c ≤ nc) (h1 : p * m ^ (nc - c) ≤ N) (h2 : N < p * m ^ (nc - c) + m ^ (nc - c)) (hi : i < c) : dg m nc N i = dg m c p i := by
  rw [dg_hi hm h1 h2 (by omega), show nc - 1 - i - (nc - c) = c - 1 - i by omega]; rfl
/-- bits of a key -/
theorem isCuts_bit {x : Int64} {f : Nat → Nat} {n k : Nat} (h : isCuts x f n) (hb : lb x k = true) : k / 8 < n ∧ f (k / 8) = k % 8 := by
  have e : k = 8 * (k / 8) + k % 8 := by omega
  rw [e, h _ _ (Nat.mod_lt _ (by decide)), decide_eq_true_eq] at hb
  have e1 : (8 * (k / 8) + k % 8) / 8 = k / 8 := by omega
  exact hb
theorem noRO {I : Nat → Nat → Int32} {L : Nat → Nat → Int64} {a b : Int32} {y : Int64} {m nc c p : Nat} (hc : cnd94 I L a b y m nc c p) (hr : roQ I L a y) : noneIn I L m nc c (p * m ^ (nc - c)) (m ^ (nc - c)) := by
  obtain ⟨em, ec, m1, m6, n1, n6, ea, cn, hy, hb, hal, hbd, hv⟩ := hc
  intro N h1 h2 ⟨_, h3⟩
  have hm : 0 < m := by omega
  obtain ⟨x, hx⟩ := isCuts_ex (f := dg m nc N) (fun c => Nat.lt_of_lt_of_le (dg_lt hm) (by omega)) nc (by omega)
  refine h3 x hx ?_
  have hyx : letIn y x := by
    rw [letIn_b]
    intro n hn q
    obtain ⟨q1, q2⟩ := isCuts_bit hy q
    have e : n = 8 * (n / 8) + n % 8 := by omega
    rw [e, hx _ _ (Nat.mod_lt _ (by decide)), decide_eq_true_eq]
    exact ⟨by omega, by rw [dg_p hm cn h1 h2 q1]; exact q2⟩
  by_cases g : letIn x (L 9 8)
  · rcases hr with ⟨i, i1, i2⟩ | ⟨i, i1, i2⟩
    · exact .inr (.inl ⟨i, i1, letIn_t i2 hyx⟩)
    · refine .inr (.inr (.inl ⟨i, i1, letIn_t ?_ i2⟩))
      rw [letIn_b]
      intro n hn q
      rw [ea, lb_pos (by omega) hn]
      by_cases g2 : 8 * c ≤ n
      · rw [decide_eq_true g2, letIn_b.mp g n hn q, Bool.true_and, Bool.or_true]
      · obtain ⟨q1, q2⟩ := isCuts_bit hx q
        have e : n = 8 * (n / 8) + n % 8 := by omega
        have : lb y n = true := by
          rw [e, hy _ _ (Nat.mod_lt _ (by decide)), decide_eq_true_eq]
          exact ⟨by omega, by rw [← dg_p hm cn h1 h2 (by omega)]; exact q2⟩
        rw [this, Bool.true_or]
  · exact .inr (.inr (.inr g))
theorem goodF_blk {I : Nat → Nat → Int32} {L : Nat → Nat → Int64} {m nc j c p e N : Nat} (hm : 0 < m) (he : e < m) (hn : c + j + 1 = nc) (h1 : (p * m + e) * m ^ j ≤ N) (h2 : N < (p * m + e) * m ^ j + m ^ j) : goodF I L m nc c N ↔ (c = 0 ∨ lA (I 9 7) e (p % m) = true) ∧ goodF I L m nc (c + 1) N := by
  unfold goodF
  rw [nearF_blk hm he hn h1 h2]
  exact and_assoc
theorem cnd94_lt {I : Nat → Nat → Int32} {L : Nat → Nat → Int64} {a b : Int32} {y : Int64} {m nc c p : Nat} (h : cnd94 I L a b y m nc c p) (ca : a < I 9 5) : c < nc := by
  obtain ⟨em, ec, m1, m6, n1, n6, ea, cn, -⟩ := h
  rw [ea, ec] at ca
  exact (oN_lt (by omega) (by omega)).mp ca
theorem inv94_s {I : Nat → Nat → Int32} {L : Nat → Nat → Int64} {a b : Int32} {y : Int64} {d : Int32} (ca : a < I 9 5) (hv : inv94 I L a b y d) (hd : ¬ I 9 6 ≤ d)
    (hw : ∀ m nc c p dn, cnd94 I L a b y m nc c p → c < nc → d = Int32.ofNat dn → dn < m → noneIn I L m nc c ((p * m + dn) * m ^ (nc - c - 1)) (m ^ (nc - c - 1))) : inv94 I L a b y (d + 1) := by
  intro m nc c p hc
  obtain ⟨dn, e1, e2, e3⟩ := hv m nc c p hc
  have hl := cnd94_lt hc ca
  have hdn : dn < m := by
    obtain ⟨em, ec, m1, m6, -⟩ := hc
    rw [em, e1] at hd
    have := mt (oN_le (by omega) (by omega)).mpr hd
    omega
  refine ⟨dn + 1, by rw [e1, oN_s], hdn, fun N h1 h2 => ?_⟩
  have hb := blk_s (m := m) (j := nc - c - 1) (p := p) dn
  rw [show nc - c - 1 + 1 = nc - c by omega] at hb
  rw [Nat.succ_mul] at h2
  by_cases g : N < p * m ^ (nc - c) + dn * m ^ (nc - c - 1)
  · exact e3 N h1 g
  · exact hw m nc c p dn hc hl e1 hdn N (by omega) (by omega)
/-- a depth that is not allowed -/
theorem noAl {I : Nat → Nat → Int32} {L : Nat → Nat → Int64} {a b d : Int32} {y : Int64} (h0 : (L 9 8 &&& bitL a d) = 0) {m nc c p dn : Nat} (hc : cnd94 I L a b y m nc c p) (hl : c < nc) (e : d = Int32.ofNat dn) (hd : dn < m) : noneIn I L m nc c ((p * m + dn) * m ^ (nc - c - 1)) (m ^ (nc - c - 1)) := by
  obtain ⟨em, ec, m1, m6, n1, n6, ea, cn, hy, hb, hal, hbd, hv⟩ := hc
  intro N h1 h2 ⟨_, h3⟩
  have hm : 0 < m := by omega
  obtain ⟨x, hx⟩ := isCuts_ex (f := dg m nc N) (fun c => Nat.lt_of_lt_of_le (dg_lt hm) (by omega)) nc (by omega)
  refine h3 x hx (.inr (.inr (.inr (fun q => ?_))))
  have hl' : dg m nc N c = dn := by rw [dg_last hm h1 h2 (by omega), md_e hd]
  have h5 := isCuts_at hx hl (by rw [hl']; omega)
  rw [hl'] at h5
  have h6 := letIn_b.mp q _ (by omega) h5
  have := congrArg (fun z => lb z (8 * c + dn)) h0
  simp only [ea, e] at this
  rw [lb_and, h6, lb_bit (by omega) (by omega), lb_0, decide_eq_true rfl] at this
  cases this
/-- what the next chamber says of its block -/
theorem fstV_s {I : Nat → Nat → Int32} {L : Nat → Nat → Int64} {a b d : Int32} {y v : Int64} (h : fstV I L (a + 1) d (y ||| bitL a d) v) (h0 : ¬ (L 9 8 &&& bitL a d) = 0) {m nc c p dn : Nat} (hc : cnd94 I L a b y m nc c p) (hl : c < nc) (e : d = Int32.ofNat dn) (hd : dn < m) : (v = 0 ∧ noneIn I L m nc (c + 1) ((p * m + dn) * m ^ (nc - c - 1)) (m ^ (nc - c - 1))) ∨ (¬ v = 0 ∧ fndIn I L m nc (c + 1) ((p * m + dn) * m ^ (nc - c - 1)) (m ^ (nc - c - 1)) v) := by
  obtain ⟨em, ec, m1, m6, n1, n6, ea, cn, hy, hb, hal, hbd, hv⟩ := hc
  subst ea e
  refine h m nc (c + 1) (p * m + dn) ⟨em, ec, m1, m6, n1, n6, oN_s c, hl, isCuts_up (by omega) hd m6 hy, fun _ => by rw [md_e hd], fun i hi => ?_, hbd, hv⟩
  by_cases e2 : i = c
  · subst e2
    rw [dg_e hd]
    cases g : lb (L 9 8) (8 * i + dn) with
    | true => rfl
    | false =>
      refine absurd (lb_ext (fun n hn => ?_)) h0
      rw [lb_and, lb_0, lb_bit (by omega) (by omega)]
      by_cases e3 : n = 8 * i + dn
      · rw [e3, g]; rfl
      · rw [decide_eq_false e3, Bool.and_false]
  · rw [dg_s hd (by omega)]
    exact hal i (by omega)
theorem near94 {I : Nat → Nat → Int32} {L : Nat → Nat → Int64} {a b d : Int32} {y : Int64} {m nc c p dn : Nat} (hc : cnd94 I L a b y m nc c p) (e : d = Int32.ofNat dn) (h : a = 0 ∨ ¬ I 9 7 < (if 0 ≤ d - b then d - b else 0 - (d - b))) : c = 0 ∨ lA (I 9 7) dn (p % m) = true := by
  obtain ⟨em, ec, m1, m6, n1, n6, ea, cn, hy, hb, -⟩ := hc
  by_cases g : c = 0
  · exact .inl g
  · rcases h with h | h
    · rw [ea] at h
      exact .inl ((oN_inj (b := 0) (by omega) (by decide)).mp h)
    · rw [hb (by omega), e] at h
      exact .inr (decide_eq_true h)
theorem qg_94 {h : sH} {r : sR} {Q : sR → Prop} {a0 : Int32} {a1 : Int32} {a2 : Int64} {I : Nat → Nat → Int32} {L : Nat → Nat → Int64} {R : Nat → Nat} (th : qH h I L R) (g : qGo 94 [.ref (9), .int (a0), .int (a1), .long (a2)] h r)
    (p1 : ∀ (c1 : ¬ (isRO I L a0 a2 = true)), ∀ (c2 : a0 < (I 9 5)), ∀ N lv, qLs lv [some (.ref (9)), some (.int (a0)), some (.int (a1)), some (.long (a2)), none, some (.int ((0 : Int32))), none, none, none] → qW 94 N 24 lv [] h Q)
    (p2 : ∀ (c1 : ¬ (isRO I L a0 a2 = true)), ∀ (c2 : ¬ a0 < (I 9 5)), Q (.inl (some (.long (a2))), h))
    (p3 : ∀ (c1 : isRO I L a0 a2 = true), Q (.inl (some (.long ((0 : Int64)))), h)) : Q r := by
  refine qGo_w g (fun N => ?_)
  have hl0 : qLs (lv_args 0 [.ref (9), .int (a0), .int (a1), .long (a2)]) [some (.ref (9)), some (.int (a0)), some (.int (a1)), some (.long (a2)), none, none, none, none, none] := qLs_ar 4
  refine q_aload_n (show mE (mtv 94) 0 = some (.aload_n 0, 1, 0, 0) from rfl) (hl0 0 _ rfl) ?_
  refine q_iload_n (show mE (mtv 94) 1 = some (.iload_n 1, 1, 0, 0) from rfl) (hl0 1 _ rfl) ?_
  refine q_lload_n (show mE (mtv 94) 2 = some (.lload_n 3, 1, 0, 0) from rfl) (hl0 3 _ rfl) ?_
  refine q_virtualP (show mE (mtv 94) 3 = some (.invokevirtual 63, 3, 95, 7) from rfl) (by decide) rfl rfl rfl (fun _ g => sp_95 th g) ?_
  refine q_ifb_eq (t := 11) (show mE (mtv 94) 6 = some (.ifCond .eq 5, 3, 0, 0) from rfl) rfl (fun c1 => ?_) (fun c1 => ?_)
  · refine q_iload_n (show mE (mtv 94) 11 = some (.iload_n 1, 1, 0, 0) from rfl) (hl0 1 _ rfl) ?_
    refine q_aload_n (show mE (mtv 94) 12 = some (.aload_n 0, 1, 0, 0) from rfl) (hl0 0 _ rfl) ?_
    refine q_getI th (show mE (mtv 94) 13 = some (.getfield 34, 3, 7, 5) from rfl) (by decide) rfl ?_
    refine q_ic_lt (t := 21) (show mE (mtv 94) 16 = some (.if_icmp .lt 5, 3, 0, 0) from rfl) rfl (fun c2 => ?_) (fun c2 => ?_)
    · refine q_iconst (show mE (mtv 94) 21 = some (.iconst 0, 1, 0, 0) from rfl) kI_0 ?_
      refine q_istore (show mE (mtv 94) 22 = some (.istore 5, 2, 0, 0) from rfl) (Nat.le_of_ble_eq_true rfl) hl0 (fun lv3 (hl4 : qLs lv3 [some (.ref (9)), some (.int (a0)), some (.int (a1)), some (.long (a2)), none, some (.int ((0 : Int32))), none, none, none]) => ?_)
      exact p1 c1 c2 _ lv3 (qLs_wk hl4 (⟨rfl, rfl, rfl, rfl, rfl, trivial⟩))
    · refine q_lload_n (show mE (mtv 94) 19 = some (.lload_n 3, 1, 0, 0) from rfl) (hl0 3 _ rfl) ?_
      refine q_lreturn (show mE (mtv 94) 20 = some (.lreturn, 1, 0, 0) from rfl) ?_
      exact p2 c1 c2
  · refine q_lconst (show mE (mtv 94) 9 = some (.lconst 0, 1, 0, 0) from rfl) kL_0 ?_
    refine q_lreturn (show mE (mtv 94) 10 = some (.lreturn, 1, 0, 0) from rfl) ?_
    exact p3 c1
theorem qg_94_24 {N : Nat} {lv : sL} {h : sH} {Q : sR → Prop} {x1 : Int32} {x2 : Int32} {x3 : Int64} {x5 : Int32} {I : Nat → Nat → Int32} {L : Nat → Nat → Int64} {R : Nat → Nat} (th : qH h I L R) {PP : Int32 → Int64 → Int64 → Prop} (ih : ∀ {b : Int32} {y : Int64} {r : sR}, qGo 94 [.ref (9), .int (x1 + (1 : Int32)), .int b, .long y] h r → ∃ v, r = (.inl (some (.long v)), h) ∧ PP b y v) (hl : qLs lv [some (.ref (9)), some (.int (x1)), some (.int (x2)), some (.long (x3)), none, some (.int (x5)), none, none, none])
    (p1 : ∀ (c1 : (I 9 6) ≤ x5), Q (.inl (some (.long ((0 : Int64)))), h))
    (p2 : ∀ (c1 : ¬ (I 9 6) ≤ x5), ∀ (c2 : x1 = 0), ∀ (c5 : ((L 9 8) &&& (bitL x1 x5)) = (0 : Int64)), ∀ lv, qLs lv [some (.ref (9)), some (.int (x1)), some (.int (x2)), some (.long (x3)), none, some (.int (x5 + (1 : Int32))), none, none, none] → qW 94 N 24 lv [] h Q)
    (p3 : ∀ (c1 : ¬ (I 9 6) ≤ x5), ∀ (c2 : x1 = 0), ∀ (c5 : ¬ (((L 9 8) &&& (bitL x1 x5)) = (0 : Int64))), ∀ (v8 : Int64), ∀ (e9 : PP x5 (x3 ||| (bitL x1 x5)) v8), ∀ (c12 : v8 = (0 : Int64)), ∀ lv, qLs lv [some (.ref (9)), some (.int (x1)), some (.int (x2)), some (.long (x3)), none, some (.int (x5 + (1 : Int32))), none, none, none] → qW 94 N 24 lv [] h Q)
    (p4 : ∀ (c1 : ¬ (I 9 6) ≤ x5), ∀ (c2 : x1 = 0), ∀ (c5 : ¬ (((L 9 8) &&& (bitL x1 x5)) = (0 : Int64))), ∀ (v8 : Int64), ∀ (e9 : PP x5 (x3 ||| (bitL x1 x5)) v8), ∀ (c12 : ¬ (v8 = (0 : Int64))), Q (.inl (some (.long (v8))), h))
    (p5 : ∀ (c1 : ¬ (I 9 6) ≤ x5), ∀ (c2 : ¬ x1 = 0), ∀ (c15 : (I 9 7) < (if 0 ≤ x5 - x2 then x5 - x2 else 0 - (x5 - x2))), ∀ lv, qLs lv [some (.ref (9)), some (.int (x1)), some (.int (x2)), some (.long (x3)), none, some (.int (x5 + (1 : Int32))), none, none, none] → qW 94 N 24 lv [] h Q)
    (p6 : ∀ (c1 : ¬ (I 9 6) ≤ x5), ∀ (c2 : ¬ x1 = 0), ∀ (c15 : ¬ (I 9 7) < (if 0 ≤ x5 - x2 then x5 - x2 else 0 - (x5 - x2))), ∀ (c22 : ((L 9 8) &&& (bitL x1 x5)) = (0 : Int64)), ∀ lv, qLs lv [some (.ref (9)), some (.int (x1)), some (.int (x2)), some (.long (x3)), none, some (.int (x5 + (1 : Int32))), none, none, none] → qW 94 N 24 lv [] h Q)
    (p7 : ∀ (c1 : ¬ (I 9 6) ≤ x5), ∀ (c2 : ¬ x1 = 0), ∀ (c15 : ¬ (I 9 7) < (if 0 ≤ x5 - x2 then x5 - x2 else 0 - (x5 - x2))), ∀ (c22 : ¬ (((L 9 8) &&& (bitL x1 x5)) = (0 : Int64))), ∀ (v25 : Int64), ∀ (e26 : PP x5 (x3 ||| (bitL x1 x5)) v25), ∀ (c29 : v25 = (0 : Int64)), ∀ lv, qLs lv [some (.ref (9)), some (.int (x1)), some (.int (x2)), some (.long (x3)), none, some (.int (x5 + (1 : Int32))), none, none, none] → qW 94 N 24 lv [] h Q)
    (p8 : ∀ (c1 : ¬ (I 9 6) ≤ x5), ∀ (c2 : ¬ x1 = 0), ∀ (c15 : ¬ (I 9 7) < (if 0 ≤ x5 - x2 then x5 - x2 else 0 - (x5 - x2))), ∀ (c22 : ¬ (((L 9 8) &&& (bitL x1 x5)) = (0 : Int64))), ∀ (v25 : Int64), ∀ (e26 : PP x5 (x3 ||| (bitL x1 x5)) v25), ∀ (c29 : ¬ (v25 = (0 : Int64))), Q (.inl (some (.long (v25))), h)) : qW 94 (N + 1) 24 lv [] h Q := by
  refine q1_iload (show mE (mtv 94) 24 = some (.iload 5, 2, 0, 0) from rfl) (hl 5 _ rfl) ?_
  refine q_aload_n (show mE (mtv 94) 26 = some (.aload_n 0, 1, 0, 0) from rfl) (hl 0 _ rfl) ?_
  refine q_getI th (show mE (mtv 94) 27 = some (.getfield 38, 3, 7, 6) from rfl) (by decide) rfl ?_
  refine q_ic_ge (t := 114) (show mE (mtv 94) 30 = some (.if_icmp .ge 84, 3, 0, 0) from rfl) rfl (fun c1 => ?_) (fun c1 => ?_)
  · refine q_lconst (show mE (mtv 94) 114 = some (.lconst 0, 1, 0, 0) from rfl) kL_0 ?_
    refine q_lreturn (show mE (mtv 94) 115 = some (.lreturn, 1, 0, 0) from rfl) ?_
    exact p1 c1
  · refine q_iload_n (show mE (mtv 94) 33 = some (.iload_n 1, 1, 0, 0) from rfl) (hl 1 _ rfl) ?_
    refine q_if_eq (t := 51) (show mE (mtv 94) 34 = some (.ifCond .eq 17, 3, 0, 0) from rfl) rfl (fun c2 => ?_) (fun c2 => ?_)
    · refine q_iconst (show mE (mtv 94) 51 = some (.iconst 1, 1, 0, 0) from rfl) kI_1 ?_
      refine q_goto (t := 56) (show mE (mtv 94) 52 = some (.goto 4, 3, 0, 0) from rfl) rfl ?_
      refine q_istore (show mE (mtv 94) 56 = some (.istore 6, 2, 0, 0) from rfl) (Nat.le_of_ble_eq_true rfl) hl (fun lv3 (hl4 : qLs lv3 [some (.ref (9)), some (.int (x1)), some (.int (x2)), some (.long (x3)), none, some (.int (x5)), some (.int ((1 : Int32))), none, none]) => ?_)
      refine q_iload (show mE (mtv 94) 58 = some (.iload 6, 2, 0, 0) from rfl) (hl4 6 _ rfl) ?_
      refine q_iff (t := 108) (show mE (mtv 94) 60 = some (.ifCond .eq 48, 3, 0, 0) from rfl) (by decide) rfl ?_
      refine q_aload_n (show mE (mtv 94) 63 = some (.aload_n 0, 1, 0, 0) from rfl) (hl4 0 _ rfl) ?_
      refine q_getL th (show mE (mtv 94) 64 = some (.getfield 47, 3, 7, 8) from rfl) (by decide) rfl ?_
      refine q_iload_n (show mE (mtv 94) 67 = some (.iload_n 1, 1, 0, 0) from rfl) (hl4 1 _ rfl) ?_
      refine q_iload (show mE (mtv 94) 68 = some (.iload 5, 2, 0, 0) from rfl) (hl4 5 _ rfl) ?_
      refine q_staticP (show mE (mtv 94) 70 = some (.invokestatic 73, 3, 35, 0) from rfl) (by decide) rfl rfl rfl (fun _ g => sp_35 g) ?_
      refine q_land (show mE (mtv 94) 73 = some (.land, 1, 0, 0) from rfl) ?_
      refine q_lconst (show mE (mtv 94) 74 = some (.lconst 0, 1, 0, 0) from rfl) kL_0 ?_
      refine q_lcmp (show mE (mtv 94) 75 = some (.lcmp, 1, 0, 0) from rfl) ?_
      refine q_ifl_eq (t := 108) (show mE (mtv 94) 76 = some (.ifCond .eq 32, 3, 0, 0) from rfl) rfl (fun c5 => ?_) (fun c5 => ?_)
      · refine q_iinc (show mE (mtv 94) 108 = some (.iinc 5 1, 3, 0, 0) from rfl) (Nat.le_of_ble_eq_true rfl) hl4 (hl4 5 _ rfl) kI_1 (fun lv6 (hl7 : qLs lv6 [some (.ref (9)), some (.int (x1)), some (.int (x2)), some (.long (x3)), none, some (.int (x5 + (1 : Int32))), some (.int ((1 : Int32))), none, none]) => ?_)
        refine q_goto (t := 24) (show mE (mtv 94) 111 = some (.goto (-87), 3, 0, 0) from rfl) rfl ?_
        exact p2 c1 c2 c5 lv6 (qLs_wk hl7 (⟨rfl, rfl, rfl, rfl, rfl, trivial⟩))
      · refine q_aload_n (show mE (mtv 94) 79 = some (.aload_n 0, 1, 0, 0) from rfl) (hl4 0 _ rfl) ?_
        refine q_iload_n (show mE (mtv 94) 80 = some (.iload_n 1, 1, 0, 0) from rfl) (hl4 1 _ rfl) ?_
        refine q_iconst (show mE (mtv 94) 81 = some (.iconst 1, 1, 0, 0) from rfl) kI_1 ?_
        refine q_iadd (show mE (mtv 94) 82 = some (.iadd, 1, 0, 0) from rfl) ?_
        refine q_iload (show mE (mtv 94) 83 = some (.iload 5, 2, 0, 0) from rfl) (hl4 5 _ rfl) ?_
        refine q_lload_n (show mE (mtv 94) 85 = some (.lload_n 3, 1, 0, 0) from rfl) (hl4 3 _ rfl) ?_
        refine q_iload_n (show mE (mtv 94) 86 = some (.iload_n 1, 1, 0, 0) from rfl) (hl4 1 _ rfl) ?_
        refine q_iload (show mE (mtv 94) 87 = some (.iload 5, 2, 0, 0) from rfl) (hl4 5 _ rfl) ?_
        refine q_staticP (show mE (mtv 94) 89 = some (.invokestatic 73, 3, 35, 0) from rfl) (by decide) rfl rfl rfl (fun _ g => sp_35 g) ?_
        refine q_lor (show mE (mtv 94) 92 = some (.lor, 1, 0, 0) from rfl) ?_
        refine q_virtualE (show mE (mtv 94) 93 = some (.invokevirtual 59, 3, 94, 7) from rfl) (by decide) rfl rfl rfl (fun _ g => ih g) ?_
        rintro _ ⟨v8, rfl, e9⟩
        refine qK_v ?_
        refine q_lstore (show mE (mtv 94) 96 = some (.lstore 7, 2, 0, 0) from rfl) (Nat.le_of_ble_eq_true rfl) hl4 (fun lv10 (hl11 : qLs lv10 [some (.ref (9)), some (.int (x1)), some (.int (x2)), some (.long (x3)), none, some (.int (x5)), some (.int ((1 : Int32))), some (.long (v8)), none]) => ?_)
        refine q_lload (show mE (mtv 94) 98 = some (.lload 7, 2, 0, 0) from rfl) (hl11 7 _ rfl) ?_
        refine q_lconst (show mE (mtv 94) 100 = some (.lconst 0, 1, 0, 0) from rfl) kL_0 ?_
        refine q_lcmp (show mE (mtv 94) 101 = some (.lcmp, 1, 0, 0) from rfl) ?_
        refine q_ifl_eq (t := 108) (show mE (mtv 94) 102 = some (.ifCond .eq 6, 3, 0, 0) from rfl) rfl (fun c12 => ?_) (fun c12 => ?_)
        · refine q_iinc (show mE (mtv 94) 108 = some (.iinc 5 1, 3, 0, 0) from rfl) (Nat.le_of_ble_eq_true rfl) hl11 (hl11 5 _ rfl) kI_1 (fun lv13 (hl14 : qLs lv13 [some (.ref (9)), some (.int (x1)), some (.int (x2)), some (.long (x3)), none, some (.int (x5 + (1 : Int32))), some (.int ((1 : Int32))), some (.long (v8)), none]) => ?_)
          refine q_goto (t := 24) (show mE (mtv 94) 111 = some (.goto (-87), 3, 0, 0) from rfl) rfl ?_
          exact p3 c1 c2 c5 v8 e9 c12 lv13 (qLs_wk hl14 (⟨rfl, rfl, rfl, rfl, rfl, trivial⟩))
        · refine q_lload (show mE (mtv 94) 105 = some (.lload 7, 2, 0, 0) from rfl) (hl11 7 _ rfl) ?_
          refine q_lreturn (show mE (mtv 94) 107 = some (.lreturn, 1, 0, 0) from rfl) ?_
          exact p4 c1 c2 c5 v8 e9 c12
    · refine q_iload (show mE (mtv 94) 37 = some (.iload 5, 2, 0, 0) from rfl) (hl 5 _ rfl) ?_
      refine q_iload_n (show mE (mtv 94) 39 = some (.iload_n 2, 1, 0, 0) from rfl) (hl 2 _ rfl) ?_
      refine q_isub (show mE (mtv 94) 40 = some (.isub, 1, 0, 0) from rfl) ?_
      refine q_abs (show mE (mtv 94) 41 = some (.invokestatic 67, 3, 1001, 0) from rfl) ?_
      refine q_aload_n (show mE (mtv 94) 44 = some (.aload_n 0, 1, 0, 0) from rfl) (hl 0 _ rfl) ?_
      refine q_getI th (show mE (mtv 94) 45 = some (.getfield 42, 3, 7, 7) from rfl) (by decide) rfl ?_
      refine q_ic_gt (t := 55) (show mE (mtv 94) 48 = some (.if_icmp .gt 7, 3, 0, 0) from rfl) rfl (fun c15 => ?_) (fun c15 => ?_)
      · refine q_iconst (show mE (mtv 94) 55 = some (.iconst 0, 1, 0, 0) from rfl) kI_0 ?_
        refine q_istore (show mE (mtv 94) 56 = some (.istore 6, 2, 0, 0) from rfl) (Nat.le_of_ble_eq_true rfl) hl (fun lv16 (hl17 : qLs lv16 [some (.ref (9)), some (.int (x1)), some (.int (x2)), some (.long (x3)), none, some (.int (x5)), some (.int ((0 : Int32))), none, none]) => ?_)
        refine q_iload (show mE (mtv 94) 58 = some (.iload 6, 2, 0, 0) from rfl) (hl17 6 _ rfl) ?_
        refine q_ift (t := 108) (show mE (mtv 94) 60 = some (.ifCond .eq 48, 3, 0, 0) from rfl) (by decide) rfl ?_
        refine q_iinc (show mE (mtv 94) 108 = some (.iinc 5 1, 3, 0, 0) from rfl) (Nat.le_of_ble_eq_true rfl) hl17 (hl17 5 _ rfl) kI_1 (fun lv18 (hl19 : qLs lv18 [some (.ref (9)), some (.int (x1)), some (.int (x2)), some (.long (x3)), none, some (.int (x5 + (1 : Int32))), some (.int ((0 : Int32))), none, none]) => ?_)
        refine q_goto (t := 24) (show mE (mtv 94) 111 = some (.goto (-87), 3, 0, 0) from rfl) rfl ?_
        exact p5 c1 c2 c15 lv18 (qLs_wk hl19 (⟨rfl, rfl, rfl, rfl, rfl, trivial⟩))
      · refine q_iconst (show mE (mtv 94) 51 = some (.iconst 1, 1, 0, 0) from rfl) kI_1 ?_
        refine q_goto (t := 56) (show mE (mtv 94) 52 = some (.goto 4, 3, 0, 0) from rfl) rfl ?_
        refine q_istore (show mE (mtv 94) 56 = some (.istore 6, 2, 0, 0) from rfl) (Nat.le_of_ble_eq_true rfl) hl (fun lv20 (hl21 : qLs lv20 [some (.ref (9)), some (.int (x1)), some (.int (x2)), some (.long (x3)), none, some (.int (x5)), some (.int ((1 : Int32))), none, none]) => ?_)
        refine q_iload (show mE (mtv 94) 58 = some (.iload 6, 2, 0, 0) from rfl) (hl21 6 _ rfl) ?_
        refine q_iff (t := 108) (show mE (mtv 94) 60 = some (.ifCond .eq 48, 3, 0, 0) from rfl) (by decide) rfl ?_
        refine q_aload_n (show mE (mtv 94) 63 = some (.aload_n 0, 1, 0, 0) from rfl) (hl21 0 _ rfl) ?_
        refine q_getL th (show mE (mtv 94) 64 = some (.getfield 47, 3, 7, 8) from rfl) (by decide) rfl ?_
        refine q_iload_n (show mE (mtv 94) 67 = some (.iload_n 1, 1, 0, 0) from rfl) (hl21 1 _ rfl) ?_
        refine q_iload (show mE (mtv 94) 68 = some (.iload 5, 2, 0, 0) from rfl) (hl21 5 _ rfl) ?_
        refine q_staticP (show mE (mtv 94) 70 = some (.invokestatic 73, 3, 35, 0) from rfl) (by decide) rfl rfl rfl (fun _ g => sp_35 g) ?_
        refine q_land (show mE (mtv 94) 73 = some (.land, 1, 0, 0) from rfl) ?_
        refine q_lconst (show mE (mtv 94) 74 = some (.lconst 0, 1, 0, 0) from rfl) kL_0 ?_
        refine q_lcmp (show mE (mtv 94) 75 = some (.lcmp, 1, 0, 0) from rfl) ?_
        refine q_ifl_eq (t := 108) (show mE (mtv 94) 76 = some (.ifCond .eq 32, 3, 0, 0) from rfl) rfl (fun c22 => ?_) (fun c22 => ?_)
        · refine q_iinc (show mE (mtv 94) 108 = some (.iinc 5 1, 3, 0, 0) from rfl) (Nat.le_of_ble_eq_true rfl) hl21 (hl21 5 _ rfl) kI_1 (fun lv23 (hl24 : qLs lv23 [some (.ref (9)), some (.int (x1)), some (.int (x2)), some (.long (x3)), none, some (.int (x5 + (1 : Int32))), some (.int ((1 : Int32))), none, none]) => ?_)
          refine q_goto (t := 24) (show mE (mtv 94) 111 = some (.goto (-87), 3, 0, 0) from rfl) rfl ?_
          exact p6 c1 c2 c15 c22 lv23 (qLs_wk hl24 (⟨rfl, rfl, rfl, rfl, rfl, trivial⟩))
        · refine q_aload_n (show mE (mtv 94) 79 = some (.aload_n 0, 1, 0, 0) from rfl) (hl21 0 _ rfl) ?_
          refine q_iload_n (show mE (mtv 94) 80 = some (.iload_n 1, 1, 0, 0) from rfl) (hl21 1 _ rfl) ?_
          refine q_iconst (show mE (mtv 94) 81 = some (.iconst 1, 1, 0, 0) from rfl) kI_1 ?_
          refine q_iadd (show mE (mtv 94) 82 = some (.iadd, 1, 0, 0) from rfl) ?_
          refine q_iload (show mE (mtv 94) 83 = some (.iload 5, 2, 0, 0) from rfl) (hl21 5 _ rfl) ?_
          refine q_lload_n (show mE (mtv 94) 85 = some (.lload_n 3, 1, 0, 0) from rfl) (hl21 3 _ rfl) ?_
          refine q_iload_n (show mE (mtv 94) 86 = some (.iload_n 1, 1, 0, 0) from rfl) (hl21 1 _ rfl) ?_
          refine q_iload (show mE (mtv 94) 87 = some (.iload 5, 2, 0, 0) from rfl) (hl21 5 _ rfl) ?_
          refine q_staticP (show mE (mtv 94) 89 = some (.invokestatic 73, 3, 35, 0) from rfl) (by decide) rfl rfl rfl (fun _ g => sp_35 g) ?_
          refine q_lor (show mE (mtv 94) 92 = some (.lor, 1, 0, 0) from rfl) ?_
          refine q_virtualE (show mE (mtv 94) 93 = some (.invokevirtual 59, 3, 94, 7) from rfl) (by decide) rfl rfl rfl (fun _ g => ih g) ?_
          rintro _ ⟨v25, rfl, e26⟩
          refine qK_v ?_
          refine q_lstore (show mE (mtv 94) 96 = some (.lstore 7, 2, 0, 0) from rfl) (Nat.le_of_ble_eq_true rfl) hl21 (fun lv27 (hl28 : qLs lv27 [some (.ref (9)), some (.int (x1)), some (.int (x2)), some (.long (x3)), none, some (.int (x5)), some (.int ((1 : Int32))), some (.long (v25)), none]) => ?_)
          refine q_lload (show mE (mtv 94) 98 = some (.lload 7, 2, 0, 0) from rfl) (hl28 7 _ rfl) ?_
          refine q_lconst (show mE (mtv 94) 100 = some (.lconst 0, 1, 0, 0) from rfl) kL_0 ?_
          refine q_lcmp (show mE (mtv 94) 101 = some (.lcmp, 1, 0, 0) from rfl) ?_
          refine q_ifl_eq (t := 108) (show mE (mtv 94) 102 = some (.ifCond .eq 6, 3, 0, 0) from rfl) rfl (fun c29 => ?_) (fun c29 => ?_)
          · refine q_iinc (show mE (mtv 94) 108 = some (.iinc 5 1, 3, 0, 0) from rfl) (Nat.le_of_ble_eq_true rfl) hl28 (hl28 5 _ rfl) kI_1 (fun lv30 (hl31 : qLs lv30 [some (.ref (9)), some (.int (x1)), some (.int (x2)), some (.long (x3)), none, some (.int (x5 + (1 : Int32))), some (.int ((1 : Int32))), some (.long (v25)), none]) => ?_)
            refine q_goto (t := 24) (show mE (mtv 94) 111 = some (.goto (-87), 3, 0, 0) from rfl) rfl ?_
            exact p7 c1 c2 c15 c22 v25 e26 c29 lv30 (qLs_wk hl31 (⟨rfl, rfl, rfl, rfl, rfl, trivial⟩))
          · refine q_lload (show mE (mtv 94) 105 = some (.lload 7, 2, 0, 0) from rfl) (hl28 7 _ rfl) ?_
            refine q_lreturn (show mE (mtv 94) 107 = some (.lreturn, 1, 0, 0) from rfl) ?_
            exact p8 c1 c2 c15 c22 v25 e26 c29
theorem lk_94 {h : sH} {I : Nat → Nat → Int32} {L : Nat → Nat → Int64} {R : Nat → Nat} (th : qH h I L R) {y : Int64} {a b : Int32} (ca : a < I 9 5) (ih : ∀ {b' : Int32} {y' : Int64} {r : sR}, qGo 94 [.ref (9), .int (a + (1 : Int32)), .int b', .long y'] h r → ∃ v, r = (.inl (some (.long v)), h) ∧ fstV I L (a + 1) b' y' v) :
    ∀ N d lv, inv94 I L a b y d → qLs lv [some (.ref (9)), some (.int (a)), some (.int (b)), some (.long (y)), none, some (.int (d)), none, none, none] → qW 94 N 24 lv [] h (fun r => ∃ v, r = (.inl (some (.long v)), h) ∧ fstV I L a b y v)
  | 0, _, _, _, _ => qW_0
  | N + 1, d, lv, hv, hl => by
    have none_nx : ∀ lv', ¬ I 9 6 ≤ d → (∀ m nc c p dn, cnd94 I L a b y m nc c p → c < nc → d = Int32.ofNat dn → dn < m → noneIn I L m nc c ((p * m + dn) * m ^ (nc - c - 1)) (m ^ (nc - c - 1))) → qLs lv' [some (.ref (9)), some (.int (a)), some (.int (b)), some (.long (y)), none, some (.int (d + (1 : Int32))), none, none, none] → qW 94 N 24 lv' [] h (fun r => ∃ v, r = (.inl (some (.long v)), h) ∧ fstV I L a b y v) := fun lv' c1 hw hl' => lk_94 th ca ih N (d + 1) lv' (inv94_s ca hv c1 hw) hl'
    have zero : ∀ v, fstV I L (a + 1) d (y ||| bitL a d) v → ¬ (L 9 8 &&& bitL a d) = 0 → v = 0 → ∀ m nc c p dn, cnd94 I L a b y m nc c p → c < nc → d = Int32.ofNat dn → dn < m → noneIn I L m nc c ((p * m + dn) * m ^ (nc - c - 1)) (m ^ (nc - c - 1)) := fun v e4 c5 c12 m nc c p dn hc hcl e hd N h1 h2 q => by
      rcases fstV_s e4 c5 hc hcl e hd with ⟨_, g⟩ | ⟨g, _⟩
      · exact g N h1 h2 ((goodF_blk (by omega) hd (by omega) h1 h2).mp q).2
      · exact g c12
    have found : ∀ v, ¬ I 9 6 ≤ d → fstV I L (a + 1) d (y ||| bitL a d) v → ¬ (L 9 8 &&& bitL a d) = 0 → ¬ v = 0 → (a = 0 ∨ ¬ I 9 7 < (if 0 ≤ d - b then d - b else 0 - (d - b))) → fstV I L a b y v := fun v c1 e4 c5 c12 hn m nc c p hc => by
      obtain ⟨dn, e1, e2, e3⟩ := hv m nc c p hc
      have hcl := cnd94_lt hc ca
      have hdn : dn < m := by
        obtain ⟨em, ec, m1, m6, -⟩ := hc
        rw [em, e1] at c1
        have := mt (oN_le (by omega) (by omega)).mpr c1
        omega
      rcases fstV_s e4 c5 hc hcl e1 hdn with ⟨g, _⟩ | ⟨g, N, h1, h2, h3, h4, h5⟩
      · exact absurd g c12
      · have hm : 0 < m := by omega
        obtain ⟨b1, b2'⟩ := blk_lt (j := nc - c - 1) hdn h1 h2
        rw [show nc - c - 1 + 1 = nc - c by omega] at b1 b2'
        refine .inr ⟨g, N, b1, b2', (goodF_blk hm hdn (by omega) h1 h2).mpr ⟨near94 hc e1 hn, h3⟩, h4, fun N' g1 g2 => ?_⟩
        have hb := blk_s (m := m) (j := nc - c - 1) (p := p) dn
        rw [show nc - c - 1 + 1 = nc - c by omega] at hb
        by_cases g3 : N' < p * m ^ (nc - c) + dn * m ^ (nc - c - 1)
        · exact e3 N' g1 g3
        · exact fun q => h5 N' (by omega) g2 ((goodF_blk hm hdn (by omega) (show (p * m + dn) * m ^ (nc - c - 1) ≤ N' by omega) (by omega)).mp q).2
    refine qg_94_24 th ih hl (fun c1 => ⟨0, rfl, fun m nc c p hc => ?_⟩) (fun c1 c2 c5 lv' hl' => none_nx lv' c1 (fun m nc c p dn hc hcl e hd => noAl c5 hc hcl e hd) hl') (fun c1 c2 c5 v e4 c12 lv' hl' => none_nx lv' c1 (zero v e4 c5 c12) hl') (fun c1 c2 c5 v e4 c12 => ⟨v, rfl, found v c1 e4 c5 c12 (.inl c2)⟩) (fun c1 c2 c9 lv' hl' => none_nx lv' c1 (fun m nc c p dn hc hcl e hd N h1 h2 q => ?_) hl') (fun c1 c2 c9 c5 lv' hl' => none_nx lv' c1 (fun m nc c p dn hc hcl e hd => noAl c5 hc hcl e hd) hl') (fun c1 c2 c9 c5 v e4 c12 lv' hl' => none_nx lv' c1 (zero v e4 c5 c12) hl') (fun c1 c2 c9 c5 v e4 c12 => ⟨v, rfl, found v c1 e4 c5 c12 (.inr c9)⟩)
    · obtain ⟨dn, e1, e2, e3⟩ := hv m nc c p hc
      have hcl := cnd94_lt hc ca
      obtain ⟨em, ec, m1, m6, -⟩ := hc
      rw [em, e1] at c1
      have := (oN_le (by omega) (by omega)).mp c1
      rw [show dn = m by omega, show m * m ^ (nc - c - 1) = m ^ (nc - c) by rw [Nat.mul_comm, ← Nat.pow_succ, show (nc - c - 1).succ = nc - c by omega]] at e3
      exact .inl ⟨rfl, e3⟩
    · have := ((goodF_blk (by omega) hd (by omega) h1 h2).mp q).1
      obtain ⟨em, ec, m1, m6, n1, n6, ea, cn, hy, hb, -⟩ := hc
      rcases this with g | g
      · rw [ea, g] at c2; exact c2 rfl
      · have c0 : 0 < c := by
          apply Nat.pos_of_ne_zero
          intro g2
          rw [ea, g2] at c2; exact c2 rfl
        rw [hb c0, e] at c9
        exact of_decide_eq_true g c9
theorem end94 {I : Nat → Nat → Int32} {L : Nat → Nat → Int64} {a b : Int32} {y : Int64} (c1 : ¬ isRO I L a y = true) (c2 : ¬ a < I 9 5) : fstV I L a b y y := fun m nc c p hc => by
  have hc0 := hc
  obtain ⟨em, ec, m1, m6, n1, n6, ea, cn, hy, hb, hal, hbd, hv⟩ := hc
  rw [ea, ec] at c2
  have := mt (oN_lt (by omega) (by omega)).mpr c2
  have e : c = nc := by omega
  subst e
  have hm : 0 < m := by omega
  have d8 : ∀ i, dg m c p i < 8 := fun i => Nat.lt_of_lt_of_le (dg_lt hm) (by omega)
  have nro : ¬ roQ I L a y := fun q => c1 (pB_t q)
  rw [Nat.sub_self, Nat.pow_zero, Nat.mul_one]
  refine .inr ⟨fun q => ?_, p, Nat.le_refl _, by omega, ⟨nearF_end, fun x hx => ?_⟩, hy, fun N' g1 g2 => absurd g2 (by omega)⟩
  · have := isCuts_at hy (show 0 < c by omega) (d8 0)
    rw [q, lb_0] at this
    cases this
  · have ex : x = y := isCuts_inj hx hy (fun i _ => rfl)
    subst ex
    rintro (q | q | ⟨i, i1, i2⟩ | q)
    · exact q hv
    · exact nro (.inl q)
    · refine nro (.inr ⟨i, i1, ?_⟩)
      have : posL (L 9 8) x a = x := lb_ext (fun n hn => by
        rw [ea, lb_pos (by omega) hn]
        by_cases g : 8 * c ≤ n
        · rw [hbd n g, Bool.and_false, Bool.or_false]
        · rw [decide_eq_false g, Bool.false_and, Bool.or_false])
      rw [this]
      exact i2
    · refine q ((letIn_iff hy n6 (fun i _ => d8 i)).mpr (fun i hi => hal i hi))
theorem ro94 {I : Nat → Nat → Int32} {L : Nat → Nat → Int64} {a b : Int32} {y : Int64} (c1 : isRO I L a y = true) : fstV I L a b y 0 := fun m nc c p hc => .inl ⟨rfl, noRO hc (pB_iff.mp c1)⟩
theorem sp_94n {h : sH} {I : Nat → Nat → Int32} {L : Nat → Nat → Int64} {R : Nat → Nat} (th : qH h I L R) : ∀ (k : Nat) (a b : Int32) (y : Int64) (r : sR), (I 9 5).toInt - a.toInt ≤ (k : Int) → qGo 94 [.ref (9), .int a, .int b, .long y] h r → ∃ v, r = (.inl (some (.long v)), h) ∧ fstV I L a b y v := by
  intro k
  induction k with
  | zero =>
    intro a b y r hk g
    refine qg_94 (Q := fun r => ∃ v, r = (.inl (some (.long v)), h) ∧ fstV I L a b y v) th g (fun c0 c1 N lv hl => ?_) (fun c1 c2 => ⟨y, rfl, end94 c1 c2⟩) (fun c1 => ⟨0, rfl, ro94 c1⟩)
    have := Int32.lt_iff_toInt_lt.mp c1
    omega
  | succ k IH =>
    intro a b y r hk g
    refine qg_94 (Q := fun r => ∃ v, r = (.inl (some (.long v)), h) ∧ fstV I L a b y v) th g (fun c0 c1 N lv hl => ?_) (fun c1 c2 => ⟨y, rfl, end94 c1 c2⟩) (fun c1 => ⟨0, rfl, ro94 c1⟩)
    refine lk_94 th c1 (fun g' => IH _ _ _ _ ?_ g') N 0 lv (fun m nc c p hc => ⟨0, rfl, Nat.zero_le _, fun N h1 h2 => ?_⟩) hl
    · have h1 := Int32.lt_iff_toInt_lt.mp c1
      have h2 : (1 : Int32).toInt = 1 := rfl
      have h3 := i32_rng (I 9 5)
      have h4 := i32_rng a
      rw [i32_add (by omega) (by omega), h2]
      omega
    · rw [Nat.zero_mul] at h2
      omega
theorem sp_94 {h : sH} {I : Nat → Nat → Int32} {L : Nat → Nat → Int64} {R : Nat → Nat} {y : Int64} {a b : Int32} {r : sR} (th : qH h I L R) (g : qGo 94 [.ref (9), .int a, .int b, .long y] h r) : ∃ v, r = (.inl (some (.long v)), h) ∧ fstV I L a b y v := sp_94n th (((I 9 5).toInt - a.toInt).toNat) a b y r (by omega) g
/-- the first of all numbers that are so, as a key; or none -/
noncomputable def fst0 (f : Nat → Prop) (m nc : Nat) (v : Int64) : Prop := (v = 0 ∧ ∀ N, N < m ^ nc → ¬ f N) ∨ (¬ v = 0 ∧ ∃ N, N < m ^ nc ∧ f N ∧ isCuts v (dg m nc N) nc ∧ ∀ N', N' < N → ¬ f N')
noncomputable def fiP (I : Nat → Nat → Int32) (L : Nat → Nat → Int64) (v : Int64) : Prop := ∀ m nc, I 9 6 = Int32.ofNat m → I 9 5 = Int32.ofNat nc → 1 ≤ m → m ≤ 6 → 1 ≤ nc → nc ≤ 6 → (∀ n, 8 * nc ≤ n → lb (L 9 8) n = false) → fst0 (goodF I L m nc 0) m nc v
theorem qg_93 {h : sH} {r : sR} {Q : sR → Prop} {I : Nat → Nat → Int32} {L : Nat → Nat → Int64} {R : Nat → Nat} (th : qH h I L R) (g : qGo 93 [.ref (9)] h r)
    (p1 : ∀ (z1 : I 9 4 = 0 ∨ I 9 4 = 1), ∀ (c2 : (I 9 4) = 0), ∀ (v3 : Int64), ∀ (e4 : fstV I L (0 : Int32) (0 : Int32) (0 : Int64) v3), Q (.inl (some (.long (v3))), h))
    (p2 : ∀ (z1 : I 9 4 = 0 ∨ I 9 4 = 1), ∀ (c2 : ¬ (I 9 4) = 0), Q (.inl (some (.long ((0 : Int64)))), h)) : Q r := by
  refine qGo_w g (fun N => ?_)
  have hl0 : qLs (lv_args 0 [.ref (9)]) [some (.ref (9))] := qLs_ar 0
  refine q_aload_n (show mE (mtv 93) 0 = some (.aload_n 0, 1, 0, 0) from rfl) (hl0 0 _ rfl) ?_
  refine q_getB th (show mE (mtv 93) 1 = some (.getfield 25, 3, 7, 4) from rfl) (by decide) rfl (fun z1 => ?_)
  refine q_if_eq (t := 11) (show mE (mtv 93) 4 = some (.ifCond .eq 7, 3, 0, 0) from rfl) rfl (fun c2 => ?_) (fun c2 => ?_)
  · refine q_aload_n (show mE (mtv 93) 11 = some (.aload_n 0, 1, 0, 0) from rfl) (hl0 0 _ rfl) ?_
    refine q_iconst (show mE (mtv 93) 12 = some (.iconst 0, 1, 0, 0) from rfl) kI_0 ?_
    refine q_iconst (show mE (mtv 93) 13 = some (.iconst 0, 1, 0, 0) from rfl) kI_0 ?_
    refine q_lconst (show mE (mtv 93) 14 = some (.lconst 0, 1, 0, 0) from rfl) kL_0 ?_
    refine q_virtualE (show mE (mtv 93) 15 = some (.invokevirtual 59, 3, 94, 7) from rfl) (by decide) rfl rfl rfl (fun _ g => sp_94 th g) ?_
    rintro _ ⟨v3, rfl, e4⟩
    refine qK_v ?_
    refine q_lreturn (show mE (mtv 93) 18 = some (.lreturn, 1, 0, 0) from rfl) ?_
    exact p1 z1 c2 v3 e4
  · refine q_lconst (show mE (mtv 93) 7 = some (.lconst 0, 1, 0, 0) from rfl) kL_0 ?_
    refine q_goto (t := 18) (show mE (mtv 93) 8 = some (.goto 10, 3, 0, 0) from rfl) rfl ?_
    refine q_lreturn (show mE (mtv 93) 18 = some (.lreturn, 1, 0, 0) from rfl) ?_
    exact p2 z1 c2
theorem sp_93 {h : sH} {I : Nat → Nat → Int32} {L : Nat → Nat → Int64} {R : Nat → Nat} {r : sR} (th : qH h I L R) (g : qGo 93 [.ref (9)] h r) : ∃ v, r = (.inl (some (.long v)), h) ∧ fiP I L v := by
  have vain : ¬ I 9 4 = 0 → fiP I L 0 := fun c m nc _ _ m1 m6 n1 n6 _ => by
    refine .inl ⟨rfl, fun N _ q => ?_⟩
    obtain ⟨x, hx⟩ := isCuts_ex (f := dg m nc N) (fun c => Nat.lt_of_lt_of_le (dg_lt (by omega)) (by omega)) nc (by omega)
    exact q.2 x hx (.inl c)
  have go : ∀ v, I 9 4 = 0 → fstV I L 0 0 0 v → fiP I L v := fun v c e m nc em ec m1 m6 n1 n6 hb => by
    have := e m nc 0 0 ⟨em, ec, m1, m6, n1, n6, rfl, Nat.zero_le _, isCuts_0, fun q => absurd q (Nat.lt_irrefl 0), fun i q => absurd q (Nat.not_lt_zero i), hb, c⟩
    rw [Nat.zero_mul, Nat.sub_zero] at this
    rcases this with ⟨e1, e2⟩ | ⟨e1, N, _, e2, e3, e4, e5⟩
    · exact .inl ⟨e1, fun N hN => e2 N (Nat.zero_le _) (by omega)⟩
    · exact .inr ⟨e1, N, by omega, e3, e4, fun N' hN => e5 N' (Nat.zero_le _) hN⟩
  exact qg_93 (Q := fun r => ∃ v, r = (.inl (some (.long v)), h) ∧ fiP I L v) th g (fun _ c v e => ⟨v, rfl, go v c e⟩) (fun _ c => ⟨0, rfl, vain c⟩)
end
section
/-! part 65: the search of the class, whole -/
theorem letIn_c {x p : Int64} {f : Nat → Nat} {n : Nat} (hx : isCuts x f n) (hn : n ≤ 6) (hf : ∀ c, c < n → f c < 8) : letIn x p ↔ ∀ c, c < n → lb p (8 * c + f c) = true := letIn_iff hx hn hf
theorem G14_cg {K L : Nat → Nat → Int64} {w : Int32} (h : ∀ i, i < 2147483648 → K (19 + i) 0 = L (19 + i) 0) : ∀ m j x, j + m ≤ 2147483648 → G_14 K w j x m = G_14 L w j x m
  | 0, _, _, _ => rfl
  | m + 1, j, x, hm => by
    unfold G_14
    rw [ofN_clamp (by omega), h j (by omega), G14_cg h m (j + 1) _ (by omega), G14_cg h m (j + 1) _ (by omega)]
theorem liB_cg {I J : Nat → Nat → Int32} {K L : Nat → Nat → Int64} {wd ws f : Int32} {x : Int64} (hI : ∀ a b, a ≠ 9 → J a b = I a b) (hL : ∀ i, K (19 + i) 0 = L (19 + i) 0) : liB J K wd ws f x ↔ liB I L wd ws f x := by
  have bm := nn_lt (I 0 9)
  unfold liB
  rw [hI 0 9 (by decide), hI 0 16 (by decide), hI 1 4 (by decide), hI 1 1 (by decide), G14_cg (fun i _ => hL i) _ 0 0 (by omega)]
  have : ∀ k, J (19 + k) 1 = I (19 + k) 1 := fun k => hI _ _ (by omega)
  simp only [this, hL]
/-- what a search holds against a key, all in all -/
noncomputable def wsD (I : Nat → Nat → Int32) (R : Nat → Nat) (rep : Int32) (d : Nat) : Int32 := if rep = -1 then I (R d) 1 else xW (I (R d) 1) rep 0
noncomputable def srB1 (I : Nat → Nat → Int32) (L : Nat → Nat → Int64) (n : Nat) (x : Int64) : Prop := ∃ k, k < n ∧ I (19 + k) 1 = I 1 4 ∧ letIn (L (19 + k) 0) x
noncomputable def srB2 (L : Nat → Nat → Int64) (blk : Int32) (n : Nat) (x : Int64) : Prop := ∃ b, b < n ∧ ¬ Int32.ofNat b = blk ∧ letIn (L 15 b) x
noncomputable def srB3 (I : Nat → Nat → Int32) (L : Nat → Nat → Int64) (R : Nat → Nat) (dset rep : Int32) (n : Nat) (x : Int64) : Prop := ∃ d, d < n ∧ liB I L (I (R d) 0) (wsD I R rep d) (b2 (hs dset (Int32.ofNat d) = true)) x
noncomputable def srB (I : Nat → Nat → Int32) (L : Nat → Nat → Int64) (R : Nat → Nat) (dset rep blk : Int32) (x : Int64) : Prop := srB1 I L (I 0 9).toNatClampNeg x ∨ srB2 L blk (I 0 12).toNatClampNeg x ∨ srB3 I L R dset rep (I 0 10).toNatClampNeg x
theorem srB1_s {I : Nat → Nat → Int32} {L : Nat → Nat → Int64} {n : Nat} {x : Int64} : srB1 I L (n + 1) x ↔ srB1 I L n x ∨ (I (19 + n) 1 = I 1 4 ∧ letIn (L (19 + n) 0) x) := by
  constructor
  · rintro ⟨k, h1, h2⟩
    by_cases e : k = n
    · subst e; exact .inr h2
    · exact .inl ⟨k, by omega, h2⟩
  · rintro (⟨k, h1, h2⟩ | h)
    · exact ⟨k, by omega, h2⟩
    · exact ⟨n, by omega, h⟩
theorem srB2_s {L : Nat → Nat → Int64} {blk : Int32} {n : Nat} {x : Int64} : srB2 L blk (n + 1) x ↔ srB2 L blk n x ∨ (¬ Int32.ofNat n = blk ∧ letIn (L 15 n) x) := by
  constructor
  · rintro ⟨k, h1, h2⟩
    by_cases e : k = n
    · subst e; exact .inr h2
    · exact .inl ⟨k, by omega, h2⟩
  · rintro (⟨k, h1, h2⟩ | h)
    · exact ⟨k, by omega, h2⟩
    · exact ⟨n, by omega, h⟩
theorem srB3_s {I : Nat → Nat → Int32} {L : Nat → Nat → Int64} {R : Nat → Nat} {dset rep : Int32} {n : Nat} {x : Int64} : srB3 I L R dset rep (n + 1) x ↔ srB3 I L R dset rep n x ∨ liB I L (I (R n) 0) (wsD I R rep n) (b2 (hs dset (Int32.ofNat n) = true)) x := by
  constructor
  · rintro ⟨k, h1, h2⟩
    by_cases e : k = n
    · subst e; exact .inr h2
    · exact .inl ⟨k, by omega, h2⟩
  · rintro (⟨k, h1, h2⟩ | h)
    · exact ⟨k, by omega, h2⟩
    · exact ⟨n, by omega, h⟩
noncomputable def srQ (I : Nat → Nat → Int32) (L : Nat → Nat → Int64) (R : Nat → Nat) (dset rep blk : Int32) (r : sR) : Prop := ∃ v J K h1, r = (.inl (some (.long v)), h1) ∧ qH h1 J K R ∧ stp ((I 0 9).toNatClampNeg + (I 0 12).toNatClampNeg + (I 0 10).toNatClampNeg * (I 0 9).toNatClampNeg) (I 0 10).toNatClampNeg I L J K (srB I L R dset rep blk) ∧ fiP J K v
theorem qg_83 {h : sH} {r : sR} {Q : sR → Prop} {a0 : Int32} {a1 : Int32} {a2 : Int32} {I : Nat → Nat → Int32} {L : Nat → Nat → Int64} {R : Nat → Nat} (th : qH h I L R) (g : qGo 83 [.ref (0), .int (a0), .int (a1), .int (a2)] h r)
    (p1 : ∀ (c1 : ¬ a2 = (-1 : Int32)), ∀ (bb2 : sIn a2 4 = true), ∀ (j3 : Nat → Nat → Int32), ∀ (K7 : Nat → Nat → Int64), ∀ (h4 : sH), ∀ (t5 : qH h4 j3 K7 R), ∀ (e6 : beP I L (L 15 ((a2).toNatClampNeg)) j3 K7), ∀ N lv, qLs lv [some (.ref (0)), some (.int (a0)), some (.int (a1)), some (.int (a2)), some (.int ((0 : Int32))), none] → qW 83 N 29 lv [] h4 Q)
    (p2 : ∀ (c1 : a2 = (-1 : Int32)), ∀ (j10 : Nat → Nat → Int32), ∀ (K14 : Nat → Nat → Int64), ∀ (h11 : sH), ∀ (t12 : qH h11 j10 K14 R), ∀ (e13 : beP I L (0 : Int64) j10 K14), ∀ N lv, qLs lv [some (.ref (0)), some (.int (a0)), some (.int (a1)), some (.int (a2)), some (.int ((0 : Int32))), none] → qW 83 N 29 lv [] h11 Q) : Q r := by
  refine qGo_w g (fun N => ?_)
  have hl0 : qLs (lv_args 0 [.ref (0), .int (a0), .int (a1), .int (a2)]) [some (.ref (0)), some (.int (a0)), some (.int (a1)), some (.int (a2)), none, none] := qLs_ar 2
  refine q_aload_n (show mE (mtv 83) 0 = some (.aload_n 0, 1, 0, 0) from rfl) (hl0 0 _ rfl) ?_
  refine q_getR (m := 9) th (show mE (mtv 83) 1 = some (.getfield 19, 3, 8, 1) from rfl) (by decide) rfl rfl ?_
  refine q_aload_n (show mE (mtv 83) 4 = some (.aload_n 0, 1, 0, 0) from rfl) (hl0 0 _ rfl) ?_
  refine q_getR (m := 1) th (show mE (mtv 83) 5 = some (.getfield 10, 3, 8, 0) from rfl) (by decide) rfl rfl ?_
  refine q_iload_n (show mE (mtv 83) 8 = some (.iload_n 3, 1, 0, 0) from rfl) (hl0 3 _ rfl) ?_
  refine q_iconst (show mE (mtv 83) 9 = some (.iconst (-1), 1, 0, 0) from rfl) kI_m1 ?_
  refine q_ic_ne (t := 17) (show mE (mtv 83) 10 = some (.if_icmp .ne 7, 3, 0, 0) from rfl) rfl (fun c1 => ?_) (fun c1 => ?_)
  · refine q_aload_n (show mE (mtv 83) 17 = some (.aload_n 0, 1, 0, 0) from rfl) (hl0 0 _ rfl) ?_
    refine q_getR (m := 15) th (show mE (mtv 83) 18 = some (.getfield 41, 3, 8, 5) from rfl) (by decide) rfl rfl ?_
    refine q_iload_n (show mE (mtv 83) 21 = some (.iload_n 3, 1, 0, 0) from rfl) (hl0 3 _ rfl) ?_
    refine q_laload (n := 4) th (show mE (mtv 83) 22 = some (.laload, 1, 0, 0) from rfl) (by decide) rfl (fun bb2 => ?_)
    refine q_virtualE (show mE (mtv 83) 23 = some (.invokevirtual 548, 3, 84, 7) from rfl) (by decide) rfl rfl rfl (fun _ g => sp_84 th g) ?_
    rintro _ ⟨j3, K7, h4, rfl, t5, e6⟩
    refine qK_n ?_
    refine q_iconst (show mE (mtv 83) 26 = some (.iconst 0, 1, 0, 0) from rfl) kI_0 ?_
    refine q_istore (show mE (mtv 83) 27 = some (.istore 4, 2, 0, 0) from rfl) (Nat.le_of_ble_eq_true rfl) hl0 (fun lv8 (hl9 : qLs lv8 [some (.ref (0)), some (.int (a0)), some (.int (a1)), some (.int (a2)), some (.int ((0 : Int32))), none]) => ?_)
    exact p1 c1 bb2 j3 K7 h4 t5 e6 _ lv8 (qLs_wk hl9 (⟨rfl, rfl, rfl, rfl, rfl, trivial⟩))
  · refine q_lconst (show mE (mtv 83) 13 = some (.lconst 0, 1, 0, 0) from rfl) kL_0 ?_
    refine q_goto (t := 23) (show mE (mtv 83) 14 = some (.goto 9, 3, 0, 0) from rfl) rfl ?_
    refine q_virtualE (show mE (mtv 83) 23 = some (.invokevirtual 548, 3, 84, 7) from rfl) (by decide) rfl rfl rfl (fun _ g => sp_84 th g) ?_
    rintro _ ⟨j10, K14, h11, rfl, t12, e13⟩
    refine qK_n ?_
    refine q_iconst (show mE (mtv 83) 26 = some (.iconst 0, 1, 0, 0) from rfl) kI_0 ?_
    refine q_istore (show mE (mtv 83) 27 = some (.istore 4, 2, 0, 0) from rfl) (Nat.le_of_ble_eq_true rfl) hl0 (fun lv15 (hl16 : qLs lv15 [some (.ref (0)), some (.int (a0)), some (.int (a1)), some (.int (a2)), some (.int ((0 : Int32))), none]) => ?_)
    exact p2 c1 j10 K14 h11 t12 e13 _ lv15 (qLs_wk hl16 (⟨rfl, rfl, rfl, rfl, rfl, trivial⟩))
theorem qg_83_29 {N : Nat} {lv : sL} {h : sH} {Q : sR → Prop} {x1 : Int32} {x2 : Int32} {x3 : Int32} {x4 : Int32} {I : Nat → Nat → Int32} {L : Nat → Nat → Int64} {R : Nat → Nat} (th : qH h I L R) (hl : qLs lv [some (.ref (0)), some (.int (x1)), some (.int (x2)), some (.int (x3)), some (.int (x4)), none])
    (p1 : ∀ (c1 : (I 0 9) ≤ x4), ∀ lv, qLs lv [some (.ref (0)), some (.int (x1)), some (.int (x2)), some (.int (x3)), some (.int ((0 : Int32))), none] → qW 83 N 84 lv [] h Q)
    (p2 : ∀ (c1 : ¬ (I 0 9) ≤ x4), ∀ (bb4 : sIn x4 16 = true), ∀ (c5 : ¬ (I (19 + (x4).toNatClampNeg) 1) = (I 1 4)), ∀ lv, qLs lv [some (.ref (0)), some (.int (x1)), some (.int (x2)), some (.int (x3)), some (.int (x4 + (1 : Int32))), none] → qW 83 N 29 lv [] h Q)
    (p3 : ∀ (c1 : ¬ (I 0 9) ≤ x4), ∀ (bb4 : sIn x4 16 = true), ∀ (c5 : (I (19 + (x4).toNatClampNeg) 1) = (I 1 4)), ∀ (j9 : Nat → Nat → Int32), ∀ (K13 : Nat → Nat → Int64), ∀ (h10 : sH), ∀ (t11 : qH h10 j9 K13 R), ∀ (e12 : roP I L (L (19 + (x4).toNatClampNeg) 0) j9 K13), ∀ lv, qLs lv [some (.ref (0)), some (.int (x1)), some (.int (x2)), some (.int (x3)), some (.int (x4 + (1 : Int32))), none] → qW 83 N 29 lv [] h10 Q) : qW 83 (N + 1) 29 lv [] h Q := by
  refine q1_iload (show mE (mtv 83) 29 = some (.iload 4, 2, 0, 0) from rfl) (hl 4 _ rfl) ?_
  refine q_aload_n (show mE (mtv 83) 31 = some (.aload_n 0, 1, 0, 0) from rfl) (hl 0 _ rfl) ?_
  refine q_getI th (show mE (mtv 83) 32 = some (.getfield 88, 3, 8, 9) from rfl) (by decide) rfl ?_
  refine q_ic_ge (t := 81) (show mE (mtv 83) 35 = some (.if_icmp .ge 46, 3, 0, 0) from rfl) rfl (fun c1 => ?_) (fun c1 => ?_)
  · refine q_iconst (show mE (mtv 83) 81 = some (.iconst 0, 1, 0, 0) from rfl) kI_0 ?_
    refine q_istore (show mE (mtv 83) 82 = some (.istore 4, 2, 0, 0) from rfl) (Nat.le_of_ble_eq_true rfl) hl (fun lv2 (hl3 : qLs lv2 [some (.ref (0)), some (.int (x1)), some (.int (x2)), some (.int (x3)), some (.int ((0 : Int32))), none]) => ?_)
    exact p1 c1 lv2 (qLs_wk hl3 (⟨rfl, rfl, rfl, rfl, rfl, trivial⟩))
  · refine q_aload_n (show mE (mtv 83) 38 = some (.aload_n 0, 1, 0, 0) from rfl) (hl 0 _ rfl) ?_
    refine q_getR (m := 12) th (show mE (mtv 83) 39 = some (.getfield 25, 3, 8, 2) from rfl) (by decide) rfl rfl ?_
    refine q_iload (show mE (mtv 83) 42 = some (.iload 4, 2, 0, 0) from rfl) (hl 4 _ rfl) ?_
    refine q_aaload (n := 16) (t := 4) (m := 19) th (show mE (mtv 83) 44 = some (.aaload, 1, 0, 0) from rfl) (by decide) rfl (fun _ _ => rfl) (fun bb4 => ?_)
    refine q_getI th (show mE (mtv 83) 45 = some (.getfield 263, 3, 3, 1) from rfl) (qB bb4 (by decide)) rfl ?_
    refine q_aload_n (show mE (mtv 83) 48 = some (.aload_n 0, 1, 0, 0) from rfl) (hl 0 _ rfl) ?_
    refine q_getR (m := 1) th (show mE (mtv 83) 49 = some (.getfield 10, 3, 8, 0) from rfl) (by decide) rfl rfl ?_
    refine q_getI th (show mE (mtv 83) 52 = some (.getfield 260, 3, 4, 4) from rfl) (by decide) rfl ?_
    refine q_ic_ne (t := 75) (show mE (mtv 83) 55 = some (.if_icmp .ne 20, 3, 0, 0) from rfl) rfl (fun c5 => ?_) (fun c5 => ?_)
    · refine q_iinc (show mE (mtv 83) 75 = some (.iinc 4 1, 3, 0, 0) from rfl) (Nat.le_of_ble_eq_true rfl) hl (hl 4 _ rfl) kI_1 (fun lv6 (hl7 : qLs lv6 [some (.ref (0)), some (.int (x1)), some (.int (x2)), some (.int (x3)), some (.int (x4 + (1 : Int32))), none]) => ?_)
      refine q_goto (t := 29) (show mE (mtv 83) 78 = some (.goto (-49), 3, 0, 0) from rfl) rfl ?_
      exact p2 c1 bb4 c5 lv6 (qLs_wk hl7 (⟨rfl, rfl, rfl, rfl, rfl, trivial⟩))
    · refine q_aload_n (show mE (mtv 83) 58 = some (.aload_n 0, 1, 0, 0) from rfl) (hl 0 _ rfl) ?_
      refine q_getR (m := 9) th (show mE (mtv 83) 59 = some (.getfield 19, 3, 8, 1) from rfl) (by decide) rfl rfl ?_
      refine q_aload_n (show mE (mtv 83) 62 = some (.aload_n 0, 1, 0, 0) from rfl) (hl 0 _ rfl) ?_
      refine q_getR (m := 12) th (show mE (mtv 83) 63 = some (.getfield 25, 3, 8, 2) from rfl) (by decide) rfl rfl ?_
      refine q_iload (show mE (mtv 83) 66 = some (.iload 4, 2, 0, 0) from rfl) (hl 4 _ rfl) ?_
      refine q_aaload (n := 16) (t := 4) (m := 19) th (show mE (mtv 83) 68 = some (.aaload, 1, 0, 0) from rfl) (by decide) rfl (fun _ _ => rfl) (fun bb8 => ?_)
      refine q_getL th (show mE (mtv 83) 69 = some (.getfield 165, 3, 3, 0) from rfl) (qB bb8 (by decide)) rfl ?_
      refine q_virtualE (show mE (mtv 83) 72 = some (.invokevirtual 552, 3, 85, 7) from rfl) (by decide) rfl rfl rfl (fun _ g => sp_85 th g) ?_
      rintro _ ⟨j9, K13, h10, rfl, t11, e12⟩
      refine qK_n ?_
      refine q_iinc (show mE (mtv 83) 75 = some (.iinc 4 1, 3, 0, 0) from rfl) (Nat.le_of_ble_eq_true rfl) hl (hl 4 _ rfl) kI_1 (fun lv14 (hl15 : qLs lv14 [some (.ref (0)), some (.int (x1)), some (.int (x2)), some (.int (x3)), some (.int (x4 + (1 : Int32))), none]) => ?_)
      refine q_goto (t := 29) (show mE (mtv 83) 78 = some (.goto (-49), 3, 0, 0) from rfl) rfl ?_
      exact p3 c1 bb4 c5 j9 K13 h10 t11 e12 lv14 (qLs_wk hl15 (⟨rfl, rfl, rfl, rfl, rfl, trivial⟩))
theorem qg_83_84 {N : Nat} {lv : sL} {h : sH} {Q : sR → Prop} {x1 : Int32} {x2 : Int32} {x3 : Int32} {x4 : Int32} {I : Nat → Nat → Int32} {L : Nat → Nat → Int64} {R : Nat → Nat} (th : qH h I L R) (hl : qLs lv [some (.ref (0)), some (.int (x1)), some (.int (x2)), some (.int (x3)), some (.int (x4)), none])
    (p1 : ∀ (c1 : (I 0 12) ≤ x4), ∀ lv, qLs lv [some (.ref (0)), some (.int (x1)), some (.int (x2)), none, some (.int ((0 : Int32))), none] → qW 83 N 122 lv [] h Q)
    (p2 : ∀ (c1 : ¬ (I 0 12) ≤ x4), ∀ (c4 : x4 = x3), ∀ lv, qLs lv [some (.ref (0)), some (.int (x1)), some (.int (x2)), some (.int (x3)), some (.int (x4 + (1 : Int32))), none] → qW 83 N 84 lv [] h Q)
    (p3 : ∀ (c1 : ¬ (I 0 12) ≤ x4), ∀ (c4 : ¬ x4 = x3), ∀ (bb7 : sIn x4 4 = true), ∀ (j8 : Nat → Nat → Int32), ∀ (K12 : Nat → Nat → Int64), ∀ (h9 : sH), ∀ (t10 : qH h9 j8 K12 R), ∀ (e11 : roP I L (L 15 ((x4).toNatClampNeg)) j8 K12), ∀ lv, qLs lv [some (.ref (0)), some (.int (x1)), some (.int (x2)), some (.int (x3)), some (.int (x4 + (1 : Int32))), none] → qW 83 N 84 lv [] h9 Q) : qW 83 (N + 1) 84 lv [] h Q := by
  refine q1_iload (show mE (mtv 83) 84 = some (.iload 4, 2, 0, 0) from rfl) (hl 4 _ rfl) ?_
  refine q_aload_n (show mE (mtv 83) 86 = some (.aload_n 0, 1, 0, 0) from rfl) (hl 0 _ rfl) ?_
  refine q_getI th (show mE (mtv 83) 87 = some (.getfield 91, 3, 8, 12) from rfl) (by decide) rfl ?_
  refine q_ic_ge (t := 119) (show mE (mtv 83) 90 = some (.if_icmp .ge 29, 3, 0, 0) from rfl) rfl (fun c1 => ?_) (fun c1 => ?_)
  · refine q_iconst (show mE (mtv 83) 119 = some (.iconst 0, 1, 0, 0) from rfl) kI_0 ?_
    refine q_istore (show mE (mtv 83) 120 = some (.istore 4, 2, 0, 0) from rfl) (Nat.le_of_ble_eq_true rfl) hl (fun lv2 (hl3 : qLs lv2 [some (.ref (0)), some (.int (x1)), some (.int (x2)), some (.int (x3)), some (.int ((0 : Int32))), none]) => ?_)
    exact p1 c1 lv2 (qLs_wk hl3 (⟨rfl, rfl, rfl, rfl, trivial⟩))
  · refine q_iload (show mE (mtv 83) 93 = some (.iload 4, 2, 0, 0) from rfl) (hl 4 _ rfl) ?_
    refine q_iload_n (show mE (mtv 83) 95 = some (.iload_n 3, 1, 0, 0) from rfl) (hl 3 _ rfl) ?_
    refine q_ic_eq (t := 113) (show mE (mtv 83) 96 = some (.if_icmp .eq 17, 3, 0, 0) from rfl) rfl (fun c4 => ?_) (fun c4 => ?_)
    · refine q_iinc (show mE (mtv 83) 113 = some (.iinc 4 1, 3, 0, 0) from rfl) (Nat.le_of_ble_eq_true rfl) hl (hl 4 _ rfl) kI_1 (fun lv5 (hl6 : qLs lv5 [some (.ref (0)), some (.int (x1)), some (.int (x2)), some (.int (x3)), some (.int (x4 + (1 : Int32))), none]) => ?_)
      refine q_goto (t := 84) (show mE (mtv 83) 116 = some (.goto (-32), 3, 0, 0) from rfl) rfl ?_
      exact p2 c1 c4 lv5 (qLs_wk hl6 (⟨rfl, rfl, rfl, rfl, rfl, trivial⟩))
    · refine q_aload_n (show mE (mtv 83) 99 = some (.aload_n 0, 1, 0, 0) from rfl) (hl 0 _ rfl) ?_
      refine q_getR (m := 9) th (show mE (mtv 83) 100 = some (.getfield 19, 3, 8, 1) from rfl) (by decide) rfl rfl ?_
      refine q_aload_n (show mE (mtv 83) 103 = some (.aload_n 0, 1, 0, 0) from rfl) (hl 0 _ rfl) ?_
      refine q_getR (m := 15) th (show mE (mtv 83) 104 = some (.getfield 41, 3, 8, 5) from rfl) (by decide) rfl rfl ?_
      refine q_iload (show mE (mtv 83) 107 = some (.iload 4, 2, 0, 0) from rfl) (hl 4 _ rfl) ?_
      refine q_laload (n := 4) th (show mE (mtv 83) 109 = some (.laload, 1, 0, 0) from rfl) (by decide) rfl (fun bb7 => ?_)
      refine q_virtualE (show mE (mtv 83) 110 = some (.invokevirtual 552, 3, 85, 7) from rfl) (by decide) rfl rfl rfl (fun _ g => sp_85 th g) ?_
      rintro _ ⟨j8, K12, h9, rfl, t10, e11⟩
      refine qK_n ?_
      refine q_iinc (show mE (mtv 83) 113 = some (.iinc 4 1, 3, 0, 0) from rfl) (Nat.le_of_ble_eq_true rfl) hl (hl 4 _ rfl) kI_1 (fun lv13 (hl14 : qLs lv13 [some (.ref (0)), some (.int (x1)), some (.int (x2)), some (.int (x3)), some (.int (x4 + (1 : Int32))), none]) => ?_)
      refine q_goto (t := 84) (show mE (mtv 83) 116 = some (.goto (-32), 3, 0, 0) from rfl) rfl ?_
      exact p3 c1 c4 bb7 j8 K12 h9 t10 e11 lv13 (qLs_wk hl14 (⟨rfl, rfl, rfl, rfl, rfl, trivial⟩))
theorem qg_83_122 {N : Nat} {lv : sL} {h : sH} {Q : sR → Prop} {x1 : Int32} {x2 : Int32} {x4 : Int32} {I : Nat → Nat → Int32} {L : Nat → Nat → Int64} {R : Nat → Nat} (th : qH h I L R) (hl : qLs lv [some (.ref (0)), some (.int (x1)), some (.int (x2)), none, some (.int (x4)), none])
    (p1 : ∀ (c1 : (I 0 10) ≤ x4), ∀ (v2 : Int64), ∀ (e3 : fiP I L v2), Q (.inl (some (.long (v2))), h))
    (p2 : ∀ (c1 : ¬ (I 0 10) ≤ x4), ∀ (c4 : ¬ x2 = (-1 : Int32)), ∀ (bb5 : sIn x4 10 = true), ∀ (d6 : 35 ≤ R (x4).toNatClampNeg), ∀ (d7 : R (x4).toNatClampNeg ≤ 44), ∀ (j13 : Nat → Nat → Int32), ∀ (K17 : Nat → Nat → Int64), ∀ (h14 : sH), ∀ (t15 : qH h14 j13 K17 R), ∀ (e16 : liP I L (I (R (x4).toNatClampNeg) 0) (xW (I (R (x4).toNatClampNeg) 1) x2 (0 : Int32)) (b2 (hs x1 x4 = true)) j13 K17), ∀ lv, qLs lv [some (.ref (0)), some (.int (x1)), some (.int (x2)), none, some (.int (x4 + (1 : Int32))), none] → qW 83 N 122 lv [] h14 Q)
    (p3 : ∀ (c1 : ¬ (I 0 10) ≤ x4), ∀ (c4 : x2 = (-1 : Int32)), ∀ (bb20 : sIn x4 10 = true), ∀ (d21 : 35 ≤ R (x4).toNatClampNeg), ∀ (d22 : R (x4).toNatClampNeg ≤ 44), ∀ (j28 : Nat → Nat → Int32), ∀ (K32 : Nat → Nat → Int64), ∀ (h29 : sH), ∀ (t30 : qH h29 j28 K32 R), ∀ (e31 : liP I L (I (R (x4).toNatClampNeg) 0) (I (R (x4).toNatClampNeg) 1) (b2 (hs x1 x4 = true)) j28 K32), ∀ lv, qLs lv [some (.ref (0)), some (.int (x1)), some (.int (x2)), none, some (.int (x4 + (1 : Int32))), none] → qW 83 N 122 lv [] h29 Q) : qW 83 (N + 1) 122 lv [] h Q := by
  refine q1_iload (show mE (mtv 83) 122 = some (.iload 4, 2, 0, 0) from rfl) (hl 4 _ rfl) ?_
  refine q_aload_n (show mE (mtv 83) 124 = some (.aload_n 0, 1, 0, 0) from rfl) (hl 0 _ rfl) ?_
  refine q_getI th (show mE (mtv 83) 125 = some (.getfield 171, 3, 8, 10) from rfl) (by decide) rfl ?_
  refine q_ic_ge (t := 194) (show mE (mtv 83) 128 = some (.if_icmp .ge 66, 3, 0, 0) from rfl) rfl (fun c1 => ?_) (fun c1 => ?_)
  · refine q_aload_n (show mE (mtv 83) 194 = some (.aload_n 0, 1, 0, 0) from rfl) (hl 0 _ rfl) ?_
    refine q_getR (m := 9) th (show mE (mtv 83) 195 = some (.getfield 19, 3, 8, 1) from rfl) (by decide) rfl rfl ?_
    refine q_virtualE (show mE (mtv 83) 198 = some (.invokevirtual 558, 3, 93, 7) from rfl) (by decide) rfl rfl rfl (fun _ g => sp_93 th g) ?_
    rintro _ ⟨v2, rfl, e3⟩
    refine qK_v ?_
    refine q_lreturn (show mE (mtv 83) 201 = some (.lreturn, 1, 0, 0) from rfl) ?_
    exact p1 c1 v2 e3
  · refine q_iload_n (show mE (mtv 83) 131 = some (.iload_n 2, 1, 0, 0) from rfl) (hl 2 _ rfl) ?_
    refine q_iconst (show mE (mtv 83) 132 = some (.iconst (-1), 1, 0, 0) from rfl) kI_m1 ?_
    refine q_ic_ne (t := 149) (show mE (mtv 83) 133 = some (.if_icmp .ne 16, 3, 0, 0) from rfl) rfl (fun c4 => ?_) (fun c4 => ?_)
    · refine q_aload_n (show mE (mtv 83) 149 = some (.aload_n 0, 1, 0, 0) from rfl) (hl 0 _ rfl) ?_
      refine q_getR (m := 13) th (show mE (mtv 83) 150 = some (.getfield 31, 3, 8, 3) from rfl) (by decide) rfl rfl ?_
      refine q_iload (show mE (mtv 83) 153 = some (.iload 4, 2, 0, 0) from rfl) (hl 4 _ rfl) ?_
      refine q_aaloadD th (show mE (mtv 83) 155 = some (.aaload, 1, 0, 0) from rfl) (fun bb5 d6 d7 => ?_)
      refine q_getI th (show mE (mtv 83) 156 = some (.getfield 185, 3, 1, 1) from rfl) (Nat.lt_of_le_of_lt d7 (by decide)) rfl ?_
      refine q_iload_n (show mE (mtv 83) 159 = some (.iload_n 2, 1, 0, 0) from rfl) (hl 2 _ rfl) ?_
      refine q_iconst (show mE (mtv 83) 160 = some (.iconst 0, 1, 0, 0) from rfl) kI_0 ?_
      refine q_staticP (show mE (mtv 83) 161 = some (.invokestatic 188, 3, 29, 0) from rfl) (by decide) rfl rfl rfl (fun _ g => sp_29 g) ?_
      refine q_istore (show mE (mtv 83) 164 = some (.istore 5, 2, 0, 0) from rfl) (Nat.le_of_ble_eq_true rfl) hl (fun lv8 (hl9 : qLs lv8 [some (.ref (0)), some (.int (x1)), some (.int (x2)), none, some (.int (x4)), some (.int (xW (I (R (x4).toNatClampNeg) 1) x2 (0 : Int32)))]) => ?_)
      refine q_aload_n (show mE (mtv 83) 166 = some (.aload_n 0, 1, 0, 0) from rfl) (hl9 0 _ rfl) ?_
      refine q_aload_n (show mE (mtv 83) 167 = some (.aload_n 0, 1, 0, 0) from rfl) (hl9 0 _ rfl) ?_
      refine q_getR (m := 13) th (show mE (mtv 83) 168 = some (.getfield 31, 3, 8, 3) from rfl) (by decide) rfl rfl ?_
      refine q_iload (show mE (mtv 83) 171 = some (.iload 4, 2, 0, 0) from rfl) (hl9 4 _ rfl) ?_
      refine q_aaloadD th (show mE (mtv 83) 173 = some (.aaload, 1, 0, 0) from rfl) (fun bb10 d11 d12 => ?_)
      refine q_getI th (show mE (mtv 83) 174 = some (.getfield 273, 3, 1, 0) from rfl) (Nat.lt_of_le_of_lt d12 (by decide)) rfl ?_
      refine q_iload (show mE (mtv 83) 177 = some (.iload 5, 2, 0, 0) from rfl) (hl9 5 _ rfl) ?_
      refine q_iload_n (show mE (mtv 83) 179 = some (.iload_n 1, 1, 0, 0) from rfl) (hl9 1 _ rfl) ?_
      refine q_iload (show mE (mtv 83) 180 = some (.iload 4, 2, 0, 0) from rfl) (hl9 4 _ rfl) ?_
      refine q_staticP (show mE (mtv 83) 182 = some (.invokestatic 197, 3, 15, 0) from rfl) (by decide) rfl rfl rfl (fun _ g => sp_15 g) ?_
      refine q_virtualE (show mE (mtv 83) 185 = some (.invokevirtual 555, 3, 86, 8) from rfl) (by decide) rfl rfl rfl (fun _ g => sp_86 th g) ?_
      rintro _ ⟨j13, K17, h14, rfl, t15, e16⟩
      refine qK_n ?_
      refine q_iinc (show mE (mtv 83) 188 = some (.iinc 4 1, 3, 0, 0) from rfl) (Nat.le_of_ble_eq_true rfl) hl9 (hl9 4 _ rfl) kI_1 (fun lv18 (hl19 : qLs lv18 [some (.ref (0)), some (.int (x1)), some (.int (x2)), none, some (.int (x4 + (1 : Int32))), some (.int (xW (I (R (x4).toNatClampNeg) 1) x2 (0 : Int32)))]) => ?_)
      refine q_goto (t := 122) (show mE (mtv 83) 191 = some (.goto (-69), 3, 0, 0) from rfl) rfl ?_
      exact p2 c1 c4 bb5 d6 d7 j13 K17 h14 t15 e16 lv18 (qLs_wk hl19 (⟨rfl, rfl, rfl, rfl, trivial⟩))
    · refine q_aload_n (show mE (mtv 83) 136 = some (.aload_n 0, 1, 0, 0) from rfl) (hl 0 _ rfl) ?_
      refine q_getR (m := 13) th (show mE (mtv 83) 137 = some (.getfield 31, 3, 8, 3) from rfl) (by decide) rfl rfl ?_
      refine q_iload (show mE (mtv 83) 140 = some (.iload 4, 2, 0, 0) from rfl) (hl 4 _ rfl) ?_
      refine q_aaloadD th (show mE (mtv 83) 142 = some (.aaload, 1, 0, 0) from rfl) (fun bb20 d21 d22 => ?_)
      refine q_getI th (show mE (mtv 83) 143 = some (.getfield 185, 3, 1, 1) from rfl) (Nat.lt_of_le_of_lt d22 (by decide)) rfl ?_
      refine q_goto (t := 164) (show mE (mtv 83) 146 = some (.goto 18, 3, 0, 0) from rfl) rfl ?_
      refine q_istore (show mE (mtv 83) 164 = some (.istore 5, 2, 0, 0) from rfl) (Nat.le_of_ble_eq_true rfl) hl (fun lv23 (hl24 : qLs lv23 [some (.ref (0)), some (.int (x1)), some (.int (x2)), none, some (.int (x4)), some (.int (I (R (x4).toNatClampNeg) 1))]) => ?_)
      refine q_aload_n (show mE (mtv 83) 166 = some (.aload_n 0, 1, 0, 0) from rfl) (hl24 0 _ rfl) ?_
      refine q_aload_n (show mE (mtv 83) 167 = some (.aload_n 0, 1, 0, 0) from rfl) (hl24 0 _ rfl) ?_
      refine q_getR (m := 13) th (show mE (mtv 83) 168 = some (.getfield 31, 3, 8, 3) from rfl) (by decide) rfl rfl ?_
      refine q_iload (show mE (mtv 83) 171 = some (.iload 4, 2, 0, 0) from rfl) (hl24 4 _ rfl) ?_
      refine q_aaloadD th (show mE (mtv 83) 173 = some (.aaload, 1, 0, 0) from rfl) (fun bb25 d26 d27 => ?_)
      refine q_getI th (show mE (mtv 83) 174 = some (.getfield 273, 3, 1, 0) from rfl) (Nat.lt_of_le_of_lt d27 (by decide)) rfl ?_
      refine q_iload (show mE (mtv 83) 177 = some (.iload 5, 2, 0, 0) from rfl) (hl24 5 _ rfl) ?_
      refine q_iload_n (show mE (mtv 83) 179 = some (.iload_n 1, 1, 0, 0) from rfl) (hl24 1 _ rfl) ?_
      refine q_iload (show mE (mtv 83) 180 = some (.iload 4, 2, 0, 0) from rfl) (hl24 4 _ rfl) ?_
      refine q_staticP (show mE (mtv 83) 182 = some (.invokestatic 197, 3, 15, 0) from rfl) (by decide) rfl rfl rfl (fun _ g => sp_15 g) ?_
      refine q_virtualE (show mE (mtv 83) 185 = some (.invokevirtual 555, 3, 86, 8) from rfl) (by decide) rfl rfl rfl (fun _ g => sp_86 th g) ?_
      rintro _ ⟨j28, K32, h29, rfl, t30, e31⟩
      refine qK_n ?_
      refine q_iinc (show mE (mtv 83) 188 = some (.iinc 4 1, 3, 0, 0) from rfl) (Nat.le_of_ble_eq_true rfl) hl24 (hl24 4 _ rfl) kI_1 (fun lv33 (hl34 : qLs lv33 [some (.ref (0)), some (.int (x1)), some (.int (x2)), none, some (.int (x4 + (1 : Int32))), some (.int (I (R (x4).toNatClampNeg) 1))]) => ?_)
      refine q_goto (t := 122) (show mE (mtv 83) 191 = some (.goto (-69), 3, 0, 0) from rfl) rfl ?_
      exact p3 c1 c4 bb20 d21 d22 j28 K32 h29 t30 e31 lv33 (qLs_wk hl34 (⟨rfl, rfl, rfl, rfl, trivial⟩))
theorem lk_83c {I : Nat → Nat → Int32} {L : Nat → Nat → Int64} {R : Nat → Nat} {dset rep blk : Int32} : ∀ N J K j lv h, qH h J K R → j ≤ (I 0 10).toNatClampNeg → stp ((I 0 9).toNatClampNeg + (I 0 12).toNatClampNeg + j * (I 0 9).toNatClampNeg) j I L J K (fun x => srB1 I L (I 0 9).toNatClampNeg x ∨ srB2 L blk (I 0 12).toNatClampNeg x ∨ srB3 I L R dset rep j x) →
    qLs lv [some (.ref (0)), some (.int (dset)), some (.int (rep)), none, some (.int (Int32.ofNat j)), none] → qW 83 N 122 lv [] h (srQ I L R dset rep blk)
  | 0, _, _, _, _, _, _, _, _, _ => qW_0
  | N + 1, J, K, j, lv, h, th, hj, hs0, hl => by
    have bm := nn_lt (I 0 10)
    have f10 : J 0 10 = I 0 10 := hs0.1 0 10 (by omega)
    have f09 : J 0 9 = I 0 9 := hs0.1 0 9 (by omega)
    have fJ : ∀ a b, a ≠ 9 → J a b = I a b := fun a b q => hs0.1 a b (fun z => q z.1)
    have fK : ∀ i, K (19 + i) 0 = L (19 + i) 0 := fun i => hs0.2.1 _ _ (by omega)
    have go : ¬ J 0 10 ≤ Int32.ofNat j → j < (I 0 10).toNatClampNeg := fun c => by
      rw [f10] at c
      have := mt (le_oN (by omega)).mpr c
      omega
    have step : ∀ J' K' h' lv' ws, qH h' J' K' R → j < (I 0 10).toNatClampNeg → 35 ≤ R j → ws = wsD I R rep j → liP J K (J (R j) 0) ws (b2 (hs dset (Int32.ofNat j) = true)) J' K' → qLs lv' [some (.ref (0)), some (.int (dset)), some (.int (rep)), none, some (.int (Int32.ofNat j + (1 : Int32))), none] → qW 83 N 122 lv' [] h' (srQ I L R dset rep blk) := fun J' K' h' lv' ws t' hjl r35 hws e hl' => by
      rw [oN_s] at hl'
      refine lk_83c N J' K' (j + 1) lv' h' t' hjl (stp_w (stp_c hs0 e) ?_ (Nat.le_refl _) (fun x => ?_)) hl'
      · rw [f09, Nat.succ_mul]; omega
      · rw [liB_cg fJ fK, hws, fJ (R j) 0 (by omega), srB3_s]
        constructor
        · rintro ((q | q | q) | q)
          · exact .inl q
          · exact .inr (.inl q)
          · exact .inr (.inr (.inl q))
          · exact .inr (.inr (.inr q))
        · rintro (q | q | q | q)
          · exact .inl (.inl q)
          · exact .inl (.inr (.inl q))
          · exact .inl (.inr (.inr q))
          · exact .inr q
    refine qg_83_122 th hl (fun c1 v e => ⟨v, J, K, h, rfl, th, ?_, e⟩) (fun c1 c4 _ d6 d7 J' K' h' t' e lv' hl' => ?_) (fun c1 c4 _ d6 d7 J' K' h' t' e lv' hl' => ?_)
    · rw [f10] at c1
      have := (le_oN (by omega)).mp c1
      have ej : j = (I 0 10).toNatClampNeg := by omega
      subst ej
      exact hs0
    · have hjl := go c1
      rw [ofN_clamp (by omega)] at e d6
      refine step J' K' h' lv' _ t' hjl d6 ?_ e hl'
      unfold wsD
      rw [if_neg c4, fJ (R j) 1 (by omega)]
    · have hjl := go c1
      rw [ofN_clamp (by omega)] at e d6
      refine step J' K' h' lv' _ t' hjl d6 ?_ e hl'
      unfold wsD
      rw [if_pos c4, fJ (R j) 1 (by omega)]
theorem lk_83b {I : Nat → Nat → Int32} {L : Nat → Nat → Int64} {R : Nat → Nat} {dset rep blk : Int32} : ∀ N J K j lv h, qH h J K R → j ≤ (I 0 12).toNatClampNeg → stp ((I 0 9).toNatClampNeg + j) 0 I L J K (fun x => srB1 I L (I 0 9).toNatClampNeg x ∨ srB2 L blk j x) →
    qLs lv [some (.ref (0)), some (.int (dset)), some (.int (rep)), some (.int (blk)), some (.int (Int32.ofNat j)), none] → qW 83 N 84 lv [] h (srQ I L R dset rep blk)
  | 0, _, _, _, _, _, _, _, _, _ => qW_0
  | N + 1, J, K, j, lv, h, th, hj, hs0, hl => by
    have bm := nn_lt (I 0 12)
    have f12 : J 0 12 = I 0 12 := hs0.1 0 12 (by omega)
    have go : ¬ J 0 12 ≤ Int32.ofNat j → j < (I 0 12).toNatClampNeg := fun c => by
      rw [f12] at c
      have := mt (le_oN (by omega)).mpr c
      omega
    refine qg_83_84 th hl (fun c1 lv' hl' => ?_) (fun c1 c4 lv' hl' => ?_) (fun c1 c4 _ J' K' h' t' e lv' hl' => ?_)
    · rw [f12] at c1
      have := (le_oN (by omega)).mp c1
      have ej : j = (I 0 12).toNatClampNeg := by omega
      subst ej
      refine lk_83c N J K 0 lv' h th (Nat.zero_le _) (stp_w hs0 (by omega) (Nat.le_refl _) (fun x => ?_)) hl'
      constructor
      · rintro (q | q)
        · exact .inl q
        · exact .inr (.inl q)
      · rintro (q | q | ⟨d, q, _⟩)
        · exact .inl q
        · exact .inr q
        · exact absurd q (Nat.not_lt_zero d)
    · have hjl := go c1
      rw [oN_s] at hl'
      refine lk_83b N J K (j + 1) lv' h th hjl (stp_w hs0 (by omega) (Nat.le_refl _) (fun x => ?_)) hl'
      rw [srB2_s]
      simp only [c4, not_true_eq_false, false_and, or_false]
    · have hjl := go c1
      rw [oN_s] at hl'
      rw [ofN_clamp (by omega), hs0.2.1 15 j (by omega)] at e
      refine lk_83b N J' K' (j + 1) lv' h' t' hjl (stp_w (stp_c hs0 e) (by omega) (Nat.le_refl _) (fun x => ?_)) hl'
      rw [srB2_s]
      simp only [c4, not_false_eq_true, true_and]
      exact or_assoc
theorem lk_83a {I : Nat → Nat → Int32} {L : Nat → Nat → Int64} {R : Nat → Nat} {dset rep blk : Int32} : ∀ N J K j lv h, qH h J K R → j ≤ (I 0 9).toNatClampNeg → stp j 0 I L J K (srB1 I L j) →
    qLs lv [some (.ref (0)), some (.int (dset)), some (.int (rep)), some (.int (blk)), some (.int (Int32.ofNat j)), none] → qW 83 N 29 lv [] h (srQ I L R dset rep blk)
  | 0, _, _, _, _, _, _, _, _, _ => qW_0
  | N + 1, J, K, j, lv, h, th, hj, hs0, hl => by
    have bm := nn_lt (I 0 9)
    have f09 : J 0 9 = I 0 9 := hs0.1 0 9 (by omega)
    have f14 : J 1 4 = I 1 4 := hs0.1 1 4 (by omega)
    have go : ¬ J 0 9 ≤ Int32.ofNat j → j < (I 0 9).toNatClampNeg := fun c => by
      rw [f09] at c
      have := mt (le_oN (by omega)).mpr c
      omega
    refine qg_83_29 th hl (fun c1 lv' hl' => ?_) (fun c1 _ c4 lv' hl' => ?_) (fun c1 _ c4 J' K' h' t' e lv' hl' => ?_)
    · rw [f09] at c1
      have := (le_oN (by omega)).mp c1
      have ej : j = (I 0 9).toNatClampNeg := by omega
      subst ej
      refine lk_83b N J K 0 lv' h th (Nat.zero_le _) (stp_w hs0 (by omega) (Nat.le_refl _) (fun x => ?_)) hl'
      exact ⟨Or.inl, fun q => q.elim id (fun ⟨d, q, _⟩ => absurd q (Nat.not_lt_zero d))⟩
    · have hjl := go c1
      rw [oN_s] at hl'
      rw [ofN_clamp (by omega), hs0.1 (19 + j) 1 (by omega), f14] at c4
      refine lk_83a N J K (j + 1) lv' h th hjl (stp_w hs0 (by omega) (Nat.le_refl _) (fun x => ?_)) hl'
      rw [srB1_s]
      simp only [c4, false_and, or_false]
    · have hjl := go c1
      rw [oN_s] at hl'
      rw [ofN_clamp (by omega), hs0.1 (19 + j) 1 (by omega), f14] at c4
      rw [ofN_clamp (by omega), hs0.2.1 (19 + j) 0 (by omega)] at e
      refine lk_83a N J' K' (j + 1) lv' h' t' hjl (stp_w (stp_c hs0 e) (Nat.le_refl _) (Nat.le_refl _) (fun x => ?_)) hl'
      rw [srB1_s]
      simp only [c4, true_and]
/-- the key of a number may be taken -/
noncomputable def srOK (I : Nat → Nat → Int32) (L : Nat → Nat → Int64) (R : Nat → Nat) (dset rep blk : Int32) (bl : Int64) (m nc N : Nat) : Prop := nearF (I 1 3) m nc 0 N ∧ ∀ x, isCuts x (dg m nc N) nc → (∀ c, c < nc → byteL bl (Int32.ofNat c) = 0 ∨ lb bl (8 * c + dg m nc N c) = true) ∧ ¬ srB I L R dset rep blk x
noncomputable def srP (I : Nat → Nat → Int32) (L : Nat → Nat → Int64) (R : Nat → Nat) (dset rep blk : Int32) (J : Nat → Nat → Int32) (K : Nat → Nat → Int64) (v : Int64) : Prop := (∀ a b, a ≠ 9 → J a b = I a b) ∧ frL K L ∧ ∀ m nc, I 1 2 = Int32.ofNat m → I 1 1 = Int32.ofNat nc → 1 ≤ m → m ≤ 6 → 1 ≤ nc → nc ≤ 6 → (I 0 9).toNatClampNeg ≤ 16 → (I 0 12).toNatClampNeg ≤ 4 → (I 0 10).toNatClampNeg ≤ 10 → fst0 (srOK I L R dset rep blk (if blk = -1 then 0 else L 15 blk.toNatClampNeg) m nc) m nc v
theorem fst0_cg {f g : Nat → Prop} {m nc : Nat} {v : Int64} (h : ∀ N, N < m ^ nc → (f N ↔ g N)) (hf : fst0 f m nc v) : fst0 g m nc v := by
  rcases hf with ⟨e1, e2⟩ | ⟨e1, N, e2, e3, e4, e5⟩
  · exact .inl ⟨e1, fun N hN q => e2 N hN ((h N hN).mpr q)⟩
  · exact .inr ⟨e1, N, e2, (h N e2).mp e3, e4, fun N' hN q => e5 N' hN ((h N' (by omega)).mpr q)⟩
theorem srB_cg {I J : Nat → Nat → Int32} {K L : Nat → Nat → Int64} {R : Nat → Nat} {dset rep blk : Int32} {x : Int64} (hI : ∀ a b, a ≠ 9 → J a b = I a b) (hL : ∀ a b, ¬ (a = 9 ∧ b = 8) → K a b = L a b) (hR : ∀ d, d < (I 0 10).toNatClampNeg → R d ≠ 9) : srB J K R dset rep blk x ↔ srB I L R dset rep blk x := by
  unfold srB srB1 srB2 srB3
  rw [hI 0 9 (by decide), hI 0 10 (by decide), hI 0 12 (by decide), hI 1 4 (by decide)]
  have e1 : ∀ k, J (19 + k) 1 = I (19 + k) 1 := fun k => hI _ _ (by omega)
  have e2 : ∀ k, K (19 + k) 0 = L (19 + k) 0 := fun k => hL _ _ (by omega)
  have e3 : ∀ b, K 15 b = L 15 b := fun b => hL _ _ (by omega)
  simp only [e1, e2, e3, liB_cg hI e2]
  have e4 : (∃ d, d < (I 0 10).toNatClampNeg ∧ liB I L (J (R d) 0) (wsD J R rep d) (b2 (hs dset (Int32.ofNat d) = true)) x) ↔ ∃ d, d < (I 0 10).toNatClampNeg ∧ liB I L (I (R d) 0) (wsD I R rep d) (b2 (hs dset (Int32.ofNat d) = true)) x := by
    have e5 : ∀ d, d < (I 0 10).toNatClampNeg → J (R d) 0 = I (R d) 0 ∧ wsD J R rep d = wsD I R rep d := fun d hd => by
      refine ⟨hI _ _ (hR d hd), ?_⟩
      unfold wsD
      rw [hI _ _ (hR d hd)]
    constructor
    · rintro ⟨d, hd, q⟩
      rw [(e5 d hd).1, (e5 d hd).2] at q
      exact ⟨d, hd, q⟩
    · rintro ⟨d, hd, q⟩
      rw [← (e5 d hd).1, ← (e5 d hd).2] at q
      exact ⟨d, hd, q⟩
  rw [e4]
theorem qH_R {h : sH} {I : Nat → Nat → Int32} {L : Nat → Nat → Int64} {R : Nat → Nat} (th : qH h I L R) (d : Nat) : (d < 10 → 35 ≤ R d ∧ R d ≤ 44) ∧ R d ≠ 9 := by
  obtain ⟨⟨t1, t2, t3⟩, -, -, rfl⟩ := th
  have hl : 13 < h.length := by omega
  have hc := List.getElem?_eq_getElem hl
  obtain ⟨g1, g2⟩ := t2 13 _ (by decide) hc
  unfold vR
  rw [hc]
  generalize hcc : h[13] = c at g1 g2
  cases c with
  | inr q => exact absurd (congrArg Prod.fst g1) (by show ¬ (1 : Nat) = 0; decide)
  | inl q =>
    have e2 : (6 : Nat) = q.1 := congrArg (fun z : Nat × Nat × Nat => z.2.1) g1
    have e3 : (10 : Nat) = q.2.length := congrArg (fun z : Nat × Nat × Nat => z.2.2) g1
    show (d < 10 → 35 ≤ nOf (q.2.getD d .null) ∧ nOf (q.2.getD d .null) ≤ 44) ∧ nOf (q.2.getD d .null) ≠ 9
    rw [List.getD_eq_getElem?_getD]
    by_cases hd : d < 10
    · have e4 := List.getElem?_eq_getElem (show d < q.2.length by omega)
      have g3 := g2 d _ e4
      rw [e4]
      have e0 : tTy (.inl q) d = .object (sNm 1) := by
        show sTy q.1 = _
        rw [← e2]; rfl
      rw [e0] at g3
      obtain ⟨k, hk, k1, k2⟩ := g3
      have k1 : 35 ≤ k := k1
      have k2 : k ≤ 44 := k2
      rw [hk]
      show (d < 10 → 35 ≤ k ∧ k ≤ 44) ∧ k ≠ 9
      exact ⟨fun _ => ⟨k1, k2⟩, fun e => by rw [e] at k1; exact absurd k1 (by decide)⟩
    · rw [List.getElem?_eq_none (by omega)]
      exact ⟨fun z => absurd z hd, by show (0 : Nat) ≠ 9; decide⟩
theorem sp_83 {h : sH} {r : sR} {dset rep blk : Int32} {I : Nat → Nat → Int32} {L : Nat → Nat → Int64} {R : Nat → Nat} (th : qH h I L R) (g : qGo 83 [.ref (0), .int dset, .int rep, .int blk] h r) : ∃ v J K h1, r = (.inl (some (.long v)), h1) ∧ qH h1 J K R ∧ srP I L R dset rep blk J K v := by
  have hR : ∀ d, d < (I 0 10).toNatClampNeg → R d ≠ 9 := fun d _ => (qH_R th d).2
  have main : ∀ J K bl h1 N lv, (bl = if blk = -1 then 0 else L 15 blk.toNatClampNeg) → qH h1 J K R → beP I L bl J K → qLs lv [some (.ref (0)), some (.int (dset)), some (.int (rep)), some (.int (blk)), some (.int ((0 : Int32))), none] → qW 83 N 29 lv [] h1 (fun r => ∃ v J K h1, r = (.inl (some (.long v)), h1) ∧ qH h1 J K R ∧ srP I L R dset rep blk J K v) := fun J K bl h1 N lv hbl t1 hb hl => by
    obtain ⟨b2', b3, b4, b5, b6, b7, bI, bL, bA⟩ := hb
    refine qW_mono ?_ (lk_83a (I := J) (L := K) N J K 0 lv h1 t1 (Nat.zero_le _) (stp_w stp_0 (Nat.le_refl _) (Nat.le_refl _) (fun x => ⟨False.elim, fun ⟨k, q, _⟩ => absurd q (Nat.not_lt_zero k)⟩)) hl)
    rintro r ⟨v, J', K', h2, q1, q2, ⟨s1, s2, s3, s4⟩, q4⟩
    refine ⟨v, J', K', h2, q1, q2, fun a b q => (s1 a b (fun z => q z.1)).trans (bI a b q), fun a b q => (s2 a b q).trans (bL a b (fun z => q (.inr (.inr z)))), fun m nc em ec m1 m6 n1 n6 c16 c4 c10 => ?_⟩
    rw [bI 0 9 (by decide), bI 0 10 (by decide), bI 0 12 (by decide)] at s4
    have hnk : (I 0 10).toNatClampNeg * (I 0 9).toNatClampNeg ≤ 10 * 16 := Nat.mul_le_mul c10 c16
    obtain ⟨r1, k1, a1, a2, a3, a4, a5⟩ := s4 0 0 b2' b3 (by omega) (by omega)
    have g5 : J' 9 5 = I 1 1 := (s1 9 5 (by omega)).trans b5
    have g6 : J' 9 6 = I 1 2 := (s1 9 6 (by omega)).trans b6
    have g7 : J' 9 7 = I 1 3 := (s1 9 7 (by omega)).trans b7
    have al := bA nc m ec em n6 m6
    have hbd : ∀ n, 8 * nc ≤ n → lb (K' 9 8) n = false := fun n hn => by
      refine Bool.eq_false_iff.mpr (fun q => ?_)
      have q := s3 n q
      have e : n = 8 * (n / 8) + n % 8 := by omega
      rw [e] at q
      have := ((al _ _ (Nat.mod_lt _ (by decide))).mp q).1.1
      omega
    refine fst0_cg (fun N hN => ?_) (q4 m nc (g6.trans em) (g5.trans ec) m1 m6 n1 n6 hbd)
    unfold goodF srOK gdN
    rw [g7]
    refine and_congr_right (fun _ => forall_congr' (fun x => imp_congr_right (fun hx => ?_)))
    have d8 : ∀ c, dg m nc N c < 8 := fun c => Nat.lt_of_lt_of_le (dg_lt (by omega)) (by omega)
    rw [a5 x, srB_cg bI bL hR, hbl.symm]
    have hb0 : badV J K x ↔ ¬ ∀ c, c < nc → byteL bl (Int32.ofNat c) = 0 ∨ lb bl (8 * c + dg m nc N c) = true := by
      unfold badV
      rw [b2', b3, b4, letIn_c hx n6 (fun c _ => d8 c)]
      have z : (0 : Int32).toNatClampNeg = 0 := rfl
      rw [z]
      have e : (∀ c, c < nc → lb (K 9 8) (8 * c + dg m nc N c) = true) ↔ ∀ c, c < nc → byteL bl (Int32.ofNat c) = 0 ∨ lb bl (8 * c + dg m nc N c) = true :=
        forall_congr' (fun c => imp_congr_right (fun hc => by
          rw [al c _ (d8 c)]
          exact ⟨fun q => q.2, fun q => ⟨⟨hc, dg_lt (by omega)⟩, q⟩⟩))
      rw [e]
      constructor
      · rintro (q | ⟨i, q, _⟩ | ⟨i, q, _⟩ | q)
        · exact absurd rfl q
        · exact absurd q (Nat.not_lt_zero i)
        · exact absurd q (Nat.not_lt_zero i)
        · exact q
      · exact fun q => .inr (.inr (.inr q))
    rw [hb0]
    constructor
    · intro q
      exact ⟨Classical.byContradiction (fun z => q (.inl z)), fun z => q (.inr z)⟩
    · rintro ⟨q1, q2⟩ (z | z)
      · exact z q1
      · exact q2 z
  refine qg_83 (Q := fun r => ∃ v J K h1, r = (.inl (some (.long v)), h1) ∧ qH h1 J K R ∧ srP I L R dset rep blk J K v) th g (fun c1 _ J K h1 t1 e N lv hl => main J K _ h1 N lv (by rw [if_neg c1]) t1 e hl) (fun c1 J K h1 t1 e N lv hl => main J K _ h1 N lv (by rw [if_pos c1]) t1 e hl)
end
section
/-! part 66: the search of the model -/
theorem oN_div {a b : Nat} (ha : a < 2147483648) (hb : b < 2147483648) : Int32.ofNat a / Int32.ofNat b = Int32.ofNat (a / b) := by
  have hne : Int32.ofNat b ≠ -1 := fun e => by
    have := congrArg Int32.toInt e
    rw [ofN_toInt hb] at this
    have h1 : (-1 : Int32).toInt = -1 := rfl
    omega
  have hd : a / b < 2147483648 := Nat.lt_of_le_of_lt (Nat.div_le_self a b) ha
  apply Int32.toInt_inj.mp
  rw [Int32.toInt_div_of_ne_right _ _ hne, ofN_toInt ha, ofN_toInt hb, ofN_toInt hd]
  exact (Int.ofNat_tdiv a b).symm
theorem oN_rem {a b : Nat} (ha : a < 2147483648) (hb : b < 2147483648) : Int32.ofNat a - Int32.ofNat a / Int32.ofNat b * Int32.ofNat b = Int32.ofNat (a % b) := by
  rw [oN_div ha hb, ← Int32.ofNat_mul]
  have h1 := Nat.div_add_mod a b
  rw [Nat.mul_comm] at h1
  rw [oN_sub (by omega)]
  congr 1
  omega
theorem hs_oN {x : Int32} {d : Nat} (hd : d < 32) : hs x (Int32.ofNat d) = tb x d := by unfold hs tb; rw [shD_nat hd]
/-- the depths that are tried may be side by side -/
theorem sem_240 {I : Nat → Nat → Int32} : ∀ m j, 1 ≤ j → j + m < 2147483648 → (G_240 I j m = true ↔ ∀ i, j ≤ i → i < j + m → T_213 (I 91 i - I 91 (i - 1)) ≤ I 85 33)
  | 0, j, _, _ => ⟨fun _ i h1 h2 => absurd h2 (by omega), fun _ => rfl⟩
  | m + 1, j, h1, hb => by
    have ih := sem_240 (I := I) m (j + 1) (by omega) (by omega)
    unfold G_240
    rw [oN_q h1, ofN_clamp (by omega), ofN_clamp (by omega)]
    by_cases g : T_213 (I 91 j - I 91 (j - 1)) ≤ I 85 33
    · rw [if_pos g, ih]
      constructor
      · intro q i h2 h3
        by_cases e : i = j
        · rw [e]; exact g
        · exact q i (by omega) (by omega)
      · intro q i h2 h3
        exact q i (by omega) (by omega)
    · rw [if_neg g]
      exact ⟨fun q => (by cases q), fun q => absurd (q j (Nat.le_refl _) (by omega)) g⟩
theorem sem_242 {I : Nat → Nat → Int32} {b : Nat} (hb : b < 100) : ∀ m j, j + m < 1000 → (G_242 I (Int32.ofNat b) j m = true ↔ ∀ c, j ≤ c → c < j + m → I 105 (6 * b + c) = I 91 c)
  | 0, j, _ => ⟨fun _ i h1 h2 => absurd h2 (by omega), fun _ => rfl⟩
  | m + 1, j, hm => by
    have ih := sem_242 (I := I) hb m (j + 1) (by omega)
    unfold G_242
    rw [oN_6, ofN_clamp (by omega), ofN_clamp (by omega)]
    by_cases g : I 105 (6 * b + j) = I 91 j
    · rw [if_pos g, ih]
      constructor
      · intro q i h2 h3
        by_cases e : i = j
        · rw [e]; exact g
        · exact q i (by omega) (by omega)
      · intro q i h2 h3
        exact q i (by omega) (by omega)
    · rw [if_neg g]
      exact ⟨fun q => (by cases q), fun q => absurd (q j (Nat.le_refl _) (by omega)) g⟩
noncomputable def mntB (I : Nat → Nat → Int32) (b : Int32) : Bool := if b = -1 then (List.range (I 85 46).toNatClampNeg).all (fun o => !G_242 I (Int32.ofNat o) 0 (I 104 o).toNatClampNeg) else G_242 I b 0 (I 104 b.toNatClampNeg).toNatClampNeg
theorem lk_241 {h : sH} {I : Nat → Nat → Int32} {L : Nat → Nat → Int64} {R : Nat → Nat} (th : qH h I L R) : ∀ N j lv, j ≤ (I 85 46).toNatClampNeg → (∀ o, o < j → G_242 I (Int32.ofNat o) 0 (I 104 o).toNatClampNeg = false) → qLs lv [some (.ref (85)), none, some (.int (Int32.ofNat j))] → qW 241 N 13 lv [] h (fun r => r = (.inl (some (.int (b2 (mntB I (-1) = true)))), h))
  | 0, _, _, _, _, _ => qW_0
  | N + 1, j, lv, hj, hn, hl => by
    have bm := nn_lt (I 85 46)
    refine qg_241_13 th hl (fun c1 => ?_) (fun c1 c2 lv' hl' => ?_) (fun c1 c2 => ?_)
    · have := (le_oN (by omega)).mp c1
      show _ = _
      rw [b2_t]
      unfold mntB
      rw [if_pos rfl]
      refine List.all_eq_true.mpr (fun o ho => ?_)
      rw [hn o (by have := List.mem_range.mp ho; omega)]; rfl
    · have := mt (le_oN (by omega)).mpr c1
      rw [oN_s] at hl'
      rw [ofN_clamp (by omega)] at c2
      refine lk_241 th N (j + 1) lv' (by omega) (fun o ho => ?_) hl'
      by_cases e : o = j
      · rw [e]; exact Bool.eq_false_iff.mpr c2
      · exact hn o (by omega)
    · have := mt (le_oN (by omega)).mpr c1
      rw [ofN_clamp (by omega)] at c2
      show _ = _
      rw [b2_f]
      unfold mntB
      rw [if_pos rfl]
      intro q
      have := List.all_eq_true.mp q j (List.mem_range.mpr (by omega))
      rw [c2] at this
      cases this
theorem sp_241 {h : sH} {r : sR} {b : Int32} {I : Nat → Nat → Int32} {L : Nat → Nat → Int64} {R : Nat → Nat} (th : qH h I L R) (g : qGo 241 [.ref (85), .int b] h r) : r = (.inl (some (.int (b2 (mntB I b = true)))), h) := by
  refine qg_241 (Q := fun r => r = _) th g (fun c1 N lv hl => ?_) (fun c1 => ?_)
  · subst c1
    exact lk_241 th N 0 lv (Nat.zero_le _) (fun o ho => absurd ho (Nat.not_lt_zero o)) hl
  · show _ = _
    unfold mntB
    rw [if_neg c1]
noncomputable def smP (I : Nat → Nat → Int32) (v : Int32) : Prop := ∀ nk nc, I 85 35 = Int32.ofNat nk → I 85 31 = Int32.ofNat nc → nk ≤ 16 → nc ≤ 6 → (v = -1 ∧ ∀ i, i < nk → ¬ sameM I nc i) ∨ ∃ i, i < nk ∧ sameM I nc i ∧ v = Int32.ofNat i
theorem sp_217 {h : sH} {r : sR} {I : Nat → Nat → Int32} {L : Nat → Nat → Int64} {R : Nat → Nat} (th : qH h I L R) (g : qGo 217 [.ref (85)] h r) : ∃ v, r = (.inl (some (.int v)), h) ∧ smP I v := by
  refine qg_217 (Q := fun r => ∃ v, r = (.inl (some (.int v)), h) ∧ smP I v) g (fun N lv hl => ?_)
  refine qW_mono ?_ ((fl_217 N).1 0 0 0 lv h th hl)
  intro r ⟨n, x, e, q⟩
  exact ⟨x, q, fun nk nc hk hc bk bc => (sem_217 hk hc bk bc n).1 0 0 0 x (Nat.zero_le _) (fun i hi => absurd hi (Nat.not_lt_zero i)) e⟩
/-- a depth that the pins of a door let in; .. or the tried key, if it is for this door -/
noncomputable def pinQ (I : Nat → Nat → Int32) (d c e : Nat) : Prop := ∃ i, i < nkI I ∧ tb (I 88 i) d = true ∧ I 86 (6 * i + c) = Int32.ofNat e
noncomputable def pq (I : Nat → Nat → Int32) (D : Int32) (t : Nat → Nat) (d c e : Nat) : Prop := pinQ I d c e ∨ (tb D d = true ∧ t c = e)
noncomputable def fB (I : Nat → Nat → Int32) (d : Nat) : Prop := (I 85 43 &&& I 97 d) = 0
/-- with the tried key, no door is amiss -/
noncomputable def cl1 (I : Nat → Nat → Int32) (D : Int32) (d : Nat) : Prop := tb D d = true → fB I d
noncomputable def cl2 (I : Nat → Nat → Int32) (D : Int32) (t : Nat → Nat) (d : Nat) : Prop := ¬ (tb D d = false ∧ fB I d ∧ ∀ c, c < ncI I → pinQ I d c (t c))
noncomputable def cl3 (I : Nat → Nat → Int32) (D : Int32) (t : Nat → Nat) (d : Nat) : Prop := I 85 47 = 0 → ∀ c, c < ncI I → ∀ e, e < 8 → ¬ (pq I D t d c e ∧ pq I D t d c (e + 1))
noncomputable def cl4 (I : Nat → Nat → Int32) (D : Int32) (t : Nat → Nat) (d k : Nat) : Prop := (I 95 k &&& I 97 d) = 0 → (∀ c, c < ncI I → pq I D t d c (dpM I k c)) → tb (I 88 k) d = true
noncomputable def clnD (I : Nat → Nat → Int32) (D : Int32) (t : Nat → Nat) (d : Nat) : Prop := cl1 I D d ∧ cl2 I D t d ∧ cl3 I D t d ∧ ∀ k, k < nkI I → cl4 I D t d k
noncomputable def clnM (I : Nat → Nat → Int32) (D : Int32) (t : Nat → Nat) : Prop := ∀ d, d < ndI I → clnD I D t d
/-- thin chambers, counted -/
theorem cnt_244 {I : Nat → Nat → Int32} : ∀ m j a, j + m < 1000 → ∃ b, G_244 I j (Int32.ofNat a) m = Int32.ofNat b ∧ a ≤ b ∧ b ≤ a + m ∧ (b = a ↔ ∀ c, j ≤ c → c < j + m → (I 106 c &&& (I 106 c >>> ((1 : Int32) &&& 31))) = 0)
  | 0, j, a, _ => ⟨a, rfl, Nat.le_refl _, Nat.le_refl _, ⟨fun _ c h1 h2 => absurd h2 (by omega), fun _ => rfl⟩⟩
  | m + 1, j, a, hm => by
    unfold G_244
    rw [ofN_clamp (by omega)]
    by_cases g : (I 106 j &&& (I 106 j >>> ((1 : Int32) &&& 31))) = 0
    · rw [if_pos g, Int32.add_zero]
      obtain ⟨b, e1, e2, e3, e4⟩ := cnt_244 (I := I) m (j + 1) a (by omega)
      refine ⟨b, e1, e2, by omega, e4.trans ⟨fun q c h1 h2 => ?_, fun q c h1 h2 => q c (by omega) (by omega)⟩⟩
      by_cases e : c = j
      · rw [e]; exact g
      · exact q c (by omega) (by omega)
    · rw [if_neg g, oN_s]
      obtain ⟨b, e1, e2, e3, e4⟩ := cnt_244 (I := I) m (j + 1) (a + 1) (by omega)
      exact ⟨b, e1, by omega, by omega, ⟨fun q => absurd q (by omega), fun q => absurd (q j (Nat.le_refl _) (by omega)) g⟩⟩
theorem thin_0 {I : Nat → Nat → Int32} {m : Nat} (hm : m < 1000) : G_244 I 0 0 m ≤ 0 ↔ ∀ c, c < m → (I 106 c &&& (I 106 c >>> ((1 : Int32) &&& 31))) = 0 := by
  obtain ⟨b, e1, e2, e3, e4⟩ := cnt_244 (I := I) m 0 0 (by omega)
  have e1 : G_244 I 0 0 m = Int32.ofNat b := e1
  rw [e1]
  have h1 := oN_le (a := b) (b := 0) (by omega) (by decide)
  constructor
  · intro q c hc
    have := h1.mp q
    exact e4.mp (by omega) c (Nat.zero_le _) (by omega)
  · intro q
    exact h1.mpr (Nat.le_of_eq (e4.mpr (fun c _ h2 => q c (by omega))))
theorem tb_sar {x : Int32} {e : Nat} (he : e < 31) : tb (x >>> ((1 : Int32) &&& 31)) e = tb x (e + 1) := by
  show (x.toBitVec.sshiftRight' (((1 : Int32).toBitVec &&& 31#32).smod 32)).getLsbD e = _
  rw [BitVec.getLsbD_sshiftRight', sh_smod, show shD (1 : Int32) = 1 from rfl, if_pos (by omega)]
  simp [tb, show e < 32 by omega, Nat.add_comm]
/-- no two depths that differ by one -/
theorem thin_b {x : Int32} (h : ∀ e, 8 ≤ e → tb x e = false) : (x &&& (x >>> ((1 : Int32) &&& 31))) = 0 ↔ ∀ e, ¬ (tb x e = true ∧ tb x (e + 1) = true) := by
  constructor
  · intro g e ⟨q1, q2⟩
    have he : e < 8 := by
      apply Decidable.of_not_not
      intro n
      rw [h e (by omega)] at q1
      cases q1
    have := congrArg (fun z => tb z e) g
    simp only [tb_and, tb_0, tb_sar (show e < 31 by omega), q1, q2] at this
    cases this
  · intro g
    apply tb_ext
    intro e he
    rw [tb_and, tb_0]
    by_cases h8 : e < 8
    · rw [tb_sar (by omega)]
      have := g e
      cases q1 : tb x e with
      | false => rfl
      | true =>
        cases q2 : tb x (e + 1) with
        | false => rfl
        | true => exact absurd ⟨q1, q2⟩ this
    · rw [h e (by omega), Bool.false_and]
theorem qg_243 {h : sH} {r : sR} {Q : sR → Prop} {a0 : Int32} (g : qGo 243 [.ref (85), .int (a0)] h r)
    (p1 : ∀ N lv, qLs lv [some (.ref (85)), some (.int (a0)), some (.int ((0 : Int32))), none, none, none] → qW 243 N 2 lv [] h Q) : Q r := by
  refine qGo_w g (fun N => ?_)
  have hl0 : qLs (lv_args 0 [.ref (85), .int (a0)]) [some (.ref (85)), some (.int (a0)), none, none, none, none] := qLs_ar 4
  refine q_iconst (show mE (mtv 243) 0 = some (.iconst 0, 1, 0, 0) from rfl) kI_0 ?_
  refine q_istore_n (show mE (mtv 243) 1 = some (.istore_n 2, 1, 0, 0) from rfl) (Nat.le_of_ble_eq_true rfl) hl0 (fun lv1 (hl2 : qLs lv1 [some (.ref (85)), some (.int (a0)), some (.int ((0 : Int32))), none, none, none]) => ?_)
  exact p1 _ lv1 (qLs_wk hl2 (⟨rfl, rfl, rfl, trivial⟩))
theorem qg_243_2 {N : Nat} {lv : sL} {h : sH} {Q : sR → Prop} {x1 : Int32} {x2 : Int32} {I : Nat → Nat → Int32} {L : Nat → Nat → Int64} {R : Nat → Nat} (th : qH h I L R) (hl : qLs lv [some (.ref (85)), some (.int (x1)), some (.int (x2)), none, none, none])
    (p1 : ∀ (c1 : (I 85 36) ≤ x2), Q (.inl (some (.int ((1 : Int32)))), h))
    (p2 : ∀ (c1 : ¬ (I 85 36) ≤ x2), ∀ (j2 : Nat → Nat → Int32), ∀ (h3 : sH), ∀ (t4 : qH h3 j2 L R), ∀ (e5 : layP I x2 j2), ∀ (c6 : ¬ (hs x1 x2 = true)), ∀ (bb9 : sIn x2 10 = true), ∀ (c10 : ¬ ((j2 85 43) &&& (j2 97 ((x2).toNatClampNeg))) = 0), ∀ lv, qLs lv [some (.ref (85)), some (.int (x1)), some (.int (x2)), some (.int ((0 : Int32))), some (.int ((0 : Int32))), some (.int ((0 : Int32)))] → qW 243 N 65 lv [] h3 Q)
    (p3 : ∀ (c1 : ¬ (I 85 36) ≤ x2), ∀ (j2 : Nat → Nat → Int32), ∀ (h3 : sH), ∀ (t4 : qH h3 j2 L R), ∀ (e5 : layP I x2 j2), ∀ (c6 : ¬ (hs x1 x2 = true)), ∀ (bb9 : sIn x2 10 = true), ∀ (c10 : ((j2 85 43) &&& (j2 97 ((x2).toNatClampNeg))) = 0), ∀ lv, qLs lv [some (.ref (85)), some (.int (x1)), some (.int (x2)), some (.int ((0 : Int32))), some (.int ((1 : Int32))), some (.int ((0 : Int32)))] → qW 243 N 65 lv [] h3 Q)
    (p4 : ∀ (c1 : ¬ (I 85 36) ≤ x2), ∀ (j2 : Nat → Nat → Int32), ∀ (h3 : sH), ∀ (t4 : qH h3 j2 L R), ∀ (e5 : layP I x2 j2), ∀ (c6 : hs x1 x2 = true), ∀ (bb21 : sIn x2 10 = true), ∀ (c22 : ¬ ((j2 85 43) &&& (j2 97 ((x2).toNatClampNeg))) = 0), Q (.inl (some (.int ((0 : Int32)))), h3))
    (p5 : ∀ (c1 : ¬ (I 85 36) ≤ x2), ∀ (j2 : Nat → Nat → Int32), ∀ (h3 : sH), ∀ (t4 : qH h3 j2 L R), ∀ (e5 : layP I x2 j2), ∀ (c6 : hs x1 x2 = true), ∀ (bb21 : sIn x2 10 = true), ∀ (c22 : ((j2 85 43) &&& (j2 97 ((x2).toNatClampNeg))) = 0), ∀ lv, qLs lv [some (.ref (85)), some (.int (x1)), some (.int (x2)), some (.int ((1 : Int32))), some (.int ((1 : Int32))), some (.int ((0 : Int32)))] → qW 243 N 65 lv [] h3 Q) : qW 243 (N + 1) 2 lv [] h Q := by
  refine q1_iload_n (show mE (mtv 243) 2 = some (.iload_n 2, 1, 0, 0) from rfl) (hl 2 _ rfl) ?_
  refine q_aload_n (show mE (mtv 243) 3 = some (.aload_n 0, 1, 0, 0) from rfl) (hl 0 _ rfl) ?_
  refine q_getI th (show mE (mtv 243) 4 = some (.getfield 120, 3, 9, 36) from rfl) (by decide) rfl ?_
  refine q_ic_ge (t := 211) (show mE (mtv 243) 7 = some (.if_icmp .ge 204, 3, 0, 0) from rfl) rfl (fun c1 => ?_) (fun c1 => ?_)
  · refine q_iconst (show mE (mtv 243) 211 = some (.iconst 1, 1, 0, 0) from rfl) kI_1 ?_
    refine q_ireturn (show mE (mtv 243) 212 = some (.ireturn, 1, 0, 0) from rfl) ?_
    exact p1 c1
  · refine q_aload_n (show mE (mtv 243) 10 = some (.aload_n 0, 1, 0, 0) from rfl) (hl 0 _ rfl) ?_
    refine q_iload_n (show mE (mtv 243) 11 = some (.iload_n 2, 1, 0, 0) from rfl) (hl 2 _ rfl) ?_
    refine q_virtualE (show mE (mtv 243) 12 = some (.invokevirtual 192, 3, 229, 9) from rfl) (by decide) rfl rfl rfl (fun _ g => sp_229 th g) ?_
    rintro _ ⟨j2, h3, rfl, t4, e5⟩
    refine qK_n ?_
    refine q_iload_n (show mE (mtv 243) 15 = some (.iload_n 1, 1, 0, 0) from rfl) (hl 1 _ rfl) ?_
    refine q_iload_n (show mE (mtv 243) 16 = some (.iload_n 2, 1, 0, 0) from rfl) (hl 2 _ rfl) ?_
    refine q_ishr (show mE (mtv 243) 17 = some (.ishr, 1, 0, 0) from rfl) ?_
    refine q_iconst (show mE (mtv 243) 18 = some (.iconst 1, 1, 0, 0) from rfl) kI_1 ?_
    refine q_iand (show mE (mtv 243) 19 = some (.iand, 1, 0, 0) from rfl) ?_
    rw [hs_is]
    refine q_iconst (show mE (mtv 243) 20 = some (.iconst 1, 1, 0, 0) from rfl) kI_1 ?_
    refine q_icb_ne (t := 28) (show mE (mtv 243) 21 = some (.if_icmp .ne 7, 3, 0, 0) from rfl) rfl (fun c6 => ?_) (fun c6 => ?_)
    · refine q_iconst (show mE (mtv 243) 28 = some (.iconst 0, 1, 0, 0) from rfl) kI_0 ?_
      refine q_istore_n (show mE (mtv 243) 29 = some (.istore_n 3, 1, 0, 0) from rfl) (Nat.le_of_ble_eq_true rfl) hl (fun lv7 (hl8 : qLs lv7 [some (.ref (85)), some (.int (x1)), some (.int (x2)), some (.int ((0 : Int32))), none, none]) => ?_)
      refine q_aload_n (show mE (mtv 243) 30 = some (.aload_n 0, 1, 0, 0) from rfl) (hl8 0 _ rfl) ?_
      refine q_getI t4 (show mE (mtv 243) 31 = some (.getfield 141, 3, 9, 43) from rfl) (by decide) rfl ?_
      refine q_aload_n (show mE (mtv 243) 34 = some (.aload_n 0, 1, 0, 0) from rfl) (hl8 0 _ rfl) ?_
      refine q_getR (m := 97) t4 (show mE (mtv 243) 35 = some (.getfield 44, 3, 9, 11) from rfl) (by decide) rfl rfl ?_
      refine q_iload_n (show mE (mtv 243) 38 = some (.iload_n 2, 1, 0, 0) from rfl) (hl8 2 _ rfl) ?_
      refine q_iaload (n := 10) t4 (show mE (mtv 243) 39 = some (.iaload, 1, 0, 0) from rfl) (by decide) rfl (fun bb9 => ?_)
      refine q_iand (show mE (mtv 243) 40 = some (.iand, 1, 0, 0) from rfl) ?_
      refine q_if_ne (t := 48) (show mE (mtv 243) 41 = some (.ifCond .ne 7, 3, 0, 0) from rfl) rfl (fun c10 => ?_) (fun c10 => ?_)
      · refine q_iconst (show mE (mtv 243) 48 = some (.iconst 0, 1, 0, 0) from rfl) kI_0 ?_
        refine q_istore (show mE (mtv 243) 49 = some (.istore 4, 2, 0, 0) from rfl) (Nat.le_of_ble_eq_true rfl) hl8 (fun lv11 (hl12 : qLs lv11 [some (.ref (85)), some (.int (x1)), some (.int (x2)), some (.int ((0 : Int32))), some (.int ((0 : Int32))), none]) => ?_)
        refine q_iload_n (show mE (mtv 243) 51 = some (.iload_n 3, 1, 0, 0) from rfl) (hl12 3 _ rfl) ?_
        refine q_ift (t := 62) (show mE (mtv 243) 52 = some (.ifCond .eq 10, 3, 0, 0) from rfl) (by decide) rfl ?_
        refine q_iconst (show mE (mtv 243) 62 = some (.iconst 0, 1, 0, 0) from rfl) kI_0 ?_
        refine q_istore (show mE (mtv 243) 63 = some (.istore 5, 2, 0, 0) from rfl) (Nat.le_of_ble_eq_true rfl) hl12 (fun lv13 (hl14 : qLs lv13 [some (.ref (85)), some (.int (x1)), some (.int (x2)), some (.int ((0 : Int32))), some (.int ((0 : Int32))), some (.int ((0 : Int32)))]) => ?_)
        exact p2 c1 j2 h3 t4 e5 c6 bb9 c10 lv13 (qLs_wk hl14 (⟨rfl, rfl, rfl, rfl, rfl, rfl, trivial⟩))
      · refine q_iconst (show mE (mtv 243) 44 = some (.iconst 1, 1, 0, 0) from rfl) kI_1 ?_
        refine q_goto (t := 49) (show mE (mtv 243) 45 = some (.goto 4, 3, 0, 0) from rfl) rfl ?_
        refine q_istore (show mE (mtv 243) 49 = some (.istore 4, 2, 0, 0) from rfl) (Nat.le_of_ble_eq_true rfl) hl8 (fun lv15 (hl16 : qLs lv15 [some (.ref (85)), some (.int (x1)), some (.int (x2)), some (.int ((0 : Int32))), some (.int ((1 : Int32))), none]) => ?_)
        refine q_iload_n (show mE (mtv 243) 51 = some (.iload_n 3, 1, 0, 0) from rfl) (hl16 3 _ rfl) ?_
        refine q_ift (t := 62) (show mE (mtv 243) 52 = some (.ifCond .eq 10, 3, 0, 0) from rfl) (by decide) rfl ?_
        refine q_iconst (show mE (mtv 243) 62 = some (.iconst 0, 1, 0, 0) from rfl) kI_0 ?_
        refine q_istore (show mE (mtv 243) 63 = some (.istore 5, 2, 0, 0) from rfl) (Nat.le_of_ble_eq_true rfl) hl16 (fun lv17 (hl18 : qLs lv17 [some (.ref (85)), some (.int (x1)), some (.int (x2)), some (.int ((0 : Int32))), some (.int ((1 : Int32))), some (.int ((0 : Int32)))]) => ?_)
        exact p3 c1 j2 h3 t4 e5 c6 bb9 c10 lv17 (qLs_wk hl18 (⟨rfl, rfl, rfl, rfl, rfl, rfl, trivial⟩))
    · refine q_iconst (show mE (mtv 243) 24 = some (.iconst 1, 1, 0, 0) from rfl) kI_1 ?_
      refine q_goto (t := 29) (show mE (mtv 243) 25 = some (.goto 4, 3, 0, 0) from rfl) rfl ?_
      refine q_istore_n (show mE (mtv 243) 29 = some (.istore_n 3, 1, 0, 0) from rfl) (Nat.le_of_ble_eq_true rfl) hl (fun lv19 (hl20 : qLs lv19 [some (.ref (85)), some (.int (x1)), some (.int (x2)), some (.int ((1 : Int32))), none, none]) => ?_)
      refine q_aload_n (show mE (mtv 243) 30 = some (.aload_n 0, 1, 0, 0) from rfl) (hl20 0 _ rfl) ?_
      refine q_getI t4 (show mE (mtv 243) 31 = some (.getfield 141, 3, 9, 43) from rfl) (by decide) rfl ?_
      refine q_aload_n (show mE (mtv 243) 34 = some (.aload_n 0, 1, 0, 0) from rfl) (hl20 0 _ rfl) ?_
      refine q_getR (m := 97) t4 (show mE (mtv 243) 35 = some (.getfield 44, 3, 9, 11) from rfl) (by decide) rfl rfl ?_
      refine q_iload_n (show mE (mtv 243) 38 = some (.iload_n 2, 1, 0, 0) from rfl) (hl20 2 _ rfl) ?_
      refine q_iaload (n := 10) t4 (show mE (mtv 243) 39 = some (.iaload, 1, 0, 0) from rfl) (by decide) rfl (fun bb21 => ?_)
      refine q_iand (show mE (mtv 243) 40 = some (.iand, 1, 0, 0) from rfl) ?_
      refine q_if_ne (t := 48) (show mE (mtv 243) 41 = some (.ifCond .ne 7, 3, 0, 0) from rfl) rfl (fun c22 => ?_) (fun c22 => ?_)
      · refine q_iconst (show mE (mtv 243) 48 = some (.iconst 0, 1, 0, 0) from rfl) kI_0 ?_
        refine q_istore (show mE (mtv 243) 49 = some (.istore 4, 2, 0, 0) from rfl) (Nat.le_of_ble_eq_true rfl) hl20 (fun lv23 (hl24 : qLs lv23 [some (.ref (85)), some (.int (x1)), some (.int (x2)), some (.int ((1 : Int32))), some (.int ((0 : Int32))), none]) => ?_)
        refine q_iload_n (show mE (mtv 243) 51 = some (.iload_n 3, 1, 0, 0) from rfl) (hl24 3 _ rfl) ?_
        refine q_iff (t := 62) (show mE (mtv 243) 52 = some (.ifCond .eq 10, 3, 0, 0) from rfl) (by decide) rfl ?_
        refine q_iload (show mE (mtv 243) 55 = some (.iload 4, 2, 0, 0) from rfl) (hl24 4 _ rfl) ?_
        refine q_iff (t := 62) (show mE (mtv 243) 57 = some (.ifCond .ne 5, 3, 0, 0) from rfl) (by decide) rfl ?_
        refine q_iconst (show mE (mtv 243) 60 = some (.iconst 0, 1, 0, 0) from rfl) kI_0 ?_
        refine q_ireturn (show mE (mtv 243) 61 = some (.ireturn, 1, 0, 0) from rfl) ?_
        exact p4 c1 j2 h3 t4 e5 c6 bb21 c22
      · refine q_iconst (show mE (mtv 243) 44 = some (.iconst 1, 1, 0, 0) from rfl) kI_1 ?_
        refine q_goto (t := 49) (show mE (mtv 243) 45 = some (.goto 4, 3, 0, 0) from rfl) rfl ?_
        refine q_istore (show mE (mtv 243) 49 = some (.istore 4, 2, 0, 0) from rfl) (Nat.le_of_ble_eq_true rfl) hl20 (fun lv25 (hl26 : qLs lv25 [some (.ref (85)), some (.int (x1)), some (.int (x2)), some (.int ((1 : Int32))), some (.int ((1 : Int32))), none]) => ?_)
        refine q_iload_n (show mE (mtv 243) 51 = some (.iload_n 3, 1, 0, 0) from rfl) (hl26 3 _ rfl) ?_
        refine q_iff (t := 62) (show mE (mtv 243) 52 = some (.ifCond .eq 10, 3, 0, 0) from rfl) (by decide) rfl ?_
        refine q_iload (show mE (mtv 243) 55 = some (.iload 4, 2, 0, 0) from rfl) (hl26 4 _ rfl) ?_
        refine q_ift (t := 62) (show mE (mtv 243) 57 = some (.ifCond .ne 5, 3, 0, 0) from rfl) (by decide) rfl ?_
        refine q_iconst (show mE (mtv 243) 62 = some (.iconst 0, 1, 0, 0) from rfl) kI_0 ?_
        refine q_istore (show mE (mtv 243) 63 = some (.istore 5, 2, 0, 0) from rfl) (Nat.le_of_ble_eq_true rfl) hl26 (fun lv27 (hl28 : qLs lv27 [some (.ref (85)), some (.int (x1)), some (.int (x2)), some (.int ((1 : Int32))), some (.int ((1 : Int32))), some (.int ((0 : Int32)))]) => ?_)
        exact p5 c1 j2 h3 t4 e5 c6 bb21 c22 lv27 (qLs_wk hl28 (⟨rfl, rfl, rfl, rfl, rfl, rfl, trivial⟩))
theorem qg_243_65 {N : Nat} {lv : sL} {h : sH} {Q : sR → Prop} {x1 : Int32} {x2 : Int32} {x3 : Int32} {x4 : Int32} {x5 : Int32} {I : Nat → Nat → Int32} {L : Nat → Nat → Int64} {R : Nat → Nat} (th : qH h I L R) (hl : qLs lv [some (.ref (85)), some (.int (x1)), some (.int (x2)), some (.int (x3)), some (.int (x4)), some (.int (x5))])
    (p1 : ∀ (c1 : (I 85 31) ≤ x5), ∀ (c2 : x4 = 0), ∀ (z3 : I 85 47 = 0 ∨ I 85 47 = 1), ∀ (c4 : ¬ (I 85 47) = 0), ∀ lv, qLs lv [some (.ref (85)), some (.int (x1)), some (.int (x2)), none, none, some (.int ((0 : Int32)))] → qW 243 N 164 lv [] h Q)
    (p2 : ∀ (c1 : (I 85 31) ≤ x5), ∀ (c2 : x4 = 0), ∀ (z3 : I 85 47 = 0 ∨ I 85 47 = 1), ∀ (c4 : (I 85 47) = 0), ∀ (c7 : (G_244 I 0 ((0 : Int32)) ((I 85 31)).toNatClampNeg) ≤ 0), ∀ lv, qLs lv [some (.ref (85)), some (.int (x1)), some (.int (x2)), none, none, some (.int ((0 : Int32)))] → qW 243 N 164 lv [] h Q)
    (p3 : ∀ (c1 : (I 85 31) ≤ x5), ∀ (c2 : x4 = 0), ∀ (z3 : I 85 47 = 0 ∨ I 85 47 = 1), ∀ (c4 : (I 85 47) = 0), ∀ (c7 : ¬ (G_244 I 0 ((0 : Int32)) ((I 85 31)).toNatClampNeg) ≤ 0), Q (.inl (some (.int ((0 : Int32)))), h))
    (p4 : ∀ (c1 : (I 85 31) ≤ x5), ∀ (c2 : ¬ x4 = 0), ∀ (c10 : x3 = 0), Q (.inl (some (.int ((0 : Int32)))), h))
    (p5 : ∀ (c1 : (I 85 31) ≤ x5), ∀ (c2 : ¬ x4 = 0), ∀ (c10 : ¬ x3 = 0), ∀ (z11 : I 85 47 = 0 ∨ I 85 47 = 1), ∀ (c12 : ¬ (I 85 47) = 0), ∀ lv, qLs lv [some (.ref (85)), some (.int (x1)), some (.int (x2)), none, none, some (.int ((0 : Int32)))] → qW 243 N 164 lv [] h Q)
    (p6 : ∀ (c1 : (I 85 31) ≤ x5), ∀ (c2 : ¬ x4 = 0), ∀ (c10 : ¬ x3 = 0), ∀ (z11 : I 85 47 = 0 ∨ I 85 47 = 1), ∀ (c12 : (I 85 47) = 0), ∀ (c15 : (G_244 I 0 ((0 : Int32)) ((I 85 31)).toNatClampNeg) ≤ 0), ∀ lv, qLs lv [some (.ref (85)), some (.int (x1)), some (.int (x2)), none, none, some (.int ((0 : Int32)))] → qW 243 N 164 lv [] h Q)
    (p7 : ∀ (c1 : (I 85 31) ≤ x5), ∀ (c2 : ¬ x4 = 0), ∀ (c10 : ¬ x3 = 0), ∀ (z11 : I 85 47 = 0 ∨ I 85 47 = 1), ∀ (c12 : (I 85 47) = 0), ∀ (c15 : ¬ (G_244 I 0 ((0 : Int32)) ((I 85 31)).toNatClampNeg) ≤ 0), Q (.inl (some (.int ((0 : Int32)))), h))
    (p8 : ∀ (c1 : ¬ (I 85 31) ≤ x5), ∀ (c18 : x3 = 0), ∀ (c19 : x4 = 0), ∀ lv, qLs lv [some (.ref (85)), some (.int (x1)), some (.int (x2)), some (.int (x3)), some (.int ((0 : Int32))), some (.int (x5 + (1 : Int32)))] → qW 243 N 65 lv [] h Q)
    (p9 : ∀ (c1 : ¬ (I 85 31) ≤ x5), ∀ (c18 : x3 = 0), ∀ (c19 : ¬ x4 = 0), ∀ (bb24 : sIn x5 6 = true), ∀ (c26 : ¬ (hs (I 106 ((x5).toNatClampNeg)) (I 91 ((x5).toNatClampNeg)) = true)), ∀ lv, qLs lv [some (.ref (85)), some (.int (x1)), some (.int (x2)), some (.int (x3)), some (.int ((0 : Int32))), some (.int (x5 + (1 : Int32)))] → qW 243 N 65 lv [] h Q)
    (p10 : ∀ (c1 : ¬ (I 85 31) ≤ x5), ∀ (c18 : x3 = 0), ∀ (c19 : ¬ x4 = 0), ∀ (bb24 : sIn x5 6 = true), ∀ (c26 : hs (I 106 ((x5).toNatClampNeg)) (I 91 ((x5).toNatClampNeg)) = true), ∀ lv, qLs lv [some (.ref (85)), some (.int (x1)), some (.int (x2)), some (.int (x3)), some (.int ((1 : Int32))), some (.int (x5 + (1 : Int32)))] → qW 243 N 65 lv [] h Q)
    (p11 : ∀ (c1 : ¬ (I 85 31) ≤ x5), ∀ (c18 : ¬ x3 = 0), ∀ (bb35 : sIn x5 6 = true), ∀ (h38 : sH), ∀ (t39 : qH h38 (upI I 106 ((x5).toNatClampNeg) ((I 106 ((x5).toNatClampNeg)) ||| ((1 : Int32) <<< ((I 91 ((x5).toNatClampNeg)) &&& 31)))) L R), ∀ (c40 : x4 = 0), ∀ lv, qLs lv [some (.ref (85)), some (.int (x1)), some (.int (x2)), some (.int (x3)), some (.int ((0 : Int32))), some (.int (x5 + (1 : Int32)))] → qW 243 N 65 lv [] h38 Q)
    (p12 : ∀ (c1 : ¬ (I 85 31) ≤ x5), ∀ (c18 : ¬ x3 = 0), ∀ (bb35 : sIn x5 6 = true), ∀ (h38 : sH), ∀ (t39 : qH h38 (upI I 106 ((x5).toNatClampNeg) ((I 106 ((x5).toNatClampNeg)) ||| ((1 : Int32) <<< ((I 91 ((x5).toNatClampNeg)) &&& 31)))) L R), ∀ (c40 : ¬ x4 = 0), ∀ (c49 : ¬ (hs ((I 106 ((x5).toNatClampNeg)) ||| ((1 : Int32) <<< ((I 91 ((x5).toNatClampNeg)) &&& 31))) (I 91 ((x5).toNatClampNeg)) = true)), ∀ lv, qLs lv [some (.ref (85)), some (.int (x1)), some (.int (x2)), some (.int (x3)), some (.int ((0 : Int32))), some (.int (x5 + (1 : Int32)))] → qW 243 N 65 lv [] h38 Q)
    (p13 : ∀ (c1 : ¬ (I 85 31) ≤ x5), ∀ (c18 : ¬ x3 = 0), ∀ (bb35 : sIn x5 6 = true), ∀ (h38 : sH), ∀ (t39 : qH h38 (upI I 106 ((x5).toNatClampNeg) ((I 106 ((x5).toNatClampNeg)) ||| ((1 : Int32) <<< ((I 91 ((x5).toNatClampNeg)) &&& 31)))) L R), ∀ (c40 : ¬ x4 = 0), ∀ (c49 : hs ((I 106 ((x5).toNatClampNeg)) ||| ((1 : Int32) <<< ((I 91 ((x5).toNatClampNeg)) &&& 31))) (I 91 ((x5).toNatClampNeg)) = true), ∀ lv, qLs lv [some (.ref (85)), some (.int (x1)), some (.int (x2)), some (.int (x3)), some (.int ((1 : Int32))), some (.int (x5 + (1 : Int32)))] → qW 243 N 65 lv [] h38 Q) : qW 243 (N + 1) 65 lv [] h Q := by
  refine q1_iload (show mE (mtv 243) 65 = some (.iload 5, 2, 0, 0) from rfl) (hl 5 _ rfl) ?_
  refine q_aload_n (show mE (mtv 243) 67 = some (.aload_n 0, 1, 0, 0) from rfl) (hl 0 _ rfl) ?_
  refine q_getI th (show mE (mtv 243) 68 = some (.getfield 104, 3, 9, 31) from rfl) (by decide) rfl ?_
  refine q_ic_ge (t := 136) (show mE (mtv 243) 71 = some (.if_icmp .ge 65, 3, 0, 0) from rfl) rfl (fun c1 => ?_) (fun c1 => ?_)
  · refine q_iload (show mE (mtv 243) 136 = some (.iload 4, 2, 0, 0) from rfl) (hl 4 _ rfl) ?_
    refine q_if_eq (t := 145) (show mE (mtv 243) 138 = some (.ifCond .eq 7, 3, 0, 0) from rfl) rfl (fun c2 => ?_) (fun c2 => ?_)
    · refine q_aload_n (show mE (mtv 243) 145 = some (.aload_n 0, 1, 0, 0) from rfl) (hl 0 _ rfl) ?_
      refine q_getB th (show mE (mtv 243) 146 = some (.getfield 153, 3, 9, 47) from rfl) (by decide) rfl (fun z3 => ?_)
      refine q_if_ne (t := 161) (show mE (mtv 243) 149 = some (.ifCond .ne 12, 3, 0, 0) from rfl) rfl (fun c4 => ?_) (fun c4 => ?_)
      · refine q_iconst (show mE (mtv 243) 161 = some (.iconst 0, 1, 0, 0) from rfl) kI_0 ?_
        refine q_istore (show mE (mtv 243) 162 = some (.istore 5, 2, 0, 0) from rfl) (Nat.le_of_ble_eq_true rfl) hl (fun lv5 (hl6 : qLs lv5 [some (.ref (85)), some (.int (x1)), some (.int (x2)), some (.int (x3)), some (.int (x4)), some (.int ((0 : Int32)))]) => ?_)
        exact p1 c1 c2 z3 c4 lv5 (qLs_wk hl6 (⟨rfl, rfl, rfl, rfl, trivial⟩))
      · refine q_aload_n (show mE (mtv 243) 152 = some (.aload_n 0, 1, 0, 0) from rfl) (hl 0 _ rfl) ?_
        refine q_virtualP (show mE (mtv 243) 153 = some (.invokevirtual 211, 3, 244, 9) from rfl) (by decide) rfl rfl rfl (fun _ g => sp_244 th g) ?_
        refine q_if_le (t := 161) (show mE (mtv 243) 156 = some (.ifCond .le 5, 3, 0, 0) from rfl) rfl (fun c7 => ?_) (fun c7 => ?_)
        · refine q_iconst (show mE (mtv 243) 161 = some (.iconst 0, 1, 0, 0) from rfl) kI_0 ?_
          refine q_istore (show mE (mtv 243) 162 = some (.istore 5, 2, 0, 0) from rfl) (Nat.le_of_ble_eq_true rfl) hl (fun lv8 (hl9 : qLs lv8 [some (.ref (85)), some (.int (x1)), some (.int (x2)), some (.int (x3)), some (.int (x4)), some (.int ((0 : Int32)))]) => ?_)
          exact p2 c1 c2 z3 c4 c7 lv8 (qLs_wk hl9 (⟨rfl, rfl, rfl, rfl, trivial⟩))
        · refine q_iconst (show mE (mtv 243) 159 = some (.iconst 0, 1, 0, 0) from rfl) kI_0 ?_
          refine q_ireturn (show mE (mtv 243) 160 = some (.ireturn, 1, 0, 0) from rfl) ?_
          exact p3 c1 c2 z3 c4 c7
    · refine q_iload_n (show mE (mtv 243) 141 = some (.iload_n 3, 1, 0, 0) from rfl) (hl 3 _ rfl) ?_
      refine q_if_eq (t := 159) (show mE (mtv 243) 142 = some (.ifCond .eq 17, 3, 0, 0) from rfl) rfl (fun c10 => ?_) (fun c10 => ?_)
      · refine q_iconst (show mE (mtv 243) 159 = some (.iconst 0, 1, 0, 0) from rfl) kI_0 ?_
        refine q_ireturn (show mE (mtv 243) 160 = some (.ireturn, 1, 0, 0) from rfl) ?_
        exact p4 c1 c2 c10
      · refine q_aload_n (show mE (mtv 243) 145 = some (.aload_n 0, 1, 0, 0) from rfl) (hl 0 _ rfl) ?_
        refine q_getB th (show mE (mtv 243) 146 = some (.getfield 153, 3, 9, 47) from rfl) (by decide) rfl (fun z11 => ?_)
        refine q_if_ne (t := 161) (show mE (mtv 243) 149 = some (.ifCond .ne 12, 3, 0, 0) from rfl) rfl (fun c12 => ?_) (fun c12 => ?_)
        · refine q_iconst (show mE (mtv 243) 161 = some (.iconst 0, 1, 0, 0) from rfl) kI_0 ?_
          refine q_istore (show mE (mtv 243) 162 = some (.istore 5, 2, 0, 0) from rfl) (Nat.le_of_ble_eq_true rfl) hl (fun lv13 (hl14 : qLs lv13 [some (.ref (85)), some (.int (x1)), some (.int (x2)), some (.int (x3)), some (.int (x4)), some (.int ((0 : Int32)))]) => ?_)
          exact p5 c1 c2 c10 z11 c12 lv13 (qLs_wk hl14 (⟨rfl, rfl, rfl, rfl, trivial⟩))
        · refine q_aload_n (show mE (mtv 243) 152 = some (.aload_n 0, 1, 0, 0) from rfl) (hl 0 _ rfl) ?_
          refine q_virtualP (show mE (mtv 243) 153 = some (.invokevirtual 211, 3, 244, 9) from rfl) (by decide) rfl rfl rfl (fun _ g => sp_244 th g) ?_
          refine q_if_le (t := 161) (show mE (mtv 243) 156 = some (.ifCond .le 5, 3, 0, 0) from rfl) rfl (fun c15 => ?_) (fun c15 => ?_)
          · refine q_iconst (show mE (mtv 243) 161 = some (.iconst 0, 1, 0, 0) from rfl) kI_0 ?_
            refine q_istore (show mE (mtv 243) 162 = some (.istore 5, 2, 0, 0) from rfl) (Nat.le_of_ble_eq_true rfl) hl (fun lv16 (hl17 : qLs lv16 [some (.ref (85)), some (.int (x1)), some (.int (x2)), some (.int (x3)), some (.int (x4)), some (.int ((0 : Int32)))]) => ?_)
            exact p6 c1 c2 c10 z11 c12 c15 lv16 (qLs_wk hl17 (⟨rfl, rfl, rfl, rfl, trivial⟩))
          · refine q_iconst (show mE (mtv 243) 159 = some (.iconst 0, 1, 0, 0) from rfl) kI_0 ?_
            refine q_ireturn (show mE (mtv 243) 160 = some (.ireturn, 1, 0, 0) from rfl) ?_
            exact p7 c1 c2 c10 z11 c12 c15
  · refine q_iload_n (show mE (mtv 243) 74 = some (.iload_n 3, 1, 0, 0) from rfl) (hl 3 _ rfl) ?_
    refine q_if_eq (t := 97) (show mE (mtv 243) 75 = some (.ifCond .eq 22, 3, 0, 0) from rfl) rfl (fun c18 => ?_) (fun c18 => ?_)
    · refine q_iload (show mE (mtv 243) 97 = some (.iload 4, 2, 0, 0) from rfl) (hl 4 _ rfl) ?_
      refine q_if_eq (t := 127) (show mE (mtv 243) 99 = some (.ifCond .eq 28, 3, 0, 0) from rfl) rfl (fun c19 => ?_) (fun c19 => ?_)
      · refine q_iconst (show mE (mtv 243) 127 = some (.iconst 0, 1, 0, 0) from rfl) kI_0 ?_
        refine q_istore (show mE (mtv 243) 128 = some (.istore 4, 2, 0, 0) from rfl) (Nat.le_of_ble_eq_true rfl) hl (fun lv20 (hl21 : qLs lv20 [some (.ref (85)), some (.int (x1)), some (.int (x2)), some (.int (x3)), some (.int ((0 : Int32))), some (.int (x5))]) => ?_)
        refine q_iinc (show mE (mtv 243) 130 = some (.iinc 5 1, 3, 0, 0) from rfl) (Nat.le_of_ble_eq_true rfl) hl21 (hl21 5 _ rfl) kI_1 (fun lv22 (hl23 : qLs lv22 [some (.ref (85)), some (.int (x1)), some (.int (x2)), some (.int (x3)), some (.int ((0 : Int32))), some (.int (x5 + (1 : Int32)))]) => ?_)
        refine q_goto (t := 65) (show mE (mtv 243) 133 = some (.goto (-68), 3, 0, 0) from rfl) rfl ?_
        exact p8 c1 c18 c19 lv22 (qLs_wk hl23 (⟨rfl, rfl, rfl, rfl, rfl, rfl, trivial⟩))
      · refine q_aload_n (show mE (mtv 243) 102 = some (.aload_n 0, 1, 0, 0) from rfl) (hl 0 _ rfl) ?_
        refine q_getR (m := 106) th (show mE (mtv 243) 103 = some (.getfield 71, 3, 9, 20) from rfl) (by decide) rfl rfl ?_
        refine q_iload (show mE (mtv 243) 106 = some (.iload 5, 2, 0, 0) from rfl) (hl 5 _ rfl) ?_
        refine q_iaload (n := 6) th (show mE (mtv 243) 108 = some (.iaload, 1, 0, 0) from rfl) (by decide) rfl (fun bb24 => ?_)
        refine q_aload_n (show mE (mtv 243) 109 = some (.aload_n 0, 1, 0, 0) from rfl) (hl 0 _ rfl) ?_
        refine q_getR (m := 91) th (show mE (mtv 243) 110 = some (.getfield 25, 3, 9, 5) from rfl) (by decide) rfl rfl ?_
        refine q_iload (show mE (mtv 243) 113 = some (.iload 5, 2, 0, 0) from rfl) (hl 5 _ rfl) ?_
        refine q_iaload (n := 6) th (show mE (mtv 243) 115 = some (.iaload, 1, 0, 0) from rfl) (by decide) rfl (fun bb25 => ?_)
        refine q_ishr (show mE (mtv 243) 116 = some (.ishr, 1, 0, 0) from rfl) ?_
        refine q_iconst (show mE (mtv 243) 117 = some (.iconst 1, 1, 0, 0) from rfl) kI_1 ?_
        refine q_iand (show mE (mtv 243) 118 = some (.iand, 1, 0, 0) from rfl) ?_
        rw [hs_is]
        refine q_iconst (show mE (mtv 243) 119 = some (.iconst 1, 1, 0, 0) from rfl) kI_1 ?_
        refine q_icb_ne (t := 127) (show mE (mtv 243) 120 = some (.if_icmp .ne 7, 3, 0, 0) from rfl) rfl (fun c26 => ?_) (fun c26 => ?_)
        · refine q_iconst (show mE (mtv 243) 127 = some (.iconst 0, 1, 0, 0) from rfl) kI_0 ?_
          refine q_istore (show mE (mtv 243) 128 = some (.istore 4, 2, 0, 0) from rfl) (Nat.le_of_ble_eq_true rfl) hl (fun lv27 (hl28 : qLs lv27 [some (.ref (85)), some (.int (x1)), some (.int (x2)), some (.int (x3)), some (.int ((0 : Int32))), some (.int (x5))]) => ?_)
          refine q_iinc (show mE (mtv 243) 130 = some (.iinc 5 1, 3, 0, 0) from rfl) (Nat.le_of_ble_eq_true rfl) hl28 (hl28 5 _ rfl) kI_1 (fun lv29 (hl30 : qLs lv29 [some (.ref (85)), some (.int (x1)), some (.int (x2)), some (.int (x3)), some (.int ((0 : Int32))), some (.int (x5 + (1 : Int32)))]) => ?_)
          refine q_goto (t := 65) (show mE (mtv 243) 133 = some (.goto (-68), 3, 0, 0) from rfl) rfl ?_
          exact p9 c1 c18 c19 bb24 c26 lv29 (qLs_wk hl30 (⟨rfl, rfl, rfl, rfl, rfl, rfl, trivial⟩))
        · refine q_iconst (show mE (mtv 243) 123 = some (.iconst 1, 1, 0, 0) from rfl) kI_1 ?_
          refine q_goto (t := 128) (show mE (mtv 243) 124 = some (.goto 4, 3, 0, 0) from rfl) rfl ?_
          refine q_istore (show mE (mtv 243) 128 = some (.istore 4, 2, 0, 0) from rfl) (Nat.le_of_ble_eq_true rfl) hl (fun lv31 (hl32 : qLs lv31 [some (.ref (85)), some (.int (x1)), some (.int (x2)), some (.int (x3)), some (.int ((1 : Int32))), some (.int (x5))]) => ?_)
          refine q_iinc (show mE (mtv 243) 130 = some (.iinc 5 1, 3, 0, 0) from rfl) (Nat.le_of_ble_eq_true rfl) hl32 (hl32 5 _ rfl) kI_1 (fun lv33 (hl34 : qLs lv33 [some (.ref (85)), some (.int (x1)), some (.int (x2)), some (.int (x3)), some (.int ((1 : Int32))), some (.int (x5 + (1 : Int32)))]) => ?_)
          refine q_goto (t := 65) (show mE (mtv 243) 133 = some (.goto (-68), 3, 0, 0) from rfl) rfl ?_
          exact p10 c1 c18 c19 bb24 c26 lv33 (qLs_wk hl34 (⟨rfl, rfl, rfl, rfl, rfl, rfl, trivial⟩))
    · refine q_aload_n (show mE (mtv 243) 78 = some (.aload_n 0, 1, 0, 0) from rfl) (hl 0 _ rfl) ?_
      refine q_getR (m := 106) th (show mE (mtv 243) 79 = some (.getfield 71, 3, 9, 20) from rfl) (by decide) rfl rfl ?_
      refine q_iload (show mE (mtv 243) 82 = some (.iload 5, 2, 0, 0) from rfl) (hl 5 _ rfl) ?_
      refine q_dup2 (show mE (mtv 243) 84 = some (.dup2, 1, 0, 0) from rfl) ?_
      refine q_iaload (n := 6) th (show mE (mtv 243) 85 = some (.iaload, 1, 0, 0) from rfl) (by decide) rfl (fun bb35 => ?_)
      refine q_iconst (show mE (mtv 243) 86 = some (.iconst 1, 1, 0, 0) from rfl) kI_1 ?_
      refine q_aload_n (show mE (mtv 243) 87 = some (.aload_n 0, 1, 0, 0) from rfl) (hl 0 _ rfl) ?_
      refine q_getR (m := 91) th (show mE (mtv 243) 88 = some (.getfield 25, 3, 9, 5) from rfl) (by decide) rfl rfl ?_
      refine q_iload (show mE (mtv 243) 91 = some (.iload 5, 2, 0, 0) from rfl) (hl 5 _ rfl) ?_
      refine q_iaload (n := 6) th (show mE (mtv 243) 93 = some (.iaload, 1, 0, 0) from rfl) (by decide) rfl (fun bb36 => ?_)
      refine q_ishl (show mE (mtv 243) 94 = some (.ishl, 1, 0, 0) from rfl) ?_
      refine q_ior (show mE (mtv 243) 95 = some (.ior, 1, 0, 0) from rfl) ?_
      refine q_iastore (n := 6) th (show mE (mtv 243) 96 = some (.iastore, 1, 0, 0) from rfl) (by decide) rfl (fun bb37 h38 t39 => ?_)
      refine q_iload (show mE (mtv 243) 97 = some (.iload 4, 2, 0, 0) from rfl) (hl 4 _ rfl) ?_
      refine q_if_eq (t := 127) (show mE (mtv 243) 99 = some (.ifCond .eq 28, 3, 0, 0) from rfl) rfl (fun c40 => ?_) (fun c40 => ?_)
      · refine q_iconst (show mE (mtv 243) 127 = some (.iconst 0, 1, 0, 0) from rfl) kI_0 ?_
        refine q_istore (show mE (mtv 243) 128 = some (.istore 4, 2, 0, 0) from rfl) (Nat.le_of_ble_eq_true rfl) hl (fun lv41 (hl42 : qLs lv41 [some (.ref (85)), some (.int (x1)), some (.int (x2)), some (.int (x3)), some (.int ((0 : Int32))), some (.int (x5))]) => ?_)
        refine q_iinc (show mE (mtv 243) 130 = some (.iinc 5 1, 3, 0, 0) from rfl) (Nat.le_of_ble_eq_true rfl) hl42 (hl42 5 _ rfl) kI_1 (fun lv43 (hl44 : qLs lv43 [some (.ref (85)), some (.int (x1)), some (.int (x2)), some (.int (x3)), some (.int ((0 : Int32))), some (.int (x5 + (1 : Int32)))]) => ?_)
        refine q_goto (t := 65) (show mE (mtv 243) 133 = some (.goto (-68), 3, 0, 0) from rfl) rfl ?_
        exact p11 c1 c18 bb35 h38 t39 c40 lv43 (qLs_wk hl44 (⟨rfl, rfl, rfl, rfl, rfl, rfl, trivial⟩))
      · refine q_aload_n (show mE (mtv 243) 102 = some (.aload_n 0, 1, 0, 0) from rfl) (hl 0 _ rfl) ?_
        refine q_getR (m := 106) t39 (show mE (mtv 243) 103 = some (.getfield 71, 3, 9, 20) from rfl) (by decide) rfl rfl ?_
        refine q_iload (show mE (mtv 243) 106 = some (.iload 5, 2, 0, 0) from rfl) (hl 5 _ rfl) ?_
        refine q_iaload (n := 6) t39 (show mE (mtv 243) 108 = some (.iaload, 1, 0, 0) from rfl) (by decide) rfl (fun bb45 => ?_)
        have g46 : (upI I 106 ((x5).toNatClampNeg) ((I 106 ((x5).toNatClampNeg)) ||| ((1 : Int32) <<< ((I 91 ((x5).toNatClampNeg)) &&& 31)))) 106 (x5).toNatClampNeg = (I 106 ((x5).toNatClampNeg)) ||| ((1 : Int32) <<< ((I 91 ((x5).toNatClampNeg)) &&& 31)) := upI_s
        rw [g46]; clear g46
        refine q_aload_n (show mE (mtv 243) 109 = some (.aload_n 0, 1, 0, 0) from rfl) (hl 0 _ rfl) ?_
        refine q_getR (m := 91) t39 (show mE (mtv 243) 110 = some (.getfield 25, 3, 9, 5) from rfl) (by decide) rfl rfl ?_
        refine q_iload (show mE (mtv 243) 113 = some (.iload 5, 2, 0, 0) from rfl) (hl 5 _ rfl) ?_
        refine q_iaload (n := 6) t39 (show mE (mtv 243) 115 = some (.iaload, 1, 0, 0) from rfl) (by decide) rfl (fun bb47 => ?_)
        have g48 : (upI I 106 ((x5).toNatClampNeg) ((I 106 ((x5).toNatClampNeg)) ||| ((1 : Int32) <<< ((I 91 ((x5).toNatClampNeg)) &&& 31)))) 91 (x5).toNatClampNeg = I 91 ((x5).toNatClampNeg) := upI_n (Or.inl (by decide))
        rw [g48]; clear g48
        refine q_ishr (show mE (mtv 243) 116 = some (.ishr, 1, 0, 0) from rfl) ?_
        refine q_iconst (show mE (mtv 243) 117 = some (.iconst 1, 1, 0, 0) from rfl) kI_1 ?_
        refine q_iand (show mE (mtv 243) 118 = some (.iand, 1, 0, 0) from rfl) ?_
        rw [hs_is]
        refine q_iconst (show mE (mtv 243) 119 = some (.iconst 1, 1, 0, 0) from rfl) kI_1 ?_
        refine q_icb_ne (t := 127) (show mE (mtv 243) 120 = some (.if_icmp .ne 7, 3, 0, 0) from rfl) rfl (fun c49 => ?_) (fun c49 => ?_)
        · refine q_iconst (show mE (mtv 243) 127 = some (.iconst 0, 1, 0, 0) from rfl) kI_0 ?_
          refine q_istore (show mE (mtv 243) 128 = some (.istore 4, 2, 0, 0) from rfl) (Nat.le_of_ble_eq_true rfl) hl (fun lv50 (hl51 : qLs lv50 [some (.ref (85)), some (.int (x1)), some (.int (x2)), some (.int (x3)), some (.int ((0 : Int32))), some (.int (x5))]) => ?_)
          refine q_iinc (show mE (mtv 243) 130 = some (.iinc 5 1, 3, 0, 0) from rfl) (Nat.le_of_ble_eq_true rfl) hl51 (hl51 5 _ rfl) kI_1 (fun lv52 (hl53 : qLs lv52 [some (.ref (85)), some (.int (x1)), some (.int (x2)), some (.int (x3)), some (.int ((0 : Int32))), some (.int (x5 + (1 : Int32)))]) => ?_)
          refine q_goto (t := 65) (show mE (mtv 243) 133 = some (.goto (-68), 3, 0, 0) from rfl) rfl ?_
          exact p12 c1 c18 bb35 h38 t39 c40 c49 lv52 (qLs_wk hl53 (⟨rfl, rfl, rfl, rfl, rfl, rfl, trivial⟩))
        · refine q_iconst (show mE (mtv 243) 123 = some (.iconst 1, 1, 0, 0) from rfl) kI_1 ?_
          refine q_goto (t := 128) (show mE (mtv 243) 124 = some (.goto 4, 3, 0, 0) from rfl) rfl ?_
          refine q_istore (show mE (mtv 243) 128 = some (.istore 4, 2, 0, 0) from rfl) (Nat.le_of_ble_eq_true rfl) hl (fun lv54 (hl55 : qLs lv54 [some (.ref (85)), some (.int (x1)), some (.int (x2)), some (.int (x3)), some (.int ((1 : Int32))), some (.int (x5))]) => ?_)
          refine q_iinc (show mE (mtv 243) 130 = some (.iinc 5 1, 3, 0, 0) from rfl) (Nat.le_of_ble_eq_true rfl) hl55 (hl55 5 _ rfl) kI_1 (fun lv56 (hl57 : qLs lv56 [some (.ref (85)), some (.int (x1)), some (.int (x2)), some (.int (x3)), some (.int ((1 : Int32))), some (.int (x5 + (1 : Int32)))]) => ?_)
          refine q_goto (t := 65) (show mE (mtv 243) 133 = some (.goto (-68), 3, 0, 0) from rfl) rfl ?_
          exact p13 c1 c18 bb35 h38 t39 c40 c49 lv56 (qLs_wk hl57 (⟨rfl, rfl, rfl, rfl, rfl, rfl, trivial⟩))
theorem qg_243_164 {N : Nat} {lv : sL} {h : sH} {Q : sR → Prop} {x1 : Int32} {x2 : Int32} {x5 : Int32} {I : Nat → Nat → Int32} {L : Nat → Nat → Int64} {R : Nat → Nat} (th : qH h I L R) (hl : qLs lv [some (.ref (85)), some (.int (x1)), some (.int (x2)), none, none, some (.int (x5))])
    (p1 : ∀ (c1 : (I 85 35) ≤ x5), ∀ lv, qLs lv [some (.ref (85)), some (.int (x1)), some (.int (x2 + (1 : Int32))), none, none, none] → qW 243 N 2 lv [] h Q)
    (p2 : ∀ (c1 : ¬ (I 85 35) ≤ x5), ∀ (c4 : ¬ (comesB I x2 x5 = true)), ∀ lv, qLs lv [some (.ref (85)), some (.int (x1)), some (.int (x2)), none, none, some (.int (x5 + (1 : Int32)))] → qW 243 N 164 lv [] h Q)
    (p3 : ∀ (c1 : ¬ (I 85 35) ≤ x5), ∀ (c4 : comesB I x2 x5 = true), ∀ (bb7 : sIn x5 16 = true), ∀ (c8 : hs (I 88 ((x5).toNatClampNeg)) x2 = true), ∀ lv, qLs lv [some (.ref (85)), some (.int (x1)), some (.int (x2)), none, none, some (.int (x5 + (1 : Int32)))] → qW 243 N 164 lv [] h Q)
    (p4 : ∀ (c1 : ¬ (I 85 35) ≤ x5), ∀ (c4 : comesB I x2 x5 = true), ∀ (bb7 : sIn x5 16 = true), ∀ (c8 : ¬ (hs (I 88 ((x5).toNatClampNeg)) x2 = true)), Q (.inl (some (.int ((0 : Int32)))), h)) : qW 243 (N + 1) 164 lv [] h Q := by
  refine q1_iload (show mE (mtv 243) 164 = some (.iload 5, 2, 0, 0) from rfl) (hl 5 _ rfl) ?_
  refine q_aload_n (show mE (mtv 243) 166 = some (.aload_n 0, 1, 0, 0) from rfl) (hl 0 _ rfl) ?_
  refine q_getI th (show mE (mtv 243) 167 = some (.getfield 117, 3, 9, 35) from rfl) (by decide) rfl ?_
  refine q_ic_ge (t := 205) (show mE (mtv 243) 170 = some (.if_icmp .ge 35, 3, 0, 0) from rfl) rfl (fun c1 => ?_) (fun c1 => ?_)
  · refine q_iinc (show mE (mtv 243) 205 = some (.iinc 2 1, 3, 0, 0) from rfl) (Nat.le_of_ble_eq_true rfl) hl (hl 2 _ rfl) kI_1 (fun lv2 (hl3 : qLs lv2 [some (.ref (85)), some (.int (x1)), some (.int (x2 + (1 : Int32))), none, none, some (.int (x5))]) => ?_)
    refine q_goto (t := 2) (show mE (mtv 243) 208 = some (.goto (-206), 3, 0, 0) from rfl) rfl ?_
    exact p1 c1 lv2 (qLs_wk hl3 (⟨rfl, rfl, rfl, trivial⟩))
  · refine q_aload_n (show mE (mtv 243) 173 = some (.aload_n 0, 1, 0, 0) from rfl) (hl 0 _ rfl) ?_
    refine q_iload_n (show mE (mtv 243) 174 = some (.iload_n 2, 1, 0, 0) from rfl) (hl 2 _ rfl) ?_
    refine q_iload (show mE (mtv 243) 175 = some (.iload 5, 2, 0, 0) from rfl) (hl 5 _ rfl) ?_
    refine q_virtualP (show mE (mtv 243) 177 = some (.invokevirtual 202, 3, 233, 9) from rfl) (by decide) rfl rfl rfl (fun _ g => sp_233 th g) ?_
    refine q_ifb_eq (t := 199) (show mE (mtv 243) 180 = some (.ifCond .eq 19, 3, 0, 0) from rfl) rfl (fun c4 => ?_) (fun c4 => ?_)
    · refine q_iinc (show mE (mtv 243) 199 = some (.iinc 5 1, 3, 0, 0) from rfl) (Nat.le_of_ble_eq_true rfl) hl (hl 5 _ rfl) kI_1 (fun lv5 (hl6 : qLs lv5 [some (.ref (85)), some (.int (x1)), some (.int (x2)), none, none, some (.int (x5 + (1 : Int32)))]) => ?_)
      refine q_goto (t := 164) (show mE (mtv 243) 202 = some (.goto (-38), 3, 0, 0) from rfl) rfl ?_
      exact p2 c1 c4 lv5 (qLs_wk hl6 (⟨rfl, rfl, rfl, rfl, trivial⟩))
    · refine q_aload_n (show mE (mtv 243) 183 = some (.aload_n 0, 1, 0, 0) from rfl) (hl 0 _ rfl) ?_
      refine q_getR (m := 88) th (show mE (mtv 243) 184 = some (.getfield 16, 3, 9, 2) from rfl) (by decide) rfl rfl ?_
      refine q_iload (show mE (mtv 243) 187 = some (.iload 5, 2, 0, 0) from rfl) (hl 5 _ rfl) ?_
      refine q_iaload (n := 16) th (show mE (mtv 243) 189 = some (.iaload, 1, 0, 0) from rfl) (by decide) rfl (fun bb7 => ?_)
      refine q_iload_n (show mE (mtv 243) 190 = some (.iload_n 2, 1, 0, 0) from rfl) (hl 2 _ rfl) ?_
      refine q_ishr (show mE (mtv 243) 191 = some (.ishr, 1, 0, 0) from rfl) ?_
      refine q_iconst (show mE (mtv 243) 192 = some (.iconst 1, 1, 0, 0) from rfl) kI_1 ?_
      refine q_iand (show mE (mtv 243) 193 = some (.iand, 1, 0, 0) from rfl) ?_
      rw [hs_is]
      refine q_ifb_ne (t := 199) (show mE (mtv 243) 194 = some (.ifCond .ne 5, 3, 0, 0) from rfl) rfl (fun c8 => ?_) (fun c8 => ?_)
      · refine q_iinc (show mE (mtv 243) 199 = some (.iinc 5 1, 3, 0, 0) from rfl) (Nat.le_of_ble_eq_true rfl) hl (hl 5 _ rfl) kI_1 (fun lv9 (hl10 : qLs lv9 [some (.ref (85)), some (.int (x1)), some (.int (x2)), none, none, some (.int (x5 + (1 : Int32)))]) => ?_)
        refine q_goto (t := 164) (show mE (mtv 243) 202 = some (.goto (-38), 3, 0, 0) from rfl) rfl ?_
        exact p3 c1 c4 bb7 c8 lv9 (qLs_wk hl10 (⟨rfl, rfl, rfl, rfl, trivial⟩))
      · refine q_iconst (show mE (mtv 243) 197 = some (.iconst 0, 1, 0, 0) from rfl) kI_0 ?_
        refine q_ireturn (show mE (mtv 243) 198 = some (.ireturn, 1, 0, 0) from rfl) ?_
        exact p4 c1 c4 bb7 c8
/-- the loops of the check of all doors -/
noncomputable def QQ (I : Nat → Nat → Int32) (L : Nat → Nat → Int64) (R : Nat → Nat) (D : Int32) (t : Nat → Nat) (H : Prop) (r : sR) : Prop := ∃ v J h1, r = (.inl (some (.int v)), h1) ∧ qH h1 J L R ∧ (H → agr 106 J I ∧ (¬ v = 0 ↔ clnM I D t))
noncomputable def HH (I : Nat → Nat → Int32) (t : Nat → Nat) : Prop := MI I ∧ ∀ c, c < ncI I → I 91 c = Int32.ofNat (t c) ∧ t c < 8
noncomputable def inv2 (I : Nat → Nat → Int32) (D : Int32) (t : Nat → Nat) (J : Nat → Nat → Int32) (x2 : Int32) : Prop := ∃ d, x2 = Int32.ofNat d ∧ d ≤ ndI I ∧ agr 106 J I ∧ ∀ d', d' < d → clnD I D t d'
noncomputable def inv65 (I : Nat → Nat → Int32) (D : Int32) (t : Nat → Nat) (J : Nat → Nat → Int32) (x2 x3 x4 x5 : Int32) : Prop := ∃ d j, x2 = Int32.ofNat d ∧ d < ndI I ∧ x5 = Int32.ofNat j ∧ j ≤ ncI I ∧ agr 106 J I ∧ (∀ d', d' < d → clnD I D t d') ∧ x3 = b2 (tb D d = true) ∧ cl1 I D d ∧ (∀ c e, c < ncI I → e < 8 → (tb (J 106 c) e = true ↔ pinQ I d c e ∨ (tb D d = true ∧ c < j ∧ t c = e))) ∧ (∀ c e, c < ncI I → 8 ≤ e → tb (J 106 c) e = false) ∧ (¬ x4 = 0 ↔ fB I d ∧ ∀ c, c < j → pq I D t d c (t c))
noncomputable def inv164 (I : Nat → Nat → Int32) (D : Int32) (t : Nat → Nat) (J : Nat → Nat → Int32) (x2 x5 : Int32) : Prop := ∃ d k, x2 = Int32.ofNat d ∧ d < ndI I ∧ x5 = Int32.ofNat k ∧ k ≤ nkI I ∧ agr 106 J I ∧ (∀ d', d' < d → clnD I D t d') ∧ cl1 I D d ∧ cl2 I D t d ∧ cl3 I D t d ∧ (∀ c e, c < ncI I → e < 8 → (tb (J 106 c) e = true ↔ pq I D t d c e)) ∧ ∀ k', k' < k → cl4 I D t d k'
theorem pinQ_8 {I : Nat → Nat → Int32} (hm : MI I) {d c e : Nat} (hc : c < ncI I) (h : pinQ I d c e) (he : e < 2147483648) : e < 8 := by
  obtain ⟨i, h1, h2, h3⟩ := h
  obtain ⟨e', q1, q2⟩ := hm.dep8 i c h1 hc
  rw [q2] at h3
  have := (oN_inj (by omega) he).mp h3
  omega
/-- who comes in, with the tried key -/
theorem come_Q {I J : Nat → Nat → Int32} {D : Int32} {t : Nat → Nat} (hm : MI I) {d k : Nat} (hd : d < 10) (hk : k < nkI I) (ha : agr 106 J I) (hp : ∀ c e, c < ncI I → e < 8 → (tb (J 106 c) e = true ↔ pq I D t d c e)) : comesB J (Int32.ofNat d) (Int32.ofNat k) = true ↔ (I 95 k &&& I 97 d) = 0 ∧ ∀ c, c < ncI I → pq I D t d c (dpM I k c) := by
  have hkb := hm.kb
  have h6 := hm.c6
  unfold comesB inB
  rw [Bool.and_eq_true, decide_eq_true_eq, ofN_clamp (by omega), ofN_clamp (by omega), ha 95 k (by decide), ha 97 d (by decide), List.all_eq_true, ha 85 31 (by decide)]
  refine and_congr_right (fun _ => ?_)
  have one : ∀ c, c < ncI I → (hs (J 106 c) (J 86 ((6 : Int32) * Int32.ofNat k + Int32.ofNat c).toNatClampNeg) = true ↔ pq I D t d c (dpM I k c)) := fun c hc => by
    obtain ⟨e, he, q⟩ := hm.dep8 k c hk hc
    rw [oN_6, ofN_clamp (by omega), ha 86 _ (by decide), q, hs_oN (by omega)]
    have : dpM I k c = e := by unfold dpM; rw [q, ofN_clamp (by omega)]
    rw [this]
    exact hp c e hc he
  exact ⟨fun q c hc => (one c hc).mp (q c (List.mem_range.mpr hc)), fun q c hc => (one c (List.mem_range.mp hc)).mpr (q c (List.mem_range.mp hc))⟩
theorem lk_243 {I : Nat → Nat → Int32} {L : Nat → Nat → Int64} {R : Nat → Nat} {D : Int32} {t : Nat → Nat} : ∀ N : Nat,
    (∀ J x2 lv h, qH h J L R → (HH I t → inv2 I D t J x2) → qLs lv [some (.ref (85)), some (.int (D)), some (.int (x2)), none, none, none] → qW 243 N 2 lv [] h (QQ I L R D t (HH I t))) ∧
    (∀ J x2 x3 x4 x5 lv h, qH h J L R → (HH I t → inv65 I D t J x2 x3 x4 x5) → qLs lv [some (.ref (85)), some (.int (D)), some (.int (x2)), some (.int (x3)), some (.int (x4)), some (.int (x5))] → qW 243 N 65 lv [] h (QQ I L R D t (HH I t))) ∧
    (∀ J x2 x5 lv h, qH h J L R → (HH I t → inv164 I D t J x2 x5) → qLs lv [some (.ref (85)), some (.int (D)), some (.int (x2)), none, none, some (.int (x5))] → qW 243 N 164 lv [] h (QQ I L R D t (HH I t))) := by
  intro N
  induction N with
  | zero => exact ⟨fun _ _ _ _ _ _ _ => qW_0, fun _ _ _ _ _ _ _ _ _ _ => qW_0, fun _ _ _ _ _ _ _ _ => qW_0⟩
  | succ N ih =>
    obtain ⟨ih2, ih65, ih164⟩ := ih
    refine ⟨?_, ?_, ?_⟩
    · intro J x2 lv h th hi hl
      have go : HH I t → ¬ J 85 36 ≤ x2 → ∃ d, x2 = Int32.ofNat d ∧ d < ndI I ∧ agr 106 J I ∧ ∀ d', d' < d → clnD I D t d' := fun hh c1 => by
        obtain ⟨d, e1, e2, e3, e4⟩ := hi hh
        have hm := hh.1
        have hdb := hm.db
        rw [e3 85 36 (by decide), e1, hm.d] at c1
        have := mt (oN_le (by omega) (by omega)).mpr c1
        exact ⟨d, e1, by omega, e3, e4⟩
      have lay : HH I t → ∀ d J', d < ndI I → agr 106 J I → layP J (Int32.ofNat d) J' → agr 106 J' I ∧ (∀ c e, c < ncI I → e < 32 → (tb (J' 106 c) e = true ↔ pinQ I d c e)) := fun hh d J' hd ha e => by
        have hm := hh.1
        have hdb := hm.db
        have h6 := hm.c6
        have a2 := MI_S (agS_r ha) hm
        obtain ⟨b1, b3⟩ := lay_get a2 (show d < 32 by omega) e
        have ek : nkI J = nkI I := nkI_S (agS_r ha)
        have ec : ncI J = ncI I := by unfold ncI; rw [ha 85 31 (by decide)]
        refine ⟨fun a b q => (b1 a b q).trans (ha a b q), fun c e' hc he => ?_⟩
        rw [b3 c e' (by omega) he, ek, ec]
        unfold pinQ
        constructor
        · rintro ⟨i, _, q2, q3, q4⟩
          rw [ha 88 i (by decide)] at q3
          rw [ha 86 _ (by decide)] at q4
          exact ⟨i, q2, q3, q4⟩
        · rintro ⟨i, q2, q3, q4⟩
          refine ⟨i, .inl ⟨q2, hc⟩, q2, ?_, ?_⟩
          · rw [ha 88 i (by decide)]; exact q3
          · rw [ha 86 _ (by decide)]; exact q4
      have high : HH I t → ∀ (d : Nat) (J' : Nat → Nat → Int32), (∀ c e, c < ncI I → e < 32 → (tb (J' 106 c) e = true ↔ pinQ I d c e)) → ∀ c e, c < ncI I → 8 ≤ e → tb (J' 106 c) e = false := fun hh d J' hp c e hc he => by
        by_cases g : e < 32
        · refine Bool.eq_false_iff.mpr (fun q => ?_)
          have := pinQ_8 hh.1 hc ((hp c e hc g).mp q) (by omega)
          omega
        · exact tb_ge (by omega)
      have to65 : ∀ J' h' lv' x3 x4 (P : Prop), qH h' J' L R → layP J x2 J' → ¬ J 85 36 ≤ x2 → (HH I t → ∀ d, x2 = Int32.ofNat d → d < ndI I → agr 106 J' I → (x3 = b2 (tb D d = true)) ∧ cl1 I D d ∧ (¬ x4 = 0 ↔ fB I d)) → qLs lv' [some (.ref (85)), some (.int (D)), some (.int (x2)), some (.int (x3)), some (.int (x4)), some (.int ((0 : Int32)))] → qW 243 N 65 lv' [] h' (QQ I L R D t (HH I t)) := fun J' h' lv' x3 x4 P t' e c1 hx hl' => by
        refine ih65 J' x2 x3 x4 0 lv' h' t' (fun hh => ?_) hl'
        obtain ⟨d, e1, e2, e3, e4⟩ := go hh c1
        rw [e1] at e
        obtain ⟨b1, b3⟩ := lay hh d J' e2 e3 e
        obtain ⟨f1, f2, f3⟩ := hx hh d e1 e2 b1
        refine ⟨d, 0, e1, e2, rfl, Nat.zero_le _, b1, e4, f1, f2, fun c e' hc he => ?_, high hh d J' b3, ?_⟩
        · rw [b3 c e' hc (by omega)]
          exact ⟨Or.inl, fun q => q.elim id (fun z => absurd z.2.1 (Nat.not_lt_zero c))⟩
        · rw [f3]
          exact ⟨fun q => ⟨q, fun c hc => absurd hc (Nat.not_lt_zero c)⟩, fun q => q.1⟩
      have at97 : HH I t → ∀ d J', x2 = Int32.ofNat d → d < ndI I → agr 106 J' I → (J' 85 43 &&& J' 97 x2.toNatClampNeg) = I 85 43 &&& I 97 d := fun hh d J' e1 e2 ha => by
        have hdb := hh.1.db
        rw [e1, ofN_clamp (by omega), ha 85 43 (by decide), ha 97 d (by decide)]
      have hsD : HH I t → ∀ d, x2 = Int32.ofNat d → d < ndI I → hs D x2 = tb D d := fun hh d e1 e2 => by
        have hdb := hh.1.db
        rw [e1, hs_oN (by omega)]
      refine qg_243_2 th hl (fun c1 => ⟨1, J, h, rfl, th, fun hh => ?_⟩) (fun c1 J' h' t' e c6 _ c10 lv' hl' => ?_) (fun c1 J' h' t' e c6 _ c10 lv' hl' => ?_) (fun c1 J' h' t' e c6 _ c10 => ⟨0, J', h', rfl, t', fun hh => ?_⟩) (fun c1 J' h' t' e c6 _ c10 lv' hl' => ?_)
      · obtain ⟨d, e1, e2, e3, e4⟩ := hi hh
        have hm := hh.1
        have hdb := hm.db
        rw [e3 85 36 (by decide), e1, hm.d] at c1
        have := (oN_le (by omega) (by omega)).mp c1
        exact ⟨e3, ⟨fun _ d' hd' => e4 d' (by omega), fun _ => by decide⟩⟩
      · refine to65 J' h' lv' 0 0 True t' e c1 (fun hh d e1 e2 ha => ?_) hl'
        rw [hsD hh d e1 e2] at c6
        rw [at97 hh d J' e1 e2 ha] at c10
        exact ⟨(b2_f c6).symm, fun q => absurd q c6, ⟨fun q => absurd rfl q, fun q => absurd q c10⟩⟩
      · refine to65 J' h' lv' 0 1 True t' e c1 (fun hh d e1 e2 ha => ?_) hl'
        rw [hsD hh d e1 e2] at c6
        rw [at97 hh d J' e1 e2 ha] at c10
        exact ⟨(b2_f c6).symm, fun q => absurd q c6, ⟨fun _ => c10, fun _ => by decide⟩⟩
      · obtain ⟨d, e1, e2, e3, e4⟩ := go hh c1
        have e' := e
        rw [e1] at e'
        obtain ⟨b1, b3⟩ := lay hh d J' e2 e3 e'
        rw [hsD hh d e1 e2] at c6
        rw [at97 hh d J' e1 e2 b1] at c10
        exact ⟨b1, ⟨fun q => absurd rfl q, fun q => absurd ((q d e2).1 c6) c10⟩⟩
      · refine to65 J' h' lv' 1 1 True t' e c1 (fun hh d e1 e2 ha => ?_) hl'
        rw [hsD hh d e1 e2] at c6
        rw [at97 hh d J' e1 e2 ha] at c10
        exact ⟨(b2_t c6).symm, fun _ => c10, ⟨fun _ => c10, fun _ => by decide⟩⟩
    · intro J x2 x3 x4 x5 lv h th hi hl
      have x3i : ∀ d, x3 = b2 (tb D d = true) → (x3 = 0 ↔ tb D d = false) := fun d e => by
        rw [e]
        cases g : tb D d with
        | true => exact ⟨fun q => absurd q (by decide), fun q => (by cases q)⟩
        | false => exact ⟨fun _ => rfl, fun _ => rfl⟩
      -- all chambers are through
      have done : HH I t → J 85 31 ≤ x5 → ∃ d, x2 = Int32.ofNat d ∧ d < ndI I ∧ agr 106 J I ∧ (∀ d', d' < d → clnD I D t d') ∧ x3 = b2 (tb D d = true) ∧ cl1 I D d ∧ (∀ c e, c < ncI I → e < 8 → (tb (J 106 c) e = true ↔ pq I D t d c e)) ∧ (∀ c e, c < ncI I → 8 ≤ e → tb (J 106 c) e = false) ∧ (¬ x4 = 0 ↔ fB I d ∧ ∀ c, c < ncI I → pq I D t d c (t c)) := fun hh c1 => by
        obtain ⟨d, j, e1, e2, e3, e4, e5, e6, e7, e8, e9, e10, e11⟩ := hi hh
        have hm := hh.1
        have h6 := hm.c6
        rw [e5 85 31 (by decide), e3, hm.c] at c1
        have := (oN_le (by omega) (by omega)).mp c1
        have ej : j = ncI I := by omega
        rw [ej] at e9 e11
        refine ⟨d, e1, e2, e5, e6, e7, e8, fun c e hc he => (e9 c e hc he).trans ?_, e10, e11⟩
        unfold pq
        exact ⟨fun q => q.elim Or.inl (fun z => .inr ⟨z.1, z.2.2⟩), fun q => q.elim Or.inl (fun z => .inr ⟨z.1, hc, z.2⟩)⟩
      have thin : HH I t → ∀ d, agr 106 J I → (∀ c e, c < ncI I → e < 8 → (tb (J 106 c) e = true ↔ pq I D t d c e)) → (∀ c e, c < ncI I → 8 ≤ e → tb (J 106 c) e = false) → (G_244 J 0 0 (J 85 31).toNatClampNeg ≤ 0 ↔ ∀ c, c < ncI I → ∀ e, e < 8 → ¬ (pq I D t d c e ∧ pq I D t d c (e + 1))) := fun hh d ha hp hz => by
        have hm := hh.1
        have h6 := hm.c6
        rw [ha 85 31 (by decide), show (I 85 31).toNatClampNeg = ncI I from rfl, thin_0 (by omega)]
        refine forall_congr' (fun c => imp_congr_right (fun hc => ?_))
        rw [thin_b (fun e he => hz c e hc he)]
        have lt8 : ∀ e, e < 9 → pq I D t d c e → e < 8 := fun e he q => by
          rcases q with q | q
          · exact pinQ_8 hm hc q (by omega)
          · have := (hh.2 c hc).2
            omega
        constructor
        · intro q e he ⟨q1, q2⟩
          exact q e ⟨(hp c e hc he).mpr q1, (hp c (e + 1) hc (lt8 (e + 1) (by omega) q2)).mpr q2⟩
        · intro q e ⟨q1, q2⟩
          have h1 : e < 8 := by
            apply Decidable.of_not_not
            intro n
            rw [hz c e hc (by omega)] at q1
            cases q1
          have h2 : e + 1 < 8 := by
            apply Decidable.of_not_not
            intro n
            rw [hz c (e + 1) hc (by omega)] at q2
            cases q2
          exact q e h1 ⟨(hp c e hc h1).mp q1, (hp c (e + 1) hc h2).mp q2⟩
      have to164 : ∀ lv', J 85 31 ≤ x5 → (HH I t → ∀ d, d < ndI I → agr 106 J I → x3 = b2 (tb D d = true) → (¬ x4 = 0 ↔ fB I d ∧ ∀ c, c < ncI I → pq I D t d c (t c)) → (G_244 J 0 0 (J 85 31).toNatClampNeg ≤ 0 ↔ ∀ c, c < ncI I → ∀ e, e < 8 → ¬ (pq I D t d c e ∧ pq I D t d c (e + 1))) → cl2 I D t d ∧ cl3 I D t d) → qLs lv' [some (.ref (85)), some (.int (D)), some (.int (x2)), none, none, some (.int ((0 : Int32)))] → qW 243 N 164 lv' [] h (QQ I L R D t (HH I t)) := fun lv' c1 hx hl' => by
        refine ih164 J x2 0 lv' h th (fun hh => ?_) hl'
        obtain ⟨d, e1, e2, e3, e4, e5, e6, e7, e8, e9⟩ := done hh c1
        obtain ⟨f1, f2⟩ := hx hh d e2 e3 e5 e9 (thin hh d e3 e7 e8)
        exact ⟨d, 0, e1, e2, rfl, Nat.zero_le _, e3, e4, e6, f1, f2, e7, fun k' hk => absurd hk (Nat.not_lt_zero k')⟩
      have amiss : J 85 31 ≤ x5 → (HH I t → ∀ d, d < ndI I → agr 106 J I → x3 = b2 (tb D d = true) → (¬ x4 = 0 ↔ fB I d ∧ ∀ c, c < ncI I → pq I D t d c (t c)) → (G_244 J 0 0 (J 85 31).toNatClampNeg ≤ 0 ↔ ∀ c, c < ncI I → ∀ e, e < 8 → ¬ (pq I D t d c e ∧ pq I D t d c (e + 1))) → cl2 I D t d → ¬ cl3 I D t d) → QQ I L R D t (HH I t) (.inl (some (.int ((0 : Int32)))), h) := fun c1 hx => ⟨0, J, h, rfl, th, fun hh => by
        obtain ⟨d, e1, e2, e3, e4, e5, e6, e7, e8, e9⟩ := done hh c1
        exact ⟨e3, ⟨fun q => absurd rfl q, fun q => absurd (q d e2).2.2.1 (hx hh d e2 e3 e5 e9 (thin hh d e3 e7 e8) (q d e2).2.1)⟩⟩⟩
      have c2a : ∀ d, x4 = 0 → (¬ x4 = 0 ↔ fB I d ∧ ∀ c, c < ncI I → pq I D t d c (t c)) → cl2 I D t d := fun d c2 e9 q => e9.mpr ⟨q.2.1, fun c hc => .inl (q.2.2 c hc)⟩ c2
      have c2b : ∀ d, ¬ x3 = 0 → x3 = b2 (tb D d = true) → cl2 I D t d := fun d c10 e5 q => c10 ((x3i d e5).mpr q.1)
      have a47 : agr 106 J I → J 85 47 = I 85 47 := fun ha => ha 85 47 (by decide)
      -- the next chamber
      have nx : ∀ J' h' lv' w, qH h' J' L R → ¬ J 85 31 ≤ x5 → (HH I t → ∀ d j, x5 = Int32.ofNat j → j < ncI I → d < ndI I → x3 = b2 (tb D d = true) → (¬ x4 = 0 ↔ fB I d ∧ ∀ c, c < j → pq I D t d c (t c)) → agr 106 J I → (∀ c e, c < ncI I → e < 8 → (tb (J 106 c) e = true ↔ pinQ I d c e ∨ (tb D d = true ∧ c < j ∧ t c = e))) → (∀ c e, c < ncI I → 8 ≤ e → tb (J 106 c) e = false) → agr 106 J' I ∧ (∀ c e, c < ncI I → e < 8 → (tb (J' 106 c) e = true ↔ pinQ I d c e ∨ (tb D d = true ∧ c < j + 1 ∧ t c = e))) ∧ (∀ c e, c < ncI I → 8 ≤ e → tb (J' 106 c) e = false) ∧ (¬ w = 0 ↔ ¬ x4 = 0 ∧ pq I D t d j (t j))) →
          qLs lv' [some (.ref (85)), some (.int (D)), some (.int (x2)), some (.int (x3)), some (.int (w)), some (.int (x5 + (1 : Int32)))] → qW 243 N 65 lv' [] h' (QQ I L R D t (HH I t)) := fun J' h' lv' w t' c1 hx hl' => by
        refine ih65 J' x2 x3 w (x5 + 1) lv' h' t' (fun hh => ?_) hl'
        obtain ⟨d, j, e1, e2, e3, e4, e5, e6, e7, e8, e9, e10, e11⟩ := hi hh
        have hm := hh.1
        have h6 := hm.c6
        rw [e5 85 31 (by decide), e3, hm.c] at c1
        have := mt (oN_le (by omega) (by omega)).mpr c1
        obtain ⟨f1, f2, f3, f4⟩ := hx hh d j e3 (by omega) e2 e7 e11 e5 e9 e10
        refine ⟨d, j + 1, e1, e2, by rw [e3, oN_s], by omega, f1, e6, e7, e8, f2, f3, f4.trans ?_⟩
        rw [e11]
        constructor
        · rintro ⟨⟨q1, q2⟩, q3⟩
          refine ⟨q1, fun c hc => ?_⟩
          by_cases e : c = j
          · rw [e]; exact q3
          · exact q2 c (by omega)
        · rintro ⟨q1, q2⟩
          exact ⟨⟨q1, fun c hc => q2 c (by omega)⟩, q2 j (by omega)⟩
      have same : HH I t → ∀ d j, x5 = Int32.ofNat j → j < ncI I → d < ndI I → x3 = 0 → x3 = b2 (tb D d = true) → agr 106 J I → (∀ c e, c < ncI I → e < 8 → (tb (J 106 c) e = true ↔ pinQ I d c e ∨ (tb D d = true ∧ c < j ∧ t c = e))) → (∀ c e, c < ncI I → 8 ≤ e → tb (J 106 c) e = false) → agr 106 J I ∧ (∀ c e, c < ncI I → e < 8 → (tb (J 106 c) e = true ↔ pinQ I d c e ∨ (tb D d = true ∧ c < j + 1 ∧ t c = e))) ∧ (∀ c e, c < ncI I → 8 ≤ e → tb (J 106 c) e = false) := fun hh d j e3 hj hd c18 e7 e5 e9 e10 => by
        have f := (x3i d e7).mp c18
        refine ⟨e5, fun c e hc he => (e9 c e hc he).trans ?_, e10⟩
        rw [f]
        simp only [Bool.false_eq_true, false_and]
      have bit : HH I t → ∀ d j, x5 = Int32.ofNat j → j < ncI I → x3 = 0 → x3 = b2 (tb D d = true) → agr 106 J I → (∀ c e, c < ncI I → e < 8 → (tb (J 106 c) e = true ↔ pinQ I d c e ∨ (tb D d = true ∧ c < j ∧ t c = e))) → (hs (J 106 x5.toNatClampNeg) (J 91 x5.toNatClampNeg) = true ↔ pq I D t d j (t j)) := fun hh d j e3 hj c18 e7 e5 e9 => by
        have h6 := hh.1.c6
        obtain ⟨g1, g2⟩ := hh.2 j hj
        have f := (x3i d e7).mp c18
        rw [e3, ofN_clamp (by omega), e5 91 j (by decide), g1, hs_oN (by omega), e9 j (t j) hj g2, f]
        unfold pq
        simp only [f, Bool.false_eq_true, false_and]
      -- the tried key's pin is laid, too
      have laid : ∀ x, HH I t → ∀ d j, x5 = Int32.ofNat j → j < ncI I → ¬ x3 = 0 → x3 = b2 (tb D d = true) → agr 106 J I → (∀ c e, c < ncI I → e < 8 → (tb (J 106 c) e = true ↔ pinQ I d c e ∨ (tb D d = true ∧ c < j ∧ t c = e))) → (∀ c e, c < ncI I → 8 ≤ e → tb (J 106 c) e = false) → x = (J 106 x5.toNatClampNeg) ||| ((1 : Int32) <<< ((J 91 x5.toNatClampNeg) &&& 31)) → agr 106 (upI J 106 x5.toNatClampNeg x) I ∧ (∀ c e, c < ncI I → e < 8 → (tb (upI J 106 x5.toNatClampNeg x 106 c) e = true ↔ pinQ I d c e ∨ (tb D d = true ∧ c < j + 1 ∧ t c = e))) ∧ (∀ c e, c < ncI I → 8 ≤ e → tb (upI J 106 x5.toNatClampNeg x 106 c) e = false) ∧ hs x (J 91 x5.toNatClampNeg) = true := fun x hh d j e3 hj c18 e7 e5 e9 e10 ex => by
        have h6 := hh.1.c6
        obtain ⟨g1, g2⟩ := hh.2 j hj
        have f : tb D d = true := by
          cases g : tb D d with
          | true => rfl
          | false => exact absurd ((x3i d e7).mpr g) c18
        have bx : ∀ e, tb x e = (tb (J 106 j) e || decide (e = t j)) := fun e => by
          rw [ex, e3, ofN_clamp (by omega), e5 91 j (by decide), g1, tb_or, tb_shl, shD_nat (by omega)]
        rw [e3, ofN_clamp (by omega)]
        refine ⟨agr_up e5 _ _, fun c e hc he => ?_, fun c e hc he => ?_, ?_⟩
        · by_cases ec : c = j
          · subst ec
            rw [upI_s, bx, Bool.or_eq_true, e9 c e hc he, decide_eq_true_eq]
            constructor
            · rintro ((q | q) | q)
              · exact .inl q
              · exact .inr ⟨q.1, by omega, q.2.2⟩
              · exact .inr ⟨f, by omega, q.symm⟩
            · rintro (q | q)
              · exact .inl (.inl q)
              · exact .inr q.2.2.symm
          · rw [upI_ne (fun q => ec q.2), e9 c e hc he]
            constructor
            · rintro (q | q)
              · exact .inl q
              · exact .inr ⟨q.1, by omega, q.2.2⟩
            · rintro (q | q)
              · exact .inl q
              · exact .inr ⟨q.1, by omega, q.2.2⟩
        · by_cases ec : c = j
          · subst ec
            rw [upI_s, bx, e10 c e hc he, decide_eq_false (by omega)]; rfl
          · rw [upI_ne (fun q => ec q.2)]; exact e10 c e hc he
        · rw [e5 91 j (by decide), g1, hs_oN (by omega), bx, decide_eq_true rfl, Bool.or_true]
      refine qg_243_65 th hl (fun c1 c2 _ c4 lv' hl' => to164 lv' c1 (fun hh d hd ha e5 e9 et => ⟨c2a d c2 e9, fun q => absurd ((a47 ha).trans q) c4⟩) hl') (fun c1 c2 _ c4 c7 lv' hl' => to164 lv' c1 (fun hh d hd ha e5 e9 et => ⟨c2a d c2 e9, fun _ => et.mp c7⟩) hl') (fun c1 c2 _ c4 c7 => amiss c1 (fun hh d hd ha e5 e9 et _ q => c7 (et.mpr (q ((a47 ha).symm.trans c4))))) (fun c1 c2 c10 => amiss c1 (fun hh d hd ha e5 e9 et q2 _ => q2 ⟨(x3i d e5).mp c10, (e9.mp c2).1, fun c hc => ((e9.mp c2).2 c hc).resolve_right (fun z => by rw [(x3i d e5).mp c10] at z; cases z.1)⟩)) (fun c1 c2 c10 _ c12 lv' hl' => to164 lv' c1 (fun hh d hd ha e5 e9 et => ⟨c2b d c10 e5, fun q => absurd ((a47 ha).trans q) c12⟩) hl') (fun c1 c2 c10 _ c12 c15 lv' hl' => to164 lv' c1 (fun hh d hd ha e5 e9 et => ⟨c2b d c10 e5, fun _ => et.mp c15⟩) hl') (fun c1 c2 c10 _ c12 c15 => amiss c1 (fun hh d hd ha e5 e9 et _ q => c15 (et.mpr (q ((a47 ha).symm.trans c12))))) (fun c1 c18 c19 lv' hl' => nx J h lv' 0 th c1 (fun hh d j e3 hj hd e7 e11 e5 e9 e10 => ?_) hl') (fun c1 c18 c19 _ c26 lv' hl' => nx J h lv' 0 th c1 (fun hh d j e3 hj hd e7 e11 e5 e9 e10 => ?_) hl') (fun c1 c18 c19 _ c26 lv' hl' => nx J h lv' 1 th c1 (fun hh d j e3 hj hd e7 e11 e5 e9 e10 => ?_) hl') (fun c1 c18 _ h' t' c40 lv' hl' => nx _ h' lv' 0 t' c1 (fun hh d j e3 hj hd e7 e11 e5 e9 e10 => ?_) hl') (fun c1 c18 _ h' t' c40 c49 lv' hl' => nx _ h' lv' 0 t' c1 (fun hh d j e3 hj hd e7 e11 e5 e9 e10 => ?_) hl') (fun c1 c18 _ h' t' c40 c49 lv' hl' => nx _ h' lv' 1 t' c1 (fun hh d j e3 hj hd e7 e11 e5 e9 e10 => ?_) hl')
      · obtain ⟨f1, f2, f3⟩ := same hh d j e3 hj hd c18 e7 e5 e9 e10
        exact ⟨f1, f2, f3, ⟨fun q => absurd rfl q, fun q => absurd c19 q.1⟩⟩
      · obtain ⟨f1, f2, f3⟩ := same hh d j e3 hj hd c18 e7 e5 e9 e10
        exact ⟨f1, f2, f3, ⟨fun q => absurd rfl q, fun q => absurd ((bit hh d j e3 hj c18 e7 e5 e9).mpr q.2) c26⟩⟩
      · obtain ⟨f1, f2, f3⟩ := same hh d j e3 hj hd c18 e7 e5 e9 e10
        exact ⟨f1, f2, f3, ⟨fun _ => ⟨c19, (bit hh d j e3 hj c18 e7 e5 e9).mp c26⟩, fun _ => by decide⟩⟩
      · obtain ⟨f1, f2, f3, f4⟩ := laid _ hh d j e3 hj c18 e7 e5 e9 e10 rfl
        exact ⟨f1, f2, f3, ⟨fun q => absurd rfl q, fun q => absurd c40 q.1⟩⟩
      · obtain ⟨f1, f2, f3, f4⟩ := laid _ hh d j e3 hj c18 e7 e5 e9 e10 rfl
        exact absurd f4 c49
      · obtain ⟨f1, f2, f3, f4⟩ := laid _ hh d j e3 hj c18 e7 e5 e9 e10 rfl
        refine ⟨f1, f2, f3, ⟨fun _ => ⟨c40, .inr ⟨?_, rfl⟩⟩, fun _ => by decide⟩⟩
        cases g : tb D d with
        | true => rfl
        | false => exact absurd ((x3i d e7).mpr g) c18
    · intro J x2 x5 lv h th hi hl
      have go : HH I t → ¬ J 85 35 ≤ x5 → ∃ d k, x2 = Int32.ofNat d ∧ d < ndI I ∧ x5 = Int32.ofNat k ∧ k < nkI I ∧ agr 106 J I ∧ (∀ d', d' < d → clnD I D t d') ∧ cl1 I D d ∧ cl2 I D t d ∧ cl3 I D t d ∧ (∀ c e, c < ncI I → e < 8 → (tb (J 106 c) e = true ↔ pq I D t d c e)) ∧ ∀ k', k' < k → cl4 I D t d k' := fun hh c1 => by
        obtain ⟨d, k, e1, e2, e3, e4, e5, e6⟩ := hi hh
        have hm := hh.1
        have hkb := hm.kb
        rw [e5 85 35 (by decide), e3, hm.k] at c1
        have := mt (oN_le (by omega) (by omega)).mpr c1
        exact ⟨d, k, e1, e2, e3, by omega, e5, e6⟩
      have nx : ∀ lv', ¬ J 85 35 ≤ x5 → (HH I t → ∀ d k, x2 = Int32.ofNat d → d < ndI I → x5 = Int32.ofNat k → k < nkI I → agr 106 J I → (∀ c e, c < ncI I → e < 8 → (tb (J 106 c) e = true ↔ pq I D t d c e)) → cl4 I D t d k) → qLs lv' [some (.ref (85)), some (.int (D)), some (.int (x2)), none, none, some (.int (x5 + (1 : Int32)))] → qW 243 N 164 lv' [] h (QQ I L R D t (HH I t)) := fun lv' c1 hx hl' => by
        refine ih164 J x2 (x5 + 1) lv' h th (fun hh => ?_) hl'
        obtain ⟨d, k, e1, e2, e3, e4, e5, e6, e7, e8, e9, e10, e11⟩ := go hh c1
        refine ⟨d, k + 1, e1, e2, by rw [e3, oN_s], e4, e5, e6, e7, e8, e9, e10, fun k' hk => ?_⟩
        by_cases e : k' = k
        · rw [e]; exact hx hh d k e1 e2 e3 e4 e5 e10
        · exact e11 k' (by omega)
      refine qg_243_164 th hl (fun c1 lv' hl' => ?_) (fun c1 c4 lv' hl' => nx lv' c1 (fun hh d k e1 e2 e3 e4 e5 e10 => ?_) hl') (fun c1 c4 _ c8 lv' hl' => nx lv' c1 (fun hh d k e1 e2 e3 e4 e5 e10 => ?_) hl') (fun c1 c4 _ c8 => ⟨0, J, h, rfl, th, fun hh => ?_⟩)
      · refine ih2 J (x2 + 1) lv' h th (fun hh => ?_) hl'
        obtain ⟨d, k, e1, e2, e3, e4, e5, e6, e7, e8, e9, e10, e11⟩ := hi hh
        have hm := hh.1
        have hkb := hm.kb
        rw [e5 85 35 (by decide), e3, hm.k] at c1
        have := (oN_le (by omega) (by omega)).mp c1
        refine ⟨d + 1, by rw [e1, oN_s], e2, e5, fun d' hd => ?_⟩
        by_cases e : d' = d
        · rw [e]; exact ⟨e7, e8, e9, fun k' hk => e11 k' (by omega)⟩
        · exact e6 d' (by omega)
      · have hdb := hh.1.db
        rw [e1, e3, come_Q hh.1 (by omega) e4 e5 e10] at c4
        exact fun q1 q2 => absurd ⟨q1, q2⟩ c4
      · have hdb := hh.1.db
        have hkb := hh.1.kb
        rw [e1, e3, ofN_clamp (by omega), e5 88 k (by decide), hs_oN (by omega)] at c8
        exact fun _ _ => c8
      · obtain ⟨d, k, e1, e2, e3, e4, e5, e6, e7, e8, e9, e10, e11⟩ := go hh c1
        have hdb := hh.1.db
        have hkb := hh.1.kb
        rw [e1, e3, come_Q hh.1 (by omega) e4 e5 e10] at c4
        rw [e1, e3, ofN_clamp (by omega), e5 88 k (by decide), hs_oN (by omega)] at c8
        exact ⟨e5, ⟨fun q => absurd rfl q, fun q => absurd ((q d e2).2.2.2 k e4 c4.1 c4.2) c8⟩⟩
noncomputable def tI (I : Nat → Nat → Int32) (c : Nat) : Nat := (I 91 c).toNatClampNeg
/-- the check's answer -/
noncomputable def clP (I : Nat → Nat → Int32) (D : Int32) (J : Nat → Nat → Int32) (v : Int32) : Prop := ∀ t, HH I t → agr 106 J I ∧ (¬ v = 0 ↔ clnM I D t)
theorem sp_243 {h : sH} {r : sR} {D : Int32} {I : Nat → Nat → Int32} {L : Nat → Nat → Int64} {R : Nat → Nat} (th : qH h I L R) (g : qGo 243 [.ref (85), .int D] h r) : ∃ v J h1, r = (.inl (some (.int v)), h1) ∧ qH h1 J L R ∧ clP I D J v := by
  refine qg_243 (Q := fun r => ∃ v J h1, r = (.inl (some (.int v)), h1) ∧ qH h1 J L R ∧ clP I D J v) g (fun N lv hl => ?_)
  refine qW_mono ?_ ((lk_243 (I := I) (L := L) (R := R) (D := D) (t := tI I) N).1 I 0 lv h th (fun _ => ⟨0, rfl, Nat.zero_le _, fun _ _ _ => rfl, fun d hd => absurd hd (Nat.not_lt_zero d)⟩) hl)
  rintro r ⟨v, J, h1, q1, q2, q3⟩
  refine ⟨v, J, h1, q1, q2, fun t ht => ?_⟩
  have e : ∀ c, c < ncI I → tI I c = t c := fun c hc => by
    obtain ⟨g1, g2⟩ := ht.2 c hc
    unfold tI
    rw [g1, ofN_clamp (by omega)]
  obtain ⟨p1, p2⟩ := q3 ⟨ht.1, fun c hc => by rw [e c hc]; exact ht.2 c hc⟩
  refine ⟨p1, p2.trans ?_⟩
  have hq : ∀ d c e', c < ncI I → (pq I D (tI I) d c e' ↔ pq I D t d c e') := fun d c e' hc => by
    unfold pq
    rw [e c hc]
  unfold clnM clnD
  refine forall_congr' (fun d => imp_congr_right (fun _ => and_congr Iff.rfl (and_congr ?_ (and_congr ?_ ?_))))
  · unfold cl2
    refine not_congr (and_congr Iff.rfl (and_congr Iff.rfl (forall_congr' (fun c => imp_congr_right (fun hc => ?_)))))
    rw [e c hc]
  · unfold cl3
    exact imp_congr_right (fun _ => forall_congr' (fun c => imp_congr_right (fun hc => forall_congr' (fun e' => imp_congr_right (fun _ => not_congr (and_congr (hq d c e' hc) (hq d c (e' + 1) hc)))))))
  · refine forall_congr' (fun k => imp_congr_right (fun _ => ?_))
    unfold cl4
    exact imp_congr_right (fun _ => imp_congr (forall_congr' (fun c => imp_congr_right (fun hc => hq d c _ hc))) Iff.rfl)
end
