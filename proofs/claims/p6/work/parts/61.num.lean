/-! part 61: all keys that could be cut, as numbers: a number's digits are the depths -/
def nS (f : Nat → Nat) : Nat → Nat
  | 0 => 0
  | k + 1 => nS f k + f k
theorem nS_ext {f g : Nat → Nat} : ∀ {n : Nat}, (∀ i, i < n → f i = g i) → nS f n = nS g n
  | 0, _ => rfl
  | n + 1, h => by
    show nS f n + f n = nS g n + g n
    rw [nS_ext (fun i hi => h i (by omega)), h n (by omega)]
theorem nS_0 : ∀ {n : Nat}, nS (fun _ => 0) n = 0
  | 0 => rfl
  | n + 1 => by
    show nS (fun _ => 0) n + 0 = 0
    rw [nS_0]
theorem nS_app {f : Nat → Nat} {a : Nat} : ∀ b, nS f (a + b) = nS f a + nS (fun i => f (a + i)) b
  | 0 => rfl
  | b + 1 => by
    show nS f (a + b) + f (a + b) = nS f a + (nS (fun i => f (a + i)) b + f (a + b))
    rw [nS_app b, Nat.add_assoc]
theorem nS_blk {f : Nat → Nat} {b : Nat} : ∀ a, nS f (a * b) = nS (fun d => nS (fun i => f (d * b + i)) b) a
  | 0 => by rw [Nat.zero_mul]; rfl
  | a + 1 => by
    rw [Nat.succ_mul, nS_app, nS_blk a]; rfl
theorem nS_mul {f : Nat → Nat} {x : Nat} : ∀ n, nS (fun i => x * f i) n = x * nS f n
  | 0 => rfl
  | n + 1 => by
    show nS (fun i => x * f i) n + x * f n = x * (nS f n + f n)
    rw [nS_mul n, Nat.mul_add]
theorem nS_le {f : Nat → Nat} {x : Nat} (h : ∀ i, f i ≤ x) : ∀ n, nS f n ≤ x * n
  | 0 => Nat.zero_le _
  | n + 1 => by
    have h1 := nS_le h n
    have h2 := h n
    show nS f n + f n ≤ x * (n + 1)
    rw [Nat.mul_succ]
    omega
theorem jS_oN {f : Nat → Nat} : ∀ n, jS (fun i => Int32.ofNat (f i)) n = Int32.ofNat (nS f n)
  | 0 => rfl
  | n + 1 => by
    show jS (fun i => Int32.ofNat (f i)) n + Int32.ofNat (f n) = Int32.ofNat (nS f n + f n)
    rw [jS_oN n, Int32.ofNat_add]
def bn (b : Bool) : Nat := if b then 1 else 0
theorem bn_le (b : Bool) : bn b ≤ 1 := by cases b <;> decide
theorem bj_bn (b : Bool) : bj b = Int32.ofNat (bn b) := by cases b <;> rfl
theorem bn_and (a b : Bool) : bn (a && b) = bn a * bn b := by cases a <;> cases b <;> rfl
theorem bn_t : bn true = 1 := rfl
theorem bn_f : bn false = 0 := rfl
noncomputable def pB (p : Prop) : Bool := @decide p (Classical.propDecidable p)
theorem pB_t {p : Prop} (h : p) : pB p = true := @decide_eq_true p (Classical.propDecidable p) h
theorem pB_f {p : Prop} (h : ¬ p) : pB p = false := @decide_eq_false p (Classical.propDecidable p) h
theorem pB_iff {p : Prop} : pB p = true ↔ p := by
  by_cases h : p
  · exact ⟨fun _ => h, fun _ => pB_t h⟩
  · rw [pB_f h]; exact ⟨fun q => (by cases q), fun q => absurd q h⟩
theorem pB_cg {p q : Prop} (h : p ↔ q) : pB p = pB q := by
  by_cases g : p
  · rw [pB_t g, pB_t (h.mp g)]
  · rw [pB_f g, pB_f (fun z => g (h.mpr z))]
theorem pB_and {p q : Prop} : pB (p ∧ q) = (pB p && pB q) := by
  by_cases g : p
  · rw [pB_t g, Bool.true_and]; exact pB_cg ⟨fun z => z.2, fun z => ⟨g, z⟩⟩
  · rw [pB_f g, pB_f (fun z => g z.1)]; rfl
/-- how many numbers from lo on, k of them, are so -/
noncomputable def cK (f : Nat → Prop) (lo k : Nat) : Nat := nS (fun i => bn (pB (f (lo + i)))) k
theorem cK_0 {f : Nat → Prop} {lo : Nat} : cK f lo 0 = 0 := rfl
theorem cK_1 {f : Nat → Prop} {lo : Nat} : cK f lo 1 = bn (pB (f lo)) := Nat.zero_add _
theorem cK_s {f : Nat → Prop} {lo k : Nat} : cK f lo (k + 1) = cK f lo k + bn (pB (f (lo + k))) := rfl
theorem cK_app {f : Nat → Prop} {lo a b : Nat} : cK f lo (a + b) = cK f lo a + cK f (lo + a) b := by
  unfold cK
  rw [nS_app]
  congr 1
  exact nS_ext (fun i _ => by rw [Nat.add_assoc])
theorem cK_ext {f g : Nat → Prop} {lo k : Nat} (h : ∀ N, lo ≤ N → N < lo + k → (f N ↔ g N)) : cK f lo k = cK g lo k := nS_ext (fun i hi => congrArg bn (pB_cg (h (lo + i) (by omega) (by omega))))
theorem cK_and {f g : Nat → Prop} {b : Bool} {lo k : Nat} (h : ∀ N, lo ≤ N → N < lo + k → (f N ↔ b = true ∧ g N)) : cK f lo k = bn b * cK g lo k := by
  unfold cK
  rw [← nS_mul]
  refine nS_ext (fun i hi => ?_)
  rw [pB_cg (h (lo + i) (by omega) (by omega)), pB_and, bn_and]
  congr 2
  cases b
  · exact pB_f (by decide)
  · exact pB_t rfl
theorem cK_blk {f : Nat → Prop} {lo b : Nat} (a : Nat) : cK f lo (a * b) = nS (fun d => cK f (lo + d * b) b) a := by
  unfold cK
  rw [nS_blk]
  exact nS_ext (fun d _ => nS_ext (fun i _ => by rw [Nat.add_assoc]))
theorem cK_le {f : Nat → Prop} {lo k : Nat} : cK f lo k ≤ k := by
  have := nS_le (f := fun i => bn (pB (f (lo + i)))) (x := 1) (fun i => bn_le _) k
  unfold cK
  omega
theorem cK_mono {f : Nat → Prop} {a b : Nat} (h : a ≤ b) : cK f 0 a ≤ cK f 0 b := by
  obtain ⟨c, rfl⟩ : ∃ c, b = a + c := ⟨b - a, by omega⟩
  rw [cK_app]
  exact Nat.le_add_right _ _
theorem cK_pos {f : Nat → Prop} {lo k : Nat} (h : 0 < cK f lo k) : ∃ N, lo ≤ N ∧ N < lo + k ∧ f N := by
  induction k with
  | zero => exact absurd h (Nat.lt_irrefl 0)
  | succ k ih =>
    rw [cK_s] at h
    by_cases g : f (lo + k)
    · exact ⟨lo + k, by omega, by omega, g⟩
    · rw [pB_f g, bn_f, Nat.add_zero] at h
      obtain ⟨N, h1, h2, h3⟩ := ih h
      exact ⟨N, h1, by omega, h3⟩
/-- the one of a rank is just one -/
theorem cK_uniq {f : Nat → Prop} {a b : Nat} (ha : f a) (hb : f b) (h : cK f 0 a = cK f 0 b) : a = b := by
  have key : ∀ {a b : Nat}, f a → cK f 0 a = cK f 0 b → b ≤ a := fun {a b} ha h => by
    apply Decidable.of_not_not
    intro hn
    have h1 := cK_mono (f := f) (a := a + 1) (b := b) (by omega)
    rw [cK_s, Nat.zero_add, pB_t ha, bn_t] at h1
    omega
  have := key ha h
  have := key hb h.symm
  omega
/-- the depth in a chamber, of a number of n digits -/
def dg (m n N c : Nat) : Nat := N / m ^ (n - 1 - c) % m
theorem dg_lt {m n N c : Nat} (hm : 0 < m) : dg m n N c < m := Nat.mod_lt _ hm
theorem blk_div {m j p N : Nat} (hm : 0 < m) (h1 : p * m ^ j ≤ N) (h2 : N < p * m ^ j + m ^ j) : N / m ^ j = p :=
  Nat.div_eq_of_lt_le h1 (by rw [Nat.succ_mul]; exact h2)
theorem md_e {m p e : Nat} (he : e < m) : (p * m + e) % m = e := by
  rw [Nat.mul_comm, Nat.mul_add_mod, Nat.mod_eq_of_lt he]
theorem dv_e {m p e : Nat} (he : e < m) : (p * m + e) / m = p := by
  rw [Nat.mul_comm, Nat.mul_add_div (by omega), Nat.div_eq_of_lt he, Nat.add_zero]
/-- the digits ahead of a place are those of the number that stands there -/
theorem dg_hi {m n j p N c : Nat} (hm : 0 < m) (h1 : p * m ^ j ≤ N) (h2 : N < p * m ^ j + m ^ j) (hc : c + j + 1 ≤ n) : dg m n N c = p / m ^ (n - 1 - c - j) % m := by
  unfold dg
  rw [← blk_div hm h1 h2, Nat.div_div_eq_div_mul, ← Nat.pow_add, show j + (n - 1 - c - j) = n - 1 - c by omega]
theorem dg_last {m n j p N c : Nat} (hm : 0 < m) (h1 : p * m ^ j ≤ N) (h2 : N < p * m ^ j + m ^ j) (hc : c + j + 1 = n) : dg m n N c = p % m := by
  rw [dg_hi hm h1 h2 (by omega), show n - 1 - c - j = 0 by omega, Nat.pow_zero, Nat.div_one]
/-- from a chamber on, the depths may be and may be side by side -/
def okF (P adj : Nat → Nat → Bool) (m n c N : Nat) : Prop := ∀ i, c < i → i < n → P i (dg m n N i) = true ∧ adj (dg m n N i) (dg m n N (i - 1)) = true
/-- .. of all chambers -/
def okA (P adj : Nat → Nat → Bool) (m n N : Nat) : Prop := P 0 (dg m n N 0) = true ∧ okF P adj m n 0 N
def wN (P adj : Nat → Nat → Bool) (m : Nat) : Nat → Nat → Nat → Nat
  | 0, _, _ => 1
  | j + 1, c, d => nS (fun e => bn (adj e d) * (bn (P (c + 1) e) * wN P adj m j (c + 1) e)) m
theorem wU_N {P adj : Nat → Nat → Bool} {m : Nat} : ∀ j c d, wU P adj m j c d = Int32.ofNat (wN P adj m j c d)
  | 0, _, _ => rfl
  | j + 1, c, d => by
    show jS (fun e => bj (adj e d) * (bj (P (c + 1) e) * wU P adj m j (c + 1) e)) m = Int32.ofNat (nS (fun e => bn (adj e d) * (bn (P (c + 1) e) * wN P adj m j (c + 1) e)) m)
    rw [← jS_oN]
    refine jS_ext (fun e _ => ?_)
    rw [wU_N j, bj_bn, bj_bn, Int32.ofNat_mul, Int32.ofNat_mul]
/-- a block of numbers splits by the next digit -/
theorem blk_s {m j p : Nat} (e : Nat) : p * m ^ (j + 1) + e * m ^ j = (p * m + e) * m ^ j := by
  rw [Nat.pow_succ, Nat.mul_comm (m ^ j) m, ← Nat.mul_assoc, ← Nat.add_mul]
theorem okF_s {P adj : Nat → Nat → Bool} {m n c N : Nat} (hc : c + 1 < n) : okF P adj m n c N ↔ (P (c + 1) (dg m n N (c + 1)) = true ∧ adj (dg m n N (c + 1)) (dg m n N c) = true) ∧ okF P adj m n (c + 1) N := by
  constructor
  · intro h
    exact ⟨h (c + 1) (by omega) hc, fun i h1 h2 => h i (by omega) h2⟩
  · intro h i h1 h2
    by_cases e : i = c + 1
    · rw [e]; exact h.1
    · exact h.2 i (by omega) h2
theorem blk_lt {m j p e N : Nat} (he : e < m) (h1 : (p * m + e) * m ^ j ≤ N) (h2 : N < (p * m + e) * m ^ j + m ^ j) : p * m ^ (j + 1) ≤ N ∧ N < p * m ^ (j + 1) + m ^ (j + 1) := by
  rw [← blk_s] at h1 h2
  have h3 : (e + 1) * m ^ j ≤ m * m ^ j := Nat.mul_le_mul_right _ (by omega)
  have h4 : (e + 1) * m ^ j = e * m ^ j + m ^ j := Nat.succ_mul _ _
  have h5 : m ^ (j + 1) = m * m ^ j := by rw [Nat.pow_succ, Nat.mul_comm]
  constructor
  · exact Nat.le_trans (Nat.le_add_right _ _) h1
  · omega
theorem wN_cnt {P adj : Nat → Nat → Bool} {m n : Nat} (hm : 0 < m) : ∀ j c p, c + j + 1 = n → cK (okF P adj m n c) (p * m ^ j) (m ^ j) = wN P adj m j c (p % m)
  | 0, c, p, h => by
    rw [Nat.pow_zero, cK_1, pB_t (p := okF P adj m n c (p * 1)) (fun i h1 h2 => absurd h2 (by omega))]; rfl
  | j + 1, c, p, h => by
    rw [show m ^ (j + 1) = m * m ^ j by rw [Nat.pow_succ, Nat.mul_comm], cK_blk]
    show _ = nS (fun e => bn (adj e (p % m)) * (bn (P (c + 1) e) * wN P adj m j (c + 1) e)) m
    refine nS_ext (fun e he => ?_)
    rw [← show m ^ (j + 1) = m * m ^ j by rw [Nat.pow_succ, Nat.mul_comm], blk_s]
    have ih := wN_cnt (P := P) (adj := adj) (n := n) hm j (c + 1) (p * m + e) (by omega)
    rw [md_e he] at ih
    rw [← ih, ← Nat.mul_assoc, ← bn_and]
    refine cK_and (fun N h1 h2 => ?_)
    obtain ⟨h3, h4⟩ := blk_lt he h1 h2
    rw [okF_s (by omega), dg_last hm h1 h2 (by omega), dg_last hm h3 h4 (by omega), md_e he, Bool.and_eq_true]
    exact ⟨fun q => ⟨⟨q.1.2, q.1.1⟩, q.2⟩, fun q => ⟨⟨q.1.2, q.1.1⟩, q.2⟩⟩
/-- all of them, counted -/
theorem cnt_all {P adj : Nat → Nat → Bool} {m j : Nat} (hm : 0 < m) : cK (okA P adj m (j + 1)) 0 (m ^ (j + 1)) = nS (fun d => bn (P 0 d) * wN P adj m j 0 d) m := by
  rw [show m ^ (j + 1) = m * m ^ j by rw [Nat.pow_succ, Nat.mul_comm], cK_blk]
  refine nS_ext (fun d hd => ?_)
  rw [Nat.zero_add]
  have ih := wN_cnt (P := P) (adj := adj) (n := j + 1) hm j 0 d (by omega)
  rw [Nat.mod_eq_of_lt hd] at ih
  rw [← ih]
  refine cK_and (fun N h1 h2 => ?_)
  unfold okA
  rw [dg_last hm h1 h2 (by omega), Nat.mod_eq_of_lt hd]
/-- the digits of what stands ahead may be and may be side by side -/
def okP (P adj : Nat → Nat → Bool) (m c p : Nat) : Prop := ∀ i, i < c → P i (dg m c p i) = true ∧ (0 < i → adj (dg m c p i) (dg m c p (i - 1)) = true)
theorem dg_l {m c p : Nat} (hc : 0 < c) : dg m c p (c - 1) = p % m := by
  unfold dg
  rw [show c - 1 - (c - 1) = 0 by omega, Nat.pow_zero, Nat.div_one]
theorem dg_s {m c p e i : Nat} (he : e < m) (hi : i < c) : dg m (c + 1) (p * m + e) i = dg m c p i := by
  unfold dg
  rw [show c + 1 - 1 - i = (c - 1 - i) + 1 by omega, Nat.pow_succ, Nat.mul_comm (m ^ (c - 1 - i)) m, ← Nat.div_div_eq_div_mul, dv_e he]
theorem dg_e {m c p e : Nat} (he : e < m) : dg m (c + 1) (p * m + e) c = e := by
  have := dg_l (m := m) (c := c + 1) (p := p * m + e) (by omega)
  rw [md_e he] at this
  exact this
theorem okP_s {P adj : Nat → Nat → Bool} {m c p e : Nat} (he : e < m) (h : okP P adj m c p) (h1 : P c e = true) (h2 : c = 0 ∨ adj e (p % m) = true) : okP P adj m (c + 1) (p * m + e) := by
  intro i hi
  by_cases e2 : i = c
  · subst e2
    rw [dg_e he]
    refine ⟨h1, fun h0 => ?_⟩
    rw [dg_s he (by omega), dg_l h0]
    exact h2.resolve_left (by omega)
  · rw [dg_s he (by omega)]
    refine ⟨(h i (by omega)).1, fun h0 => ?_⟩
    rw [dg_s he (by omega)]
    exact (h i (by omega)).2 h0
/-- the digits of a block's numbers -/
theorem dg_b {m n j c p e N i : Nat} (hm : 0 < m) (he : e < m) (hn : c + j + 1 = n) (h1 : (p * m + e) * m ^ j ≤ N) (h2 : N < (p * m + e) * m ^ j + m ^ j) (hi : i < c) : dg m n N i = dg m c p i := by
  rw [dg_hi hm h1 h2 (by omega), show n - 1 - i - j = (c - 1 - i) + 1 by omega, Nat.pow_succ, Nat.mul_comm (m ^ (c - 1 - i)) m, ← Nat.div_div_eq_div_mul, dv_e he]; rfl
/-- the ways on from a block's beginning -/
theorem cnt_blk {P adj : Nat → Nat → Bool} {m n j c p e : Nat} (hm : 0 < m) (he : e < m) (hn : c + j + 1 = n) (hok : okP P adj m c p) :
    cK (okA P adj m n) ((p * m + e) * m ^ j) (m ^ j) = bn (P c e && (decide (c = 0) || adj e (p % m))) * wN P adj m j c e := by
  have ih := wN_cnt (P := P) (adj := adj) (n := n) hm j c (p * m + e) (by omega)
  rw [md_e he] at ih
  rw [← ih]
  refine cK_and (fun N h1 h2 => ?_)
  have hl : dg m n N c = e := by rw [dg_last hm h1 h2 (by omega), md_e he]
  have hh : ∀ i, i < c → dg m n N i = dg m c p i := fun i hi => dg_b hm he hn h1 h2 hi
  rw [Bool.and_eq_true, Bool.or_eq_true, decide_eq_true_eq]
  constructor
  · rintro ⟨q1, q2⟩
    refine ⟨⟨?_, ?_⟩, fun i h3 h4 => q2 i (by omega) h4⟩
    · by_cases c0 : c = 0
      · subst c0; rw [hl] at q1; exact q1
      · have := (q2 c (by omega) (by omega)).1
        rwa [hl] at this
    · by_cases c0 : c = 0
      · exact .inl c0
      · have := (q2 c (by omega) (by omega)).2
        rw [hl, hh (c - 1) (by omega), dg_l (by omega)] at this
        exact .inr this
  · rintro ⟨⟨q1, q2⟩, q3⟩
    have all : ∀ i, i ≤ c → P i (dg m n N i) = true ∧ (0 < i → adj (dg m n N i) (dg m n N (i - 1)) = true) := fun i hi => by
      by_cases e2 : i = c
      · subst e2
        rw [hl]
        refine ⟨q1, fun h0 => ?_⟩
        rw [hh (i - 1) (by omega), dg_l h0]
        exact q2.resolve_left (by omega)
      · rw [hh i (by omega)]
        refine ⟨(hok i (by omega)).1, fun h0 => ?_⟩
        rw [hh (i - 1) (by omega)]
        exact (hok i (by omega)).2 h0
    refine ⟨(all 0 (Nat.zero_le _)).1, fun i h3 h4 => ?_⟩
    by_cases h5 : i ≤ c
    · exact ⟨(all i h5).1, (all i h5).2 h3⟩
    · exact q3 i (by omega) h4
