/-! part 57: keys, doors, blocks: what both sides hold alike -/
def nkI (I : Nat → Nat → Int32) : Nat := (I 85 35).toNatClampNeg
def ndI (I : Nat → Nat → Int32) : Nat := (I 85 36).toNatClampNeg
def ncI (I : Nat → Nat → Int32) : Nat := (I 85 31).toNatClampNeg
def mdI (I : Nat → Nat → Int32) : Nat := (I 85 32).toNatClampNeg
def szI (I : Nat → Nat → Int32) : Nat := (I 85 34).toNatClampNeg
def nbI (I : Nat → Nat → Int32) : Nat := (I 85 46).toNatClampNeg
/-- the model's own bounds -/
def MI (I : Nat → Nat → Int32) : Prop :=
  (I 85 35 = Int32.ofNat (nkI I)) ∧
  (nkI I ≤ 16) ∧
  (I 85 36 = Int32.ofNat (ndI I)) ∧
  (ndI I ≤ 10) ∧
  (I 85 31 = Int32.ofNat (ncI I)) ∧
  (3 ≤ ncI I) ∧
  (ncI I ≤ 6) ∧
  (I 85 32 = Int32.ofNat (mdI I)) ∧
  (2 ≤ mdI I) ∧
  (mdI I ≤ 6) ∧
  (I 85 34 = Int32.ofNat (szI I)) ∧
  (szI I ≤ ncI I) ∧
  (I 85 46 = Int32.ofNat (nbI I)) ∧
  (nbI I ≤ 4) ∧
  (inR (I 85 33) 1 5) ∧
  (∀ k c, k < nkI I → c < ncI I → ∃ e, e < mdI I ∧ I 86 (6 * k + c) = Int32.ofNat e) ∧
  (∀ k c, k < nkI I → c + 1 < ncI I → cA I (dpM I k (c + 1)) (dpM I k c) = true) ∧
  (∀ c, c < szI I → ∃ e, e < mdI I ∧ I 87 c = Int32.ofNat e) ∧
  (∀ c, c + 1 < szI I → cA I (I 87 (c + 1)).toNatClampNeg (I 87 c).toNatClampNeg = true) ∧
  (∀ b, b < nbI I → ∃ e, 1 ≤ e ∧ e ≤ ncI I ∧ I 104 b = Int32.ofNat e) ∧
  (∀ b c, b < nbI I → c < (I 104 b).toNatClampNeg → ∃ e, e < mdI I ∧ I 105 (6 * b + c) = Int32.ofNat e) ∧
  (∀ a b, a < nbI I → b < nbI I → a ≠ b → ∃ c, c < (I 104 a).toNatClampNeg ∧ c < (I 104 b).toNatClampNeg ∧ I 105 (6 * a + c) ≠ I 105 (6 * b + c)) ∧
  (∀ k, k < nkI I → ∃ e, e < nkI I ∧ I 96 k = Int32.ofNat e) ∧
  (∀ k, nkI I ≤ k → k < 16 → I 96 k = Int32.ofNat k) ∧
  (∀ d k, k < 16 → tb (I 88 k) d = true → k < nkI I ∧ d < ndI I) ∧
  (∀ d k, k < 16 → tb (I 88 k) d = true → (I 95 k &&& I 97 d) = 0) ∧
  (∀ k, nkI I ≤ k → k < 16 → I 89 k = -1)
theorem MI.k {I : Nat → Nat → Int32} (h : MI I) : I 85 35 = Int32.ofNat (nkI I) := h.1
theorem MI.kb {I : Nat → Nat → Int32} (h : MI I) : nkI I ≤ 16 := h.2.1
theorem MI.d {I : Nat → Nat → Int32} (h : MI I) : I 85 36 = Int32.ofNat (ndI I) := h.2.2.1
theorem MI.db {I : Nat → Nat → Int32} (h : MI I) : ndI I ≤ 10 := h.2.2.2.1
theorem MI.c {I : Nat → Nat → Int32} (h : MI I) : I 85 31 = Int32.ofNat (ncI I) := h.2.2.2.2.1
theorem MI.c3 {I : Nat → Nat → Int32} (h : MI I) : 3 ≤ ncI I := h.2.2.2.2.2.1
theorem MI.c6 {I : Nat → Nat → Int32} (h : MI I) : ncI I ≤ 6 := h.2.2.2.2.2.2.1
theorem MI.m {I : Nat → Nat → Int32} (h : MI I) : I 85 32 = Int32.ofNat (mdI I) := h.2.2.2.2.2.2.2.1
theorem MI.m2 {I : Nat → Nat → Int32} (h : MI I) : 2 ≤ mdI I := h.2.2.2.2.2.2.2.2.1
theorem MI.m6 {I : Nat → Nat → Int32} (h : MI I) : mdI I ≤ 6 := h.2.2.2.2.2.2.2.2.2.1
theorem MI.s {I : Nat → Nat → Int32} (h : MI I) : I 85 34 = Int32.ofNat (szI I) := h.2.2.2.2.2.2.2.2.2.2.1
theorem MI.sc {I : Nat → Nat → Int32} (h : MI I) : szI I ≤ ncI I := h.2.2.2.2.2.2.2.2.2.2.2.1
theorem MI.b {I : Nat → Nat → Int32} (h : MI I) : I 85 46 = Int32.ofNat (nbI I) := h.2.2.2.2.2.2.2.2.2.2.2.2.1
theorem MI.bb {I : Nat → Nat → Int32} (h : MI I) : nbI I ≤ 4 := h.2.2.2.2.2.2.2.2.2.2.2.2.2.1
theorem MI.ap {I : Nat → Nat → Int32} (h : MI I) : inR (I 85 33) 1 5 := h.2.2.2.2.2.2.2.2.2.2.2.2.2.2.1
theorem MI.dep {I : Nat → Nat → Int32} (h : MI I) : ∀ k c, k < nkI I → c < ncI I → ∃ e, e < mdI I ∧ I 86 (6 * k + c) = Int32.ofNat e := h.2.2.2.2.2.2.2.2.2.2.2.2.2.2.2.1
theorem MI.near {I : Nat → Nat → Int32} (h : MI I) : ∀ k c, k < nkI I → c + 1 < ncI I → cA I (dpM I k (c + 1)) (dpM I k c) = true := h.2.2.2.2.2.2.2.2.2.2.2.2.2.2.2.2.1
theorem MI.told {I : Nat → Nat → Int32} (h : MI I) : ∀ c, c < szI I → ∃ e, e < mdI I ∧ I 87 c = Int32.ofNat e := h.2.2.2.2.2.2.2.2.2.2.2.2.2.2.2.2.2.1
theorem MI.toldn {I : Nat → Nat → Int32} (h : MI I) : ∀ c, c + 1 < szI I → cA I (I 87 (c + 1)).toNatClampNeg (I 87 c).toNatClampNeg = true := h.2.2.2.2.2.2.2.2.2.2.2.2.2.2.2.2.2.2.1
theorem MI.bs {I : Nat → Nat → Int32} (h : MI I) : ∀ b, b < nbI I → ∃ e, 1 ≤ e ∧ e ≤ ncI I ∧ I 104 b = Int32.ofNat e := h.2.2.2.2.2.2.2.2.2.2.2.2.2.2.2.2.2.2.2.1
theorem MI.bd {I : Nat → Nat → Int32} (h : MI I) : ∀ b c, b < nbI I → c < (I 104 b).toNatClampNeg → ∃ e, e < mdI I ∧ I 105 (6 * b + c) = Int32.ofNat e := h.2.2.2.2.2.2.2.2.2.2.2.2.2.2.2.2.2.2.2.2.1
theorem MI.bp {I : Nat → Nat → Int32} (h : MI I) : ∀ a b, a < nbI I → b < nbI I → a ≠ b → ∃ c, c < (I 104 a).toNatClampNeg ∧ c < (I 104 b).toNatClampNeg ∧ I 105 (6 * a + c) ≠ I 105 (6 * b + c) := h.2.2.2.2.2.2.2.2.2.2.2.2.2.2.2.2.2.2.2.2.2.1
theorem MI.rb {I : Nat → Nat → Int32} (h : MI I) : ∀ k, k < nkI I → ∃ e, e < nkI I ∧ I 96 k = Int32.ofNat e := h.2.2.2.2.2.2.2.2.2.2.2.2.2.2.2.2.2.2.2.2.2.2.1
theorem MI.ru {I : Nat → Nat → Int32} (h : MI I) : ∀ k, nkI I ≤ k → k < 16 → I 96 k = Int32.ofNat k := h.2.2.2.2.2.2.2.2.2.2.2.2.2.2.2.2.2.2.2.2.2.2.2.1
theorem MI.wu {I : Nat → Nat → Int32} (h : MI I) : ∀ d k, k < 16 → tb (I 88 k) d = true → k < nkI I ∧ d < ndI I := h.2.2.2.2.2.2.2.2.2.2.2.2.2.2.2.2.2.2.2.2.2.2.2.2.1
theorem MI.wf {I : Nat → Nat → Int32} (h : MI I) : ∀ d k, k < 16 → tb (I 88 k) d = true → (I 95 k &&& I 97 d) = 0 := h.2.2.2.2.2.2.2.2.2.2.2.2.2.2.2.2.2.2.2.2.2.2.2.2.2.1
theorem MI.hu {I : Nat → Nat → Int32} (h : MI I) : ∀ k, nkI I ≤ k → k < 16 → I 89 k = -1 := h.2.2.2.2.2.2.2.2.2.2.2.2.2.2.2.2.2.2.2.2.2.2.2.2.2.2
/-- keys, doors, blocks of the class are those of the model -/
def RK (I : Nat → Nat → Int32) (L : Nat → Nat → Int64) (R : Nat → Nat) : Prop :=
  (MI I) ∧
  (I 1 1 = I 85 31) ∧
  (I 1 2 = I 85 32) ∧
  (I 1 3 = I 85 33) ∧
  (I 1 6 = I 85 34) ∧
  (I 0 9 = I 85 35) ∧
  (I 0 10 = I 85 36) ∧
  (I 0 17 = I 85 44) ∧
  (I 0 12 = I 85 46) ∧
  (∀ k, k < nkI I → isCuts (L (19 + k) 0) (dpM I k) (ncI I)) ∧
  (∀ k, k < nkI I → I 95 k = I (19 + k) 1) ∧
  (∀ k, k < 16 → I 92 k = I (19 + k) 2) ∧
  (∀ k, k < 16 → I 89 k = I (19 + k) 4) ∧
  (∀ k, k < nkI I → ¬ I 89 k = -1 → I 90 k = I (19 + k) 5) ∧
  (∀ k j, k < nkI I → j < 32 → (tb (I (19 + k) 3) j = true ↔ j < nkI I ∧ I 96 j = I 96 k)) ∧
  (∀ d k, d < 10 → k < 16 → tb (I (R d) 1) k = tb (I 88 k) d) ∧
  (∀ d k, d < 10 → 16 ≤ k → tb (I (R d) 1) k = false) ∧
  (∀ d, d < 10 → I 97 d = I (R d) 0) ∧
  (∀ d, d < 10 → I 98 d = I (R d) 2) ∧
  (∀ d, d < 10 → 35 ≤ R d ∧ R d ≤ 44) ∧
  (∀ d e, d < 10 → e < 10 → R d = R e → d = e) ∧
  (isCuts (L 1 5) (fun c => (I 87 c).toNatClampNeg) (szI I)) ∧
  (∀ b, b < nbI I → isCuts (L 15 b) (fun c => (I 105 (6 * b + c)).toNatClampNeg) (I 104 b).toNatClampNeg)
theorem RK.mi {I : Nat → Nat → Int32} {L : Nat → Nat → Int64} {R : Nat → Nat} (h : RK I L R) : MI I := h.1
theorem RK.ch {I : Nat → Nat → Int32} {L : Nat → Nat → Int64} {R : Nat → Nat} (h : RK I L R) : I 1 1 = I 85 31 := h.2.1
theorem RK.dp {I : Nat → Nat → Int32} {L : Nat → Nat → Int64} {R : Nat → Nat} (h : RK I L R) : I 1 2 = I 85 32 := h.2.2.1
theorem RK.ap {I : Nat → Nat → Int32} {L : Nat → Nat → Int64} {R : Nat → Nat} (h : RK I L R) : I 1 3 = I 85 33 := h.2.2.2.1
theorem RK.sz {I : Nat → Nat → Int32} {L : Nat → Nat → Int64} {R : Nat → Nat} (h : RK I L R) : I 1 6 = I 85 34 := h.2.2.2.2.1
theorem RK.nk {I : Nat → Nat → Int32} {L : Nat → Nat → Int64} {R : Nat → Nat} (h : RK I L R) : I 0 9 = I 85 35 := h.2.2.2.2.2.1
theorem RK.nd {I : Nat → Nat → Int32} {L : Nat → Nat → Int64} {R : Nat → Nat} (h : RK I L R) : I 0 10 = I 85 36 := h.2.2.2.2.2.2.1
theorem RK.ct {I : Nat → Nat → Int32} {L : Nat → Nat → Int64} {R : Nat → Nat} (h : RK I L R) : I 0 17 = I 85 44 := h.2.2.2.2.2.2.2.1
theorem RK.nb {I : Nat → Nat → Int32} {L : Nat → Nat → Int64} {R : Nat → Nat} (h : RK I L R) : I 0 12 = I 85 46 := h.2.2.2.2.2.2.2.2.1
theorem RK.kc {I : Nat → Nat → Int32} {L : Nat → Nat → Int64} {R : Nat → Nat} (h : RK I L R) : ∀ k, k < nkI I → isCuts (L (19 + k) 0) (dpM I k) (ncI I) := h.2.2.2.2.2.2.2.2.2.1
theorem RK.kp {I : Nat → Nat → Int32} {L : Nat → Nat → Int64} {R : Nat → Nat} (h : RK I L R) : ∀ k, k < nkI I → I 95 k = I (19 + k) 1 := h.2.2.2.2.2.2.2.2.2.2.1
theorem RK.kl {I : Nat → Nat → Int32} {L : Nat → Nat → Int64} {R : Nat → Nat} (h : RK I L R) : ∀ k, k < 16 → I 92 k = I (19 + k) 2 := h.2.2.2.2.2.2.2.2.2.2.2.1
theorem RK.kh {I : Nat → Nat → Int32} {L : Nat → Nat → Int64} {R : Nat → Nat} (h : RK I L R) : ∀ k, k < 16 → I 89 k = I (19 + k) 4 := h.2.2.2.2.2.2.2.2.2.2.2.2.1
theorem RK.kd {I : Nat → Nat → Int32} {L : Nat → Nat → Int64} {R : Nat → Nat} (h : RK I L R) : ∀ k, k < nkI I → ¬ I 89 k = -1 → I 90 k = I (19 + k) 5 := h.2.2.2.2.2.2.2.2.2.2.2.2.2.1
theorem RK.kr {I : Nat → Nat → Int32} {L : Nat → Nat → Int64} {R : Nat → Nat} (h : RK I L R) : ∀ k j, k < nkI I → j < 32 → (tb (I (19 + k) 3) j = true ↔ j < nkI I ∧ I 96 j = I 96 k) := h.2.2.2.2.2.2.2.2.2.2.2.2.2.2.1
theorem RK.wi {I : Nat → Nat → Int32} {L : Nat → Nat → Int64} {R : Nat → Nat} (h : RK I L R) : ∀ d k, d < 10 → k < 16 → tb (I (R d) 1) k = tb (I 88 k) d := h.2.2.2.2.2.2.2.2.2.2.2.2.2.2.2.1
theorem RK.w0 {I : Nat → Nat → Int32} {L : Nat → Nat → Int64} {R : Nat → Nat} (h : RK I L R) : ∀ d k, d < 10 → 16 ≤ k → tb (I (R d) 1) k = false := h.2.2.2.2.2.2.2.2.2.2.2.2.2.2.2.2.1
theorem RK.wa {I : Nat → Nat → Int32} {L : Nat → Nat → Int64} {R : Nat → Nat} (h : RK I L R) : ∀ d, d < 10 → I 97 d = I (R d) 0 := h.2.2.2.2.2.2.2.2.2.2.2.2.2.2.2.2.2.1
theorem RK.bu {I : Nat → Nat → Int32} {L : Nat → Nat → Int64} {R : Nat → Nat} (h : RK I L R) : ∀ d, d < 10 → I 98 d = I (R d) 2 := h.2.2.2.2.2.2.2.2.2.2.2.2.2.2.2.2.2.2.1
theorem RK.rr {I : Nat → Nat → Int32} {L : Nat → Nat → Int64} {R : Nat → Nat} (h : RK I L R) : ∀ d, d < 10 → 35 ≤ R d ∧ R d ≤ 44 := h.2.2.2.2.2.2.2.2.2.2.2.2.2.2.2.2.2.2.2.1
theorem RK.ri {I : Nat → Nat → Int32} {L : Nat → Nat → Int64} {R : Nat → Nat} (h : RK I L R) : ∀ d e, d < 10 → e < 10 → R d = R e → d = e := h.2.2.2.2.2.2.2.2.2.2.2.2.2.2.2.2.2.2.2.2.1
theorem RK.to {I : Nat → Nat → Int32} {L : Nat → Nat → Int64} {R : Nat → Nat} (h : RK I L R) : isCuts (L 1 5) (fun c => (I 87 c).toNatClampNeg) (szI I) := h.2.2.2.2.2.2.2.2.2.2.2.2.2.2.2.2.2.2.2.2.2.1
theorem RK.bl {I : Nat → Nat → Int32} {L : Nat → Nat → Int64} {R : Nat → Nat} (h : RK I L R) : ∀ b, b < nbI I → isCuts (L 15 b) (fun c => (I 105 (6 * b + c)).toNatClampNeg) (I 104 b).toNatClampNeg := h.2.2.2.2.2.2.2.2.2.2.2.2.2.2.2.2.2.2.2.2.2.2
/-- a door's pins, of the class -/
def pinC (I : Nat → Nat → Int32) (L : Nat → Nat → Int64) (R : Nat → Nat) (d : Nat) : Int64 := G_14 L (I (R d) 1) 0 0 (nkI I)
theorem MI.dep8 {I : Nat → Nat → Int32} (h : MI I) : ∀ k c, k < nkI I → c < ncI I → ∃ e, e < 8 ∧ I 86 (6 * k + c) = Int32.ofNat e := fun k c h1 h2 => by
  obtain ⟨e, q1, q2⟩ := h.dep k c h1 h2
  have := h.m6
  exact ⟨e, by omega, q2⟩
theorem lay_get {I J : Nat → Nat → Int32} {d : Nat} (h : MI I) (hd : d < 32) (hl : layP I (Int32.ofNat d) J) : agr 106 J I ∧ pinM I d (nkI I) (ncI I) (nkI I) 0 J := hl d (nkI I) (ncI I) rfl hd h.k h.c h.kb h.c6 h.dep8
/-- the pins of both sides -/
theorem pin_RK {I J : Nat → Nat → Int32} {L : Nat → Nat → Int64} {R : Nat → Nat} (h : RK I L R) {d : Nat} (hd : d < 10) (hl : layP I (Int32.ofNat d) J) {c e : Nat} (hc : c < 6) (he : e < 8) : lb (pinC I L R d) (8 * c + e) = tb (J 106 c) e := by
  have hm := h.mi
  exact pin_CM (I := I) (L := L) (w := I (R d) 1) (d := d) hm.kb hm.c6 h.kc (fun k hk => h.wi d k hd (by have := hm.kb; omega)) hm.dep8 (lay_get hm (by omega) hl).2 hc he
/-- a key is let in by a door's pins -/
def inP (I : Nat → Nat → Int32) (d k : Nat) : Bool := (List.range (ncI I)).all (fun c => (List.range (nkI I)).any (fun i => tb (I 88 i) d && decide (I 86 (6 * i + c) = I 86 (6 * k + c))))
/-- it fits, too -/
def comM (I : Nat → Nat → Int32) (d k : Nat) : Bool := decide ((I 95 k &&& I 97 d) = 0) && inP I d k
def opnM (I : Nat → Nat → Int32) (d k : Nat) : Bool := decide (I 98 d = Int32.ofNat k) || comM I d k
theorem inP_iff {I : Nat → Nat → Int32} {d k : Nat} : inP I d k = true ↔ ∀ c, c < ncI I → ∃ i, i < nkI I ∧ tb (I 88 i) d = true ∧ I 86 (6 * i + c) = I 86 (6 * k + c) := by
  unfold inP
  rw [List.all_eq_true]
  constructor
  · intro h c hc
    obtain ⟨i, hi, q⟩ := List.any_eq_true.mp (h c (List.mem_range.mpr hc))
    rw [Bool.and_eq_true, decide_eq_true_eq] at q
    exact ⟨i, List.mem_range.mp hi, q⟩
  · intro h c hc
    obtain ⟨i, hi, q⟩ := h c (List.mem_range.mp hc)
    exact List.any_eq_true.mpr ⟨i, List.mem_range.mpr hi, by rw [Bool.and_eq_true, decide_eq_true_eq]; exact q⟩
theorem bool_iff {a b : Bool} (h : a = true ↔ b = true) : a = b := by
  cases a <;> cases b
  · rfl
  · exact absurd (h.mpr rfl) (by decide)
  · exact absurd (h.mp rfl) (by decide)
  · rfl
/-- who comes in, of the model -/
theorem come_M {I J : Nat → Nat → Int32} (hm : MI I) {d k : Nat} (hd : d < 10) (hk : k < nkI I) (hl : layP I (Int32.ofNat d) J) : comesB J (Int32.ofNat d) (Int32.ofNat k) = comM I d k := by
  have hkb := hm.kb
  have h6 := hm.c6
  obtain ⟨ha, hp⟩ := lay_get hm (show d < 32 by omega) hl
  have key : inB J (Int32.ofNat k) = inP I d k := by
    apply bool_iff
    rw [inP_iff]
    unfold inB
    rw [List.all_eq_true, ha 85 31 (by decide)]
    have one : ∀ c, c < ncI I → (hs (J 106 c) (J 86 ((6 : Int32) * Int32.ofNat k + Int32.ofNat c).toNatClampNeg) = true ↔ ∃ i, i < nkI I ∧ tb (I 88 i) d = true ∧ I 86 (6 * i + c) = I 86 (6 * k + c)) := fun c hc => by
      obtain ⟨e, he, q⟩ := hm.dep8 k c hk hc
      rw [oN_6, ofN_clamp (by omega), ha 86 _ (by decide), q]
      have eh : hs (J 106 c) (Int32.ofNat e) = tb (J 106 c) e := by unfold hs tb; rw [shD_nat (by omega)]
      rw [eh, hp c e (by omega) (by omega)]
      constructor
      · rintro ⟨i, _, q2, q3, q4⟩; exact ⟨i, q2, q3, q4⟩
      · rintro ⟨i, q2, q3, q4⟩; exact ⟨i, .inl ⟨q2, hc⟩, q2, q3, q4⟩
    constructor
    · intro q c hc
      exact (one c hc).mp (q c (List.mem_range.mpr hc))
    · intro q c hc
      exact (one c (List.mem_range.mp hc)).mpr (q c (List.mem_range.mp hc))
  unfold comesB comM
  rw [key, ofN_clamp (by omega), ofN_clamp (by omega), ha 95 k (by decide), ha 97 d (by decide)]
/-- who comes in, of the class -/
theorem come_C {I : Nat → Nat → Int32} {L : Nat → Nat → Int64} {R : Nat → Nat} (h : RK I L R) {d k : Nat} (hd : d < 10) (hk : k < nkI I) : T_17 I L (R d) (pinC I L R d) (Int32.ofNat k) = comM I d k := by
  have hm := h.mi
  have hkb := hm.kb
  have h6 := hm.c6
  have hf : ∀ i c, i < nkI I → c < ncI I → dpM I i c < 8 ∧ I 86 (6 * i + c) = Int32.ofNat (dpM I i c) := fun i c hi hc => by
    obtain ⟨e, q1, q2⟩ := hm.dep8 i c hi hc
    unfold dpM
    rw [q2, ofN_clamp (by omega)]
    exact ⟨q1, rfl⟩
  have key : letIn (L (19 + k) 0) (pinC I L R d) ↔ inP I d k = true := by
    show (_ &&& (_ ^^^ _)) = 0 ↔ _
    rw [letIn_iff (h.kc k hk) h6 (fun c hc => (hf k c hk hc).1), inP_iff]
    have one : ∀ c, c < ncI I → (lb (pinC I L R d) (8 * c + dpM I k c) = true ↔ ∃ i, i < nkI I ∧ tb (I 88 i) d = true ∧ I 86 (6 * i + c) = I 86 (6 * k + c)) := fun c hc => by
      have h8 := (hf k c hk hc).1
      have := lb_14 (L := L) (w := I (R d) 1) (nkI I) 0 0 (8 * c + dpM I k c) (by omega)
      unfold pinC
      rw [this, lb_0]
      constructor
      · rintro (q | ⟨i, _, q2, q3, q4⟩)
        · cases q
        · have hi : i < nkI I := by omega
          rw [h.kc i hi c _ h8, decide_eq_true_eq] at q4
          exact ⟨i, hi, by rw [← h.wi d i hd (by omega)]; exact q3, by rw [(hf i c hi hc).2, (hf k c hk hc).2, q4.2]⟩
      · rintro ⟨i, hi, q3, q4⟩
        refine .inr ⟨i, Nat.zero_le _, by omega, by rw [h.wi d i hd (by omega)]; exact q3, ?_⟩
        rw [h.kc i hi c _ h8, decide_eq_true_eq]
        refine ⟨hc, ?_⟩
        unfold dpM
        rw [q4]
    exact ⟨fun q c hc => (one c hc).mp (q c hc), fun q c hc => (one c hc).mpr (q c hc)⟩
  unfold T_17 comM
  rw [ofN_clamp (by omega), ← h.kp k hk, ← h.wa d hd]
  by_cases h1 : (I 95 k &&& I 97 d) = 0
  · rw [if_pos h1, decide_eq_true h1, Bool.true_and]
    by_cases h2 : letIn (L (19 + k) 0) (pinC I L R d)
    · rw [if_pos h2]
      exact (key.mp h2).symm
    · rw [if_neg h2]
      exact (Bool.eq_false_iff.mpr (fun q => h2 (key.mpr q))).symm
  · rw [if_neg h1, decide_eq_false h1, Bool.false_and]
theorem open_C {I : Nat → Nat → Int32} {L : Nat → Nat → Int64} {R : Nat → Nat} (h : RK I L R) {d k : Nat} (hd : d < 10) (hk : k < nkI I) : T_16 I L (R d) (pinC I L R d) (Int32.ofNat k) = opnM I d k := by
  unfold T_16 opnM
  rw [← h.bu d hd]
  by_cases h1 : I 98 d = Int32.ofNat k
  · rw [if_pos h1, decide_eq_true h1]; rfl
  · rw [if_neg h1, decide_eq_false h1, Bool.false_or, come_C h hd hk]
    cases comM I d k <;> rfl
