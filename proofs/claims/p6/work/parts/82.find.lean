/-! part 82: the search, when the class has written already -/
/-- the model's cells are alike -/
def agU (J I : Nat → Nat → Int32) : Prop := ∀ a, 85 ≤ a → J a = I a
theorem agU_of {J I : Nat → Nat → Int32} (h : ∀ a b, 85 ≤ a → J a b = I a b) : agU J I := fun a ha => funext (fun b => h a b ha)
theorem mOK_U {J I : Nat → Nat → Int32} (h : agU J I) (D blk : Int32) (t : Nat → Nat) : mOK J D blk t = mOK I D blk t := by
  simp only [mOK, nearM, mntQ, isKM, clnM, clnD, cl1, cl2, cl3, cl4, fB, pinQ, pq, inBl, dpM, cA, nkI, ndI, ncI, nbI, h 85 (by decide), h 86 (by decide), h 88 (by decide), h 95 (by decide), h 97 (by decide), h 98 (by decide), h 104 (by decide), h 105 (by decide)]
theorem MI_U {J I : Nat → Nat → Int32} (h : agU J I) (hm : MI I) : MI J := by
  have e : J = fun a b => if a < 85 then J a b else I a b := funext (fun a => funext (fun b => by
    by_cases g : a < 85
    · rw [if_pos g]
    · rw [if_neg g, h a (by omega)]))
  rw [e]
  exact hm
def patU (I J : Nat → Nat → Int32) : Nat → Nat → Int32 := fun a b => if a < 85 then I a b else J a b
theorem fnd_U {I J Jm : Nat → Nat → Int32} {D blk v : Int32} (h : agU J I) (f : fndP J D blk Jm v) : fndP I D blk (patU I Jm) v := fun hm hb => by
  have nb : nbI J = nbI I := by unfold nbI; rw [h 85 (by decide)]
  have nc : ncI J = ncI I := by unfold ncI; rw [h 85 (by decide)]
  have md : mdI J = mdI I := by unfold mdI; rw [h 85 (by decide)]
  obtain ⟨f1, f2⟩ := f (MI_U h hm) (by rw [nb]; exact hb)
  refine ⟨fun a b hn => ?_, ?_⟩
  · unfold patU
    by_cases g : a < 85
    · rw [if_pos g]
    · rw [if_neg g, f1 a b hn, h a (by omega)]
  · rw [nc, md] at f2
    simp only [mOK_U h] at f2
    have e91 : ∀ c, patU I Jm 91 c = Jm 91 c := fun c => if_neg (by decide)
    simp only [e91]
    exact f2
theorem mask_k : ∀ n, n ≤ 10 → ((1 : Int32) <<< (Int32.ofNat n &&& 31)) - (1 : Int32) = Int32.ofNat (2 ^ n - 1) := by decide
/-- a set of doors speaks of doors alone -/
theorem mask_lt {D : Int32} {n d : Nat} (hn : n ≤ 10) (h : (1 : Int32) ≤ D ∧ D ≤ ((1 : Int32) <<< (Int32.ofNat n &&& 31)) - (1 : Int32)) (z : tb D d = true) : d < n := by
  rw [mask_k n hn] at h
  have p10 : 2 ^ n ≤ 1024 := Nat.le_trans (Nat.pow_le_pow_right (by decide) hn) (by decide)
  have p0 : 0 < 2 ^ n := Nat.two_pow_pos n
  obtain ⟨m, m1, m2, rfl⟩ := rg_b (a := 1) (b := 2 ^ n - 1) rfl rfl (by omega) (by omega) h
  refine Decidable.of_not_not (fun g => ?_)
  have e : tb (Int32.ofNat m) d = m.testBit d := by
    show (Int32.ofNat m).toBitVec.toNat.testBit d = _
    show (BitVec.ofNat 32 m).toNat.testBit d = _
    rw [BitVec.toNat_ofNat, Nat.mod_eq_of_lt (by omega)]
  have p2 : 2 ^ n ≤ 2 ^ d := Nat.pow_le_pow_right (by decide) (by omega)
  rw [e, Nat.testBit_lt_two_pow (by omega)] at z
  cases z
/-- what the class finds, the model finds, where the model's cells are as they were -/
theorem find_E {I J Jm J1 : Nat → Nat → Int32} {L K1 : Nat → Nat → Int64} {R : Nat → Nat} (h : RK I L R) (hG : RG I) (hu : agU J I) {D blk : Int32} {v : Int64} {vm : Int32} (hb : blk = -1 ∨ ∃ b, b < nbI I ∧ blk = Int32.ofNat b) (hc : srP I L R D (-1) blk J1 K1 v) (hf : fndP J D blk Jm vm) : (∀ a b, a ≠ 9 → J1 a b = I a b) ∧ frL K1 L ∧ agS Jm J ∧ ((v = 0 ∧ vm = 0) ∨ (¬ v = 0 ∧ vm = 1 ∧ ∃ N, N < mdI I ^ ncI I ∧ isCuts v (dg (mdI I) (ncI I) N) (ncI I) ∧ (∀ c, c < ncI I → Jm 91 c = Int32.ofNat (dg (mdI I) (ncI I) N c)) ∧ mOK I D blk (dg (mdI I) (ncI I) N))) := by
  have hm := h.mi
  have hU := fnd_U hu hf
  have hm2 := hm.m2
  have hm6 := hm.m6
  have hf1 := (hf (MI_U hu hm) (by rw [show nbI J = nbI I by unfold nbI; rw [hu 85 (by decide)]]; exact hb)).1
  obtain ⟨s1, s2, s3, s4⟩ := search_E (J := I) h hG.1.2.2.2.2.2.2.2 hG.1.2.2.2.2.2.2.1 (fun _ _ _ => rfl) hm (fun d k hd hk => by
    have := hm.db
    show tb (if (-1 : Int32) = -1 then I (R d) 1 else _) k = _
    rw [if_pos rfl]
    exact h.wi d k (by omega) hk) hb hc hU
  refine ⟨s1, s2, hf1, ?_⟩
  have e91 : ∀ c, patU I Jm 91 c = Jm 91 c := fun c => if_neg (by decide)
  rcases s4 with s4 | ⟨t1, t2, N, t3, t4, t5, t6⟩
  · exact .inl s4
  · refine .inr ⟨t1, t2, ?_⟩
    rcases (hU hm hb).2 with ⟨u1, _⟩ | ⟨_, N', u2, u3, _, u4⟩
    · rw [u1] at t2; exact absurd t2 (by decide)
    · refine ⟨N', u2, isCuts_cg t3 (fun c hc' => ?_), fun c hc' => (e91 c).symm.trans (u4 c hc'), u3⟩
      have l1 : dg (mdI I) (ncI I) N c < mdI I := dg_lt (by omega)
      have l2 : dg (mdI I) (ncI I) N' c < mdI I := dg_lt (by omega)
      exact (oN_inj (by omega) (by omega)).mp ((t4 c hc').symm.trans (u4 c hc'))
