/-! some parts, joined -/
section
/-! part 82: the search, when the class has written already -/
/-- the model's cells are alike -/
noncomputable def agU (J I : Nat → Nat → Int32) : Prop := ∀ a, 85 ≤ a → J a = I a
theorem agU_of {J I : Nat → Nat → Int32} (h : ∀ a b, 85 ≤ a → J a b = I a b) : agU J I := fun a ha => funext (fun b => h a b ha)
theorem mOK_U {J I : Nat → Nat → Int32} (h : agU J I) (D blk : Int32) (t : Nat → Nat) : mOK J D blk t = mOK I D blk t := by
  simp only [mOK, nearM, mntQ, isKM, clnM, clnD, cl1, cl2, cl3, cl4, fB, pinQ, pq, inBl, dpM, cA, nkI, ndI, ncI, nbI, h 85 (by decide), h 86 (by decide), h 88 (by decide), h 95 (by decide), h 97 (by decide), h 98 (by decide), h 104 (by decide), h 105 (by decide)]
theorem MI_U {J I : Nat → Nat → Int32} (h : agU J I) (hm : MI I) : MI J := by
  have e : J = fun a b => if a < 85 then J a b else I a b := funext (fun a => funext (fun b => by
    by_cases g : a < 85
    · rw [if_pos g]
    · rw [if_neg g, h a (by omega)]))
  rw [e]
  exact hm
noncomputable def patU (I J : Nat → Nat → Int32) : Nat → Nat → Int32 := fun a b => if a < 85 then I a b else J a b
theorem fnd_U {I J Jm : Nat → Nat → Int32} {D blk v : Int32} (h : agU J I) (f : fndP J D blk Jm v) : fndP I D blk (patU I Jm) v := fun hm hb => by
  have nb : nbI J = nbI I := by unfold nbI; rw [h 85 (by decide)]
  have nc : ncI J = ncI I := by unfold ncI; rw [h 85 (by decide)]
  have md : mdI J = mdI I := by unfold mdI; rw [h 85 (by decide)]
  obtain ⟨f1, f2⟩ := f (MI_U h hm) (by rw [nb]; exact hb)
  refine ⟨fun a b hn => ?_, ?_⟩
  · unfold patU
    by_cases g : a < 85
    · rw [if_pos g]
    · rw [if_neg g, f1 a b hn, h a (by omega)]
  · rw [nc, md] at f2
    simp only [mOK_U h] at f2
    have e91 : ∀ c, patU I Jm 91 c = Jm 91 c := fun c => if_neg (by decide)
    simp only [e91]
    exact f2
theorem mask_k : ∀ n, n ≤ 10 → ((1 : Int32) <<< (Int32.ofNat n &&& 31)) - (1 : Int32) = Int32.ofNat (2 ^ n - 1) := by decide
/-- a set of doors speaks of doors alone -/
theorem mask_lt {D : Int32} {n d : Nat} (hn : n ≤ 10) (h : (1 : Int32) ≤ D ∧ D ≤ ((1 : Int32) <<< (Int32.ofNat n &&& 31)) - (1 : Int32)) (z : tb D d = true) : d < n := by
  rw [mask_k n hn] at h
  have p10 : 2 ^ n ≤ 1024 := Nat.le_trans (Nat.pow_le_pow_right (by decide) hn) (by decide)
  have p0 : 0 < 2 ^ n := Nat.two_pow_pos n
  obtain ⟨m, m1, m2, rfl⟩ := rg_b (a := 1) (b := 2 ^ n - 1) rfl rfl (by omega) (by omega) h
  refine Decidable.of_not_not (fun g => ?_)
  have e : tb (Int32.ofNat m) d = m.testBit d := by
    show (Int32.ofNat m).toBitVec.toNat.testBit d = _
    show (BitVec.ofNat 32 m).toNat.testBit d = _
    rw [BitVec.toNat_ofNat, Nat.mod_eq_of_lt (by omega)]
  have p2 : 2 ^ n ≤ 2 ^ d := Nat.pow_le_pow_right (by decide) (by omega)
  rw [e, Nat.testBit_lt_two_pow (by omega)] at z
  cases z
/-- what the class finds, the model finds, where the model's cells are as they were -/
theorem find_E {I J Jm J1 : Nat → Nat → Int32} {L K1 : Nat → Nat → Int64} {R : Nat → Nat} (h : RK I L R) (hG : RG I) (hu : agU J I) {D blk : Int32} {v : Int64} {vm : Int32} (hb : blk = -1 ∨ ∃ b, b < nbI I ∧ blk = Int32.ofNat b) (hc : srP I L R D (-1) blk J1 K1 v) (hf : fndP J D blk Jm vm) : (∀ a b, a ≠ 9 → J1 a b = I a b) ∧ frL K1 L ∧ agS Jm J ∧ ((v = 0 ∧ vm = 0) ∨ (¬ v = 0 ∧ vm = 1 ∧ ∃ N, N < mdI I ^ ncI I ∧ isCuts v (dg (mdI I) (ncI I) N) (ncI I) ∧ (∀ c, c < ncI I → Jm 91 c = Int32.ofNat (dg (mdI I) (ncI I) N c)) ∧ mOK I D blk (dg (mdI I) (ncI I) N))) := by
  have hm := h.mi
  have hU := fnd_U hu hf
  have hm2 := hm.m2
  have hm6 := hm.m6
  have hf1 := (hf (MI_U hu hm) (by rw [show nbI J = nbI I by unfold nbI; rw [hu 85 (by decide)]]; exact hb)).1
  obtain ⟨s1, s2, s3, s4⟩ := search_E (J := I) h hG.1.2.2.2.2.2.2.2 hG.1.2.2.2.2.2.2.1 (fun _ _ _ => rfl) hm (fun d k hd hk => by
    have := hm.db
    show tb (if (-1 : Int32) = -1 then I (R d) 1 else _) k = _
    rw [if_pos rfl]
    exact h.wi d k (by omega) hk) hb hc hU
  refine ⟨s1, s2, hf1, ?_⟩
  have e91 : ∀ c, patU I Jm 91 c = Jm 91 c := fun c => if_neg (by decide)
  rcases s4 with s4 | ⟨t1, t2, N, t3, t4, t5, t6⟩
  · exact .inl s4
  · refine .inr ⟨t1, t2, ?_⟩
    rcases (hU hm hb).2 with ⟨u1, _⟩ | ⟨_, N', u2, u3, _, u4⟩
    · rw [u1] at t2; exact absurd t2 (by decide)
    · refine ⟨N', u2, isCuts_cg t3 (fun c hc' => ?_), fun c hc' => (e91 c).symm.trans (u4 c hc'), u3⟩
      have l1 : dg (mdI I) (ncI I) N c < mdI I := dg_lt (by omega)
      have l2 : dg (mdI I) (ncI I) N' c < mdI I := dg_lt (by omega)
      exact (oN_inj (by omega) (by omega)).mp ((t4 c hc').symm.trans (u4 c hc'))
end
section
/-! part 83: find -/
theorem find_new {I J4 J34 J45 J : Nat → Nat → Int32} {L K9 : Nat → Nat → Int64} {R : Nat → Nat} (h : RK I L R) (hG : RG I) {D blk vm w : Int32} {v : Int64} (hb : blk = -1 ∨ ∃ b, b < nbI I ∧ blk = Int32.ofNat b) (hD : (1 : Int32) ≤ D ∧ D ≤ ((1 : Int32) <<< ((I 0 10) &&& 31)) - (1 : Int32)) (hc : srP I L R D (-1) blk J4 K9 v) (hn : nkI I < 16) (hv : ¬ v = 0)
    (hw : wsP (upI (upI (upI J4 (19 + nkI I) 1 (I 1 4)) (19 + nkI I) 3 ((1 : Int32) <<< (Int32.ofNat (nkI I) &&& 31))) 0 9 (Int32.ofNat (nkI I) + (1 : Int32))) R D (Int32.ofNat (nkI I)) 1 J34)
    (hf : fndP J34 D blk J45 vm) (ha : adP (upI J45 85 42 (0 : Int32)) D J w) : vm = 1 ∧ w = Int32.ofNat (nkI I) ∧ J 85 42 = 0 ∧ RK J (upL K9 (19 + nkI I) 0 v) R := by
  have hm := h.mi
  have hdb := hm.db
  have hkb := hm.kb
  have h6 := hm.c6
  have m6 := hm.m6
  have j4 : ∀ a b, a ≠ 9 → J4 a b = I a b := hc.1
  obtain ⟨w1, w2⟩ := hw (fun d hd => h.rr d hd) (fun d e hd he => h.ri d e hd he) (ndI I) (nkI I) (by rw [upI_ne (by omega), upI_ne (by omega), upI_ne (by omega), j4 0 10 (by decide)]; exact h.d1) hdb rfl (by omega)
  have u : ∀ a b, 85 ≤ a → J34 a b = I a b := fun a b q => by
    rw [w1 a b (by omega), upI_ne (by omega), upI_ne (by omega), upI_ne (by omega), j4 a b (by omega)]
  obtain ⟨_, k2, k3, k4⟩ := find_E h hG (agU_of u) hb hc hf
  rcases k4 with ⟨z, _⟩ | ⟨_, vm1, N, n1, n2, n3, n4⟩
  · exact absurd z hv
  obtain ⟨o1, o2, o3, o4⟩ := n4
  obtain ⟨r1, r2, r3, r4, r5, r6⟩ := ha (nkI I) (ncI I) (by rw [upI_ne (by omega), k3 85 35 (by unfold scr; omega), u 85 35 (by omega)]; exact hm.k) hn (by rw [upI_ne (by omega), k3 85 31 (by unfold scr; omega), u 85 31 (by omega)]; exact hm.c) h6
  -- cells of the last state
  have jM : ∀ a b, ¬ scr a b → 85 ≤ a → ¬ ((a = 85 ∧ b = 35) ∨ (a = 88 ∧ b = nkI I) ∨ (a = 95 ∧ b = nkI I) ∨ (a = 86 ∧ 6 * nkI I ≤ b)) → J a b = I a b := fun a b q1 q2 q3 => by
    rw [r6 a b q3, upI_ne (fun z => q1 (by unfold scr; omega)), k3 a b q1, u a b q2]
  have jC : ∀ a b, ¬ scr a b → a < 85 → J a b = J34 a b := fun a b q1 q2 => by
    rw [r6 a b (by omega), upI_ne (by omega), k3 a b q1]
  have jB : ∀ a b, ¬ scr a b → a < 85 → ¬ (35 ≤ a ∧ a ≤ 44 ∧ b = 1) → J a b = upI (upI (upI J4 (19 + nkI I) 1 (I 1 4)) (19 + nkI I) 3 ((1 : Int32) <<< (Int32.ofNat (nkI I) &&& 31))) 0 9 (Int32.ofNat (nkI I) + (1 : Int32)) a b := fun a b q1 q2 q3 => by
    rw [jC a b q1 q2, w1 a b q3]
  have jI : ∀ a b, ¬ scr a b → a < 85 → ¬ (35 ≤ a ∧ a ≤ 44 ∧ b = 1) → ¬ (a = 19 + nkI I ∧ (b = 1 ∨ b = 3)) → ¬ (a = 0 ∧ b = 9) → J a b = I a b := fun a b q1 q2 q3 q4 q5 => by
    rw [jB a b q1 q2 q3, upI_ne q5, upI_ne (by omega), upI_ne (by omega), j4 a b (fun z => q1 (by unfold scr; omega))]
  have kf : ∀ a b, ¬ (a = 10 ∨ a = 11 ∨ (a = 9 ∧ b = 8)) → K9 a b = L a b := k2
  refine ⟨vm1, r1, by rw [r6 85 42 (by omega), upI_s], RK_key h hG.1.2.2.2.2.2.2.2 hn (t := dg (mdI I) (ncI I) N) (fun c hc' => dg_lt (by have := hm.m2; omega)) o1 (D := D) (fun d z => ?_) n2 (fun a b q1 q2 => ?_) ?_ (fun b => ?_) r2 ?_ (fun c hc' => ?_) (fun k c h1 h2 => ?_) (fun k hk => ?_) ?_ (fun k hk => ?_) upL_s (fun k hk => ?_) ?_ (fun k hk => ?_) (fun j hj => ?_) (fun k hk => ?_) (fun d k hd => ?_)⟩
  · have lt : d < ndI I := by
      rw [h.d1] at hD
      exact mask_lt hdb hD z
    exact ⟨lt, (o4 d lt).1 z⟩
  · by_cases g : a < 85
    · exact jI a b q1 g (by omega) (by omega) (by omega)
    · exact jM a b q1 (by omega) (by omega)
  · rw [upL_ne (by omega), kf 1 5 (by omega)]
  · rw [upL_ne (by omega), kf 15 b (by omega)]
  · rw [jB 0 9 (by unfold scr; omega) (by omega) (by omega), upI_s, oN_s]
  · rw [r5 c hc', upI_ne (by omega), n3 c hc']
  · exact jM 86 _ (by unfold scr; omega) (by omega) (by omega)
  · by_cases g : k = nkI I
    · rw [if_pos g, g]; exact r3
    · rw [if_neg g]; exact jM 88 k (by unfold scr; omega) (by omega) (by omega)
  · rw [r4, upI_ne (by omega), k3 85 43 (by unfold scr; omega), u 85 43 (by omega)]
  · exact jM 95 k (by unfold scr; omega) (by omega) (by omega)
  · rw [upL_ne (by omega), kf _ 0 (by omega)]
  · rw [jB _ 1 (by unfold scr; omega) (by omega) (by omega), upI_ne (by omega), upI_ne (by omega), upI_s]
    exact hG.1.2.2.2.2.2.2.2.symm
  · exact jI _ 1 (by unfold scr; omega) (by omega) (by omega) (by omega) (by omega)
  · rw [jB _ 3 (by unfold scr; omega) (by omega) (by omega), upI_ne (by omega), upI_s, tb_1shl (by omega)]
  · exact jI _ 3 (by unfold scr; omega) (by omega) (by omega) (by omega) (by omega)
  · have hr := h.rr d hd
    rw [jC (R d) 1 (by unfold scr; omega) (by omega), w2 d k hd, upI_ne (by omega), upI_ne (by omega), upI_ne (by omega), j4 (R d) 1 (by omega)]
    by_cases g : k = nkI I
    · subst g
      rw [if_pos rfl]
      by_cases z : tb D d = true
      · have lt : d < ndI I := by
          rw [h.d1] at hD
          exact mask_lt hdb hD z
        rw [if_pos ⟨rfl, lt, z⟩, z]; rfl
      · rw [if_neg (fun y => z y.2.2), h.wi d _ hd hn, Bool.eq_false_iff.mpr z]
        exact Bool.eq_false_iff.mpr (fun y => absurd (hm.wu d _ hn y).1 (by omega))
    · rw [if_neg g, if_neg (fun y => g y.1)]
end
section
/-! part 84: find, the pair -/
theorem find_pre {I J4 J34 J45 : Nat → Nat → Int32} {L K9 : Nat → Nat → Int64} {R : Nat → Nat} (h : RK I L R) (hG : RG I) {D blk vm : Int32} {v : Int64} (hb : blk = -1 ∨ ∃ b, b < nbI I ∧ blk = Int32.ofNat b) (hc : srP I L R D (-1) blk J4 K9 v)
    (hw : wsP (upI (upI (upI J4 (19 + nkI I) 1 (I 1 4)) (19 + nkI I) 3 ((1 : Int32) <<< (Int32.ofNat (nkI I) &&& 31))) 0 9 (Int32.ofNat (nkI I) + (1 : Int32))) R D (Int32.ofNat (nkI I)) 1 J34) (hn : nkI I < 16) : (∀ b, J34 85 b = I 85 b) ∧ (fndP J34 D blk J45 vm → (∀ b, b ≠ 42 → J45 85 b = I 85 b) ∧ ((v = 0 ∧ vm = 0) ∨ (¬ v = 0 ∧ vm = 1))) := by
  have hdb := h.mi.db
  have j4 : ∀ a b, a ≠ 9 → J4 a b = I a b := hc.1
  obtain ⟨w1, _⟩ := hw (fun d hd => h.rr d hd) (fun d e hd he => h.ri d e hd he) (ndI I) (nkI I) (by rw [upI_ne (by omega), upI_ne (by omega), upI_ne (by omega), j4 0 10 (by decide)]; exact h.d1) hdb rfl (by omega)
  have u : ∀ a b, 85 ≤ a → J34 a b = I a b := fun a b q => by
    rw [w1 a b (by omega), upI_ne (by omega), upI_ne (by omega), upI_ne (by omega), j4 a b (by omega)]
  refine ⟨fun b => u 85 b (by omega), fun hf => ?_⟩
  obtain ⟨_, _, k3, k4⟩ := find_E h hG (agU_of u) hb hc hf
  refine ⟨fun b hb => by rw [k3 85 b (by unfold scr; omega), u 85 b (by omega)], ?_⟩
  rcases k4 with z | ⟨z1, z2, _⟩
  · exact .inl z
  · exact .inr ⟨z1, z2⟩
theorem find_no {I J4 J71 : Nat → Nat → Int32} {L K9 : Nat → Nat → Int64} {R : Nat → Nat} (h : RK I L R) (hG : RG I) {D blk vm : Int32} {v : Int64} (hb : blk = -1 ∨ ∃ b, b < nbI I ∧ blk = Int32.ofNat b) (hc : srP I L R D (-1) blk J4 K9 v) (hf : fndP J4 D blk J71 vm) : (∀ b, b ≠ 42 → J71 85 b = I 85 b) ∧ ((v = 0 ∧ vm = 0) ∨ (¬ v = 0 ∧ vm = 1)) ∧ RK J71 K9 R := by
  obtain ⟨k1, k2, k3, k4⟩ := find_E h hG (agU_of (fun a b q => hc.1 a b (by omega))) hb hc hf
  have ag : agS J71 I := fun a b q => by rw [k3 a b q, k1 a b (fun z => q (by unfold scr; omega))]
  refine ⟨fun b hb => ag 85 b (by unfold scr; omega), ?_, RK_s h ag (fun k _ => k2 _ _ (by omega)) (k2 1 5 (by omega)) (fun b => k2 15 b (by omega))⟩
  rcases k4 with z | ⟨z1, z2, _⟩
  · exact .inl z
  · exact .inr ⟨z1, z2⟩
set_option maxHeartbeats 4000000 in
theorem qp_12 {h : sH} {I : Nat → Nat → Int32} {L : Nat → Nat → Int64} {R : Nat → Nat} (th : qH h I L R) (hK : RK I L R) (hG : RG I) {a1 : Int32} {r : sR} (gW : qGo 80 [.ref (0), .int (a1), .ref (117)] h r)
    (p1 : ∀ (c3 : (1 : Int32) ≤ a1 ∧ a1 ≤ (((1 : Int32) <<< ((I 0 10) &&& 31)) - (1 : Int32))), ∀ (v8 : Int64), ∀ (j4 : Nat → Nat → Int32), ∀ (K9 : Nat → Nat → Int64), ∀ (e7 : srP I L R a1 (-1 : Int32) (-1 : Int32) j4 K9 v8), ∀ (c14 : ¬ (v8 = (0 : Int64))), ∀ (c16 : (j4 0 9) < (16 : Int32)), ∀ (bb21 : sIn (j4 0 9) 16 = true), ∀ (j34 : Nat → Nat → Int32), ∀ (e37 : wsP (upI (upI (upI j4 (19 + (j4 0 9).toNatClampNeg) 1 (j4 1 4)) (19 + (j4 0 9).toNatClampNeg) 3 ((1 : Int32) <<< ((j4 0 9) &&& 31))) 0 9 ((j4 0 9) + (1 : Int32))) R a1 (j4 0 9) (1 : Int32) j34), ∀ (bb38 : sIn (0 : Int32) 1 = true), ∀ (c44 : (1 : Int32) ≤ a1 ∧ a1 ≤ (((1 : Int32) <<< ((j34 85 36) &&& 31)) - (1 : Int32))), ∀ (v49 : Int32), ∀ (j45 : Nat → Nat → Int32), ∀ (e48 : fndP j34 a1 (-1 : Int32) j45 v49), ∀ (c50 : ¬ v49 = 0), ∀ (c51 : ¬ (j45 85 35) = (16 : Int32)), ∀ (v58 : Int32), ∀ (j54 : Nat → Nat → Int32), ∀ (e57 : adP (upI j45 85 42 (0 : Int32)) a1 j54 v58), j54 85 42 = (0 : Int32) ∧ (upL (upL K9 (19 + (j4 0 9).toNatClampNeg) 0 v8) 117 (((0 : Int32)).toNatClampNeg) ((j4 0 9).toInt64)) 117 (((0 : Int32)).toNatClampNeg) = v58.toInt64 ∧ RK j54 (upL (upL K9 (19 + (j4 0 9).toNatClampNeg) 0 v8) 117 (((0 : Int32)).toNatClampNeg) ((j4 0 9).toInt64)) R)
    (p2 : ∀ (c3 : (1 : Int32) ≤ a1 ∧ a1 ≤ (((1 : Int32) <<< ((I 0 10) &&& 31)) - (1 : Int32))), ∀ (v8 : Int64), ∀ (j4 : Nat → Nat → Int32), ∀ (K9 : Nat → Nat → Int64), ∀ (e7 : srP I L R a1 (-1 : Int32) (-1 : Int32) j4 K9 v8), ∀ (c14 : ¬ (v8 = (0 : Int64))), ∀ (c16 : (j4 0 9) < (16 : Int32)), ∀ (bb21 : sIn (j4 0 9) 16 = true), ∀ (j34 : Nat → Nat → Int32), ∀ (e37 : wsP (upI (upI (upI j4 (19 + (j4 0 9).toNatClampNeg) 1 (j4 1 4)) (19 + (j4 0 9).toNatClampNeg) 3 ((1 : Int32) <<< ((j4 0 9) &&& 31))) 0 9 ((j4 0 9) + (1 : Int32))) R a1 (j4 0 9) (1 : Int32) j34), ∀ (bb38 : sIn (0 : Int32) 1 = true), ∀ (c44 : (1 : Int32) ≤ a1 ∧ a1 ≤ (((1 : Int32) <<< ((j34 85 36) &&& 31)) - (1 : Int32))), ∀ (v49 : Int32), ∀ (j45 : Nat → Nat → Int32), ∀ (e48 : fndP j34 a1 (-1 : Int32) j45 v49), ∀ (c50 : ¬ v49 = 0), ∀ (c51 : (j45 85 35) = (16 : Int32)), False)
    (p3 : ∀ (c3 : (1 : Int32) ≤ a1 ∧ a1 ≤ (((1 : Int32) <<< ((I 0 10) &&& 31)) - (1 : Int32))), ∀ (v8 : Int64), ∀ (j4 : Nat → Nat → Int32), ∀ (K9 : Nat → Nat → Int64), ∀ (e7 : srP I L R a1 (-1 : Int32) (-1 : Int32) j4 K9 v8), ∀ (c14 : ¬ (v8 = (0 : Int64))), ∀ (c16 : (j4 0 9) < (16 : Int32)), ∀ (bb21 : sIn (j4 0 9) 16 = true), ∀ (j34 : Nat → Nat → Int32), ∀ (e37 : wsP (upI (upI (upI j4 (19 + (j4 0 9).toNatClampNeg) 1 (j4 1 4)) (19 + (j4 0 9).toNatClampNeg) 3 ((1 : Int32) <<< ((j4 0 9) &&& 31))) 0 9 ((j4 0 9) + (1 : Int32))) R a1 (j4 0 9) (1 : Int32) j34), ∀ (bb38 : sIn (0 : Int32) 1 = true), ∀ (c44 : (1 : Int32) ≤ a1 ∧ a1 ≤ (((1 : Int32) <<< ((j34 85 36) &&& 31)) - (1 : Int32))), ∀ (v49 : Int32), ∀ (j45 : Nat → Nat → Int32), ∀ (e48 : fndP j34 a1 (-1 : Int32) j45 v49), ∀ (c50 : v49 = 0), False)
    (p4 : ∀ (c3 : (1 : Int32) ≤ a1 ∧ a1 ≤ (((1 : Int32) <<< ((I 0 10) &&& 31)) - (1 : Int32))), ∀ (v8 : Int64), ∀ (j4 : Nat → Nat → Int32), ∀ (K9 : Nat → Nat → Int64), ∀ (e7 : srP I L R a1 (-1 : Int32) (-1 : Int32) j4 K9 v8), ∀ (c14 : ¬ (v8 = (0 : Int64))), ∀ (c16 : (j4 0 9) < (16 : Int32)), ∀ (bb21 : sIn (j4 0 9) 16 = true), ∀ (j34 : Nat → Nat → Int32), ∀ (e37 : wsP (upI (upI (upI j4 (19 + (j4 0 9).toNatClampNeg) 1 (j4 1 4)) (19 + (j4 0 9).toNatClampNeg) 3 ((1 : Int32) <<< ((j4 0 9) &&& 31))) 0 9 ((j4 0 9) + (1 : Int32))) R a1 (j4 0 9) (1 : Int32) j34), ∀ (bb38 : sIn (0 : Int32) 1 = true), ∀ (c44 : ¬ ((1 : Int32) ≤ a1 ∧ a1 ≤ (((1 : Int32) <<< ((j34 85 36) &&& 31)) - (1 : Int32)))), False)
    (p5 : ∀ (c3 : (1 : Int32) ≤ a1 ∧ a1 ≤ (((1 : Int32) <<< ((I 0 10) &&& 31)) - (1 : Int32))), ∀ (v8 : Int64), ∀ (j4 : Nat → Nat → Int32), ∀ (K9 : Nat → Nat → Int64), ∀ (e7 : srP I L R a1 (-1 : Int32) (-1 : Int32) j4 K9 v8), ∀ (c14 : ¬ (v8 = (0 : Int64))), ∀ (c16 : ¬ (j4 0 9) < (16 : Int32)), ∀ (v75 : Int32), ∀ (j71 : Nat → Nat → Int32), ∀ (e74 : fndP j4 a1 (-1 : Int32) j71 v75), ∀ (c76 : ¬ v75 = 0), ∀ (c77 : ¬ (j71 85 35) = (16 : Int32)), ∀ (v84 : Int32), ∀ (j80 : Nat → Nat → Int32), ∀ (e83 : adP (upI j71 85 42 (0 : Int32)) a1 j80 v84), j80 85 42 = (3 : Int32) ∧ RK j80 K9 R)
    (p6 : ∀ (c3 : (1 : Int32) ≤ a1 ∧ a1 ≤ (((1 : Int32) <<< ((I 0 10) &&& 31)) - (1 : Int32))), ∀ (v8 : Int64), ∀ (j4 : Nat → Nat → Int32), ∀ (K9 : Nat → Nat → Int64), ∀ (e7 : srP I L R a1 (-1 : Int32) (-1 : Int32) j4 K9 v8), ∀ (c14 : ¬ (v8 = (0 : Int64))), ∀ (c16 : ¬ (j4 0 9) < (16 : Int32)), ∀ (v75 : Int32), ∀ (j71 : Nat → Nat → Int32), ∀ (e74 : fndP j4 a1 (-1 : Int32) j71 v75), ∀ (c76 : ¬ v75 = 0), ∀ (c77 : (j71 85 35) = (16 : Int32)), RK (upI j71 85 42 (3 : Int32)) K9 R)
    (p7 : ∀ (c3 : (1 : Int32) ≤ a1 ∧ a1 ≤ (((1 : Int32) <<< ((I 0 10) &&& 31)) - (1 : Int32))), ∀ (v8 : Int64), ∀ (j4 : Nat → Nat → Int32), ∀ (K9 : Nat → Nat → Int64), ∀ (e7 : srP I L R a1 (-1 : Int32) (-1 : Int32) j4 K9 v8), ∀ (c14 : ¬ (v8 = (0 : Int64))), ∀ (c16 : ¬ (j4 0 9) < (16 : Int32)), ∀ (v75 : Int32), ∀ (j71 : Nat → Nat → Int32), ∀ (e74 : fndP j4 a1 (-1 : Int32) j71 v75), ∀ (c76 : v75 = 0), False)
    (p8 : ∀ (c3 : (1 : Int32) ≤ a1 ∧ a1 ≤ (((1 : Int32) <<< ((I 0 10) &&& 31)) - (1 : Int32))), ∀ (v8 : Int64), ∀ (j4 : Nat → Nat → Int32), ∀ (K9 : Nat → Nat → Int64), ∀ (e7 : srP I L R a1 (-1 : Int32) (-1 : Int32) j4 K9 v8), ∀ (c14 : v8 = (0 : Int64)), ∀ (v99 : Int32), ∀ (j95 : Nat → Nat → Int32), ∀ (e98 : fndP j4 a1 (-1 : Int32) j95 v99), ∀ (c100 : ¬ v99 = 0), ∀ (c101 : ¬ (j95 85 35) = (16 : Int32)), ∀ (v108 : Int32), ∀ (j104 : Nat → Nat → Int32), ∀ (e107 : adP (upI j95 85 42 (0 : Int32)) a1 j104 v108), j104 85 42 = (2 : Int32) ∧ RK j104 K9 R)
    (p9 : ∀ (c3 : (1 : Int32) ≤ a1 ∧ a1 ≤ (((1 : Int32) <<< ((I 0 10) &&& 31)) - (1 : Int32))), ∀ (v8 : Int64), ∀ (j4 : Nat → Nat → Int32), ∀ (K9 : Nat → Nat → Int64), ∀ (e7 : srP I L R a1 (-1 : Int32) (-1 : Int32) j4 K9 v8), ∀ (c14 : v8 = (0 : Int64)), ∀ (v99 : Int32), ∀ (j95 : Nat → Nat → Int32), ∀ (e98 : fndP j4 a1 (-1 : Int32) j95 v99), ∀ (c100 : ¬ v99 = 0), ∀ (c101 : (j95 85 35) = (16 : Int32)), False)
    (p10 : ∀ (c3 : (1 : Int32) ≤ a1 ∧ a1 ≤ (((1 : Int32) <<< ((I 0 10) &&& 31)) - (1 : Int32))), ∀ (v8 : Int64), ∀ (j4 : Nat → Nat → Int32), ∀ (K9 : Nat → Nat → Int64), ∀ (e7 : srP I L R a1 (-1 : Int32) (-1 : Int32) j4 K9 v8), ∀ (c14 : v8 = (0 : Int64)), ∀ (v99 : Int32), ∀ (j95 : Nat → Nat → Int32), ∀ (e98 : fndP j4 a1 (-1 : Int32) j95 v99), ∀ (c100 : v99 = 0), RK (upI j95 85 42 (2 : Int32)) K9 R) : ∀ r2 : sR, qGo 238 [.ref (85), .int (a1)] r.2 r2 → opE r.1 r2.1 r2.2 RK := by
  refine qGo_w (Q := fun r => ∀ r2 : sR, qGo 238 [.ref (85), .int (a1)] r.2 r2 → opE r.1 r2.1 r2.2 RK) gW (fun N => ?_)
  have hl0 : qLs (lv_args 0 [.ref (0), .int (a1), .ref (117)]) [some (.ref (0)), some (.int (a1)), some (.ref (117)), none] := qLs_ar 1
  refine q_aload_n (show mE (mtv 80) 0 = some (.aload_n 2, 1, 0, 0) from rfl) (hl0 2 _ rfl) ?_
  refine q_iconst (show mE (mtv 80) 1 = some (.iconst 0, 1, 0, 0) from rfl) kI_0 ?_
  refine q_aload_n (show mE (mtv 80) 2 = some (.aload_n 0, 1, 0, 0) from rfl) (hl0 0 _ rfl) ?_
  refine q_iload_n (show mE (mtv 80) 3 = some (.iload_n 1, 1, 0, 0) from rfl) (hl0 1 _ rfl) ?_
  refine q_virtualIh (show mE (mtv 80) 4 = some (.invokevirtual 56, 3, 81, 8) from rfl) (by decide) rfl rfl rfl (fun _ => ?_)
  have hl1 : qLs (lv_args 0 [.ref (0), .int (a1)]) [some (.ref (0)), some (.int (a1)), none, none] := qLs_ar 2
  refine q_aload_n (show mE (mtv 81) 0 = some (.aload_n 0, 1, 0, 0) from rfl) (hl1 0 _ rfl) ?_
  refine q_iload_n (show mE (mtv 81) 1 = some (.iload_n 1, 1, 0, 0) from rfl) (hl1 1 _ rfl) ?_
  refine q_virtualI (show mE (mtv 81) 2 = some (.invokevirtual 224, 3, 82, 8) from rfl) (by decide) rfl rfl rfl (fun _ => ?_)
  have hl2 : qLs (lv_args 0 [.ref (0), .int (a1)]) [some (.ref (0)), some (.int (a1))] := qLs_ar 0
  refine q_iload_n (show mE (mtv 82) 0 = some (.iload_n 1, 1, 0, 0) from rfl) (hl2 1 _ rfl) ?_
  refine q_iconst (show mE (mtv 82) 1 = some (.iconst 1, 1, 0, 0) from rfl) kI_1 ?_
  refine q_iconst (show mE (mtv 82) 2 = some (.iconst 1, 1, 0, 0) from rfl) kI_1 ?_
  refine q_aload_n (show mE (mtv 82) 3 = some (.aload_n 0, 1, 0, 0) from rfl) (hl2 0 _ rfl) ?_
  refine q_getI th (show mE (mtv 82) 4 = some (.getfield 171, 3, 8, 10) from rfl) (by decide) rfl ?_
  refine q_ishl (show mE (mtv 82) 7 = some (.ishl, 1, 0, 0) from rfl) ?_
  refine q_iconst (show mE (mtv 82) 8 = some (.iconst 1, 1, 0, 0) from rfl) kI_1 ?_
  refine q_isub (show mE (mtv 82) 9 = some (.isub, 1, 0, 0) from rfl) ?_
  refine q_staticP (show mE (mtv 82) 10 = some (.invokestatic 77, 3, 47, 0) from rfl) (by decide) rfl rfl rfl (fun _ g => sp_47 g) ?_
  refine q_ifb_ne (t := 27) (show mE (mtv 82) 13 = some (.ifCond .ne 14, 3, 0, 0) from rfl) rfl (fun c3 => ?_) (fun c3 => ?_)
  · refine q_return_ (show mE (mtv 82) 27 = some (.return_, 1, 0, 0) from rfl) ?_
    refine qK_n ?_
    refine q_aload_n (show mE (mtv 81) 5 = some (.aload_n 0, 1, 0, 0) from rfl) (hl1 0 _ rfl) ?_
    refine q_iload_n (show mE (mtv 81) 6 = some (.iload_n 1, 1, 0, 0) from rfl) (hl1 1 _ rfl) ?_
    refine q_iconst (show mE (mtv 81) 7 = some (.iconst (-1), 1, 0, 0) from rfl) kI_m1 ?_
    refine q_iconst (show mE (mtv 81) 8 = some (.iconst (-1), 1, 0, 0) from rfl) kI_m1 ?_
    refine q_virtualE (show mE (mtv 81) 9 = some (.invokevirtual 227, 3, 83, 8) from rfl) (by decide) rfl rfl rfl (fun _ g => sp_83 th g) ?_
    rintro _ ⟨v8, j4, K9, h5, rfl, t6, e7⟩
    refine qK_v ?_
    have ag10 : agS j4 I := srS e7
    refine q_lstore_n (show mE (mtv 81) 12 = some (.lstore_n 2, 1, 0, 0) from rfl) (Nat.le_of_ble_eq_true rfl) hl1 (fun lv11 (hl12 : qLs lv11 [some (.ref (0)), some (.int (a1)), some (.long (v8)), none]) => ?_)
    refine q_aload_n (show mE (mtv 81) 13 = some (.aload_n 0, 1, 0, 0) from rfl) (hl12 0 _ rfl) ?_
    refine q_lload_n (show mE (mtv 81) 14 = some (.lload_n 2, 1, 0, 0) from rfl) (hl12 2 _ rfl) ?_
    refine q_virtualI (show mE (mtv 81) 15 = some (.invokevirtual 231, 3, 96, 8) from rfl) (by decide) rfl rfl rfl (fun _ => ?_)
    have hl13 : qLs (lv_args 0 [.ref (0), .long (v8)]) [some (.ref (0)), some (.long (v8)), none] := qLs_ar 0
    refine q_lload_n (show mE (mtv 96) 0 = some (.lload_n 1, 1, 0, 0) from rfl) (hl13 1 _ rfl) ?_
    refine q_lconst (show mE (mtv 96) 1 = some (.lconst 0, 1, 0, 0) from rfl) kL_0 ?_
    refine q_lcmp (show mE (mtv 96) 2 = some (.lcmp, 1, 0, 0) from rfl) ?_
    refine q_ifl_ne (t := 17) (show mE (mtv 96) 3 = some (.ifCond .ne 14, 3, 0, 0) from rfl) rfl (fun c14 => ?_) (fun c14 => ?_)
    · refine q_return_ (show mE (mtv 96) 17 = some (.return_, 1, 0, 0) from rfl) ?_
      refine qK_n ?_
      refine q_aload_n (show mE (mtv 81) 18 = some (.aload_n 0, 1, 0, 0) from rfl) (hl12 0 _ rfl) ?_
      refine q_virtualI (show mE (mtv 81) 19 = some (.invokevirtual 151, 3, 57, 8) from rfl) (by decide) rfl rfl rfl (fun _ => ?_)
      have hl15 : qLs (lv_args 0 [.ref (0)]) [some (.ref (0))] := qLs_ar 0
      refine q_aload_n (show mE (mtv 57) 0 = some (.aload_n 0, 1, 0, 0) from rfl) (hl15 0 _ rfl) ?_
      refine q_getI t6 (show mE (mtv 57) 1 = some (.getfield 88, 3, 8, 9) from rfl) (by decide) rfl ?_
      refine q_bipush (show mE (mtv 57) 4 = some (.bipush 16, 2, 0, 0) from rfl) kB_16 ?_
      refine q_ic_lt (t := 20) (show mE (mtv 57) 6 = some (.if_icmp .lt 14, 3, 0, 0) from rfl) rfl (fun c16 => ?_) (fun c16 => ?_)
      · refine q_return_ (show mE (mtv 57) 20 = some (.return_, 1, 0, 0) from rfl) ?_
        refine qK_n ?_
        refine q_aload_n (show mE (mtv 81) 22 = some (.aload_n 0, 1, 0, 0) from rfl) (hl12 0 _ rfl) ?_
        refine q_lload_n (show mE (mtv 81) 23 = some (.lload_n 2, 1, 0, 0) from rfl) (hl12 2 _ rfl) ?_
        refine q_iload_n (show mE (mtv 81) 24 = some (.iload_n 1, 1, 0, 0) from rfl) (hl12 1 _ rfl) ?_
        refine q_virtualI (show mE (mtv 81) 25 = some (.invokevirtual 235, 3, 97, 8) from rfl) (by decide) rfl rfl rfl (fun _ => ?_)
        have hl17 : qLs (lv_args 0 [.ref (0), .long (v8), .int (a1)]) [some (.ref (0)), some (.long (v8)), none, some (.int (a1)), none] := qLs_ar 1
        refine q_aload_n (show mE (mtv 97) 0 = some (.aload_n 0, 1, 0, 0) from rfl) (hl17 0 _ rfl) ?_
        refine q_lload_n (show mE (mtv 97) 1 = some (.lload_n 1, 1, 0, 0) from rfl) (hl17 1 _ rfl) ?_
        refine q_virtualI (show mE (mtv 97) 2 = some (.invokevirtual 154, 3, 58, 8) from rfl) (by decide) rfl rfl rfl (fun _ => ?_)
        have hl18 : qLs (lv_args 0 [.ref (0), .long (v8)]) [some (.ref (0)), some (.long (v8)), none, none] := qLs_ar 1
        refine q_aload_n (show mE (mtv 58) 0 = some (.aload_n 0, 1, 0, 0) from rfl) (hl18 0 _ rfl) ?_
        refine q_getI t6 (show mE (mtv 58) 1 = some (.getfield 88, 3, 8, 9) from rfl) (by decide) rfl ?_
        refine q_istore_n (show mE (mtv 58) 4 = some (.istore_n 3, 1, 0, 0) from rfl) (Nat.le_of_ble_eq_true rfl) hl18 (fun lv19 (hl20 : qLs lv19 [some (.ref (0)), some (.long (v8)), none, some (.int (j4 0 9))]) => ?_)
        refine q_aload_n (show mE (mtv 58) 5 = some (.aload_n 0, 1, 0, 0) from rfl) (hl20 0 _ rfl) ?_
        refine q_getR (m := 12) t6 (show mE (mtv 58) 6 = some (.getfield 25, 3, 8, 2) from rfl) (by decide) rfl rfl ?_
        refine q_iload_n (show mE (mtv 58) 9 = some (.iload_n 3, 1, 0, 0) from rfl) (hl20 3 _ rfl) ?_
        refine q_aaload (n := 16) (t := 4) (m := 19) t6 (show mE (mtv 58) 10 = some (.aaload, 1, 0, 0) from rfl) (by decide) rfl (fun _ _ => rfl) (fun bb21 => ?_)
        refine q_lload_n (show mE (mtv 58) 11 = some (.lload_n 1, 1, 0, 0) from rfl) (hl20 1 _ rfl) ?_
        refine q_putL t6 (show mE (mtv 58) 12 = some (.putfield 165, 3, 3, 0) from rfl) (qB bb21 (by decide)) rfl (fun h22 t23 => ?_)
        refine q_aload_n (show mE (mtv 58) 15 = some (.aload_n 0, 1, 0, 0) from rfl) (hl20 0 _ rfl) ?_
        refine q_getR (m := 12) t23 (show mE (mtv 58) 16 = some (.getfield 25, 3, 8, 2) from rfl) (by decide) rfl rfl ?_
        refine q_iload_n (show mE (mtv 58) 19 = some (.iload_n 3, 1, 0, 0) from rfl) (hl20 3 _ rfl) ?_
        refine q_aaload (n := 16) (t := 4) (m := 19) t23 (show mE (mtv 58) 20 = some (.aaload, 1, 0, 0) from rfl) (by decide) rfl (fun _ _ => rfl) (fun bb24 => ?_)
        refine q_aload_n (show mE (mtv 58) 21 = some (.aload_n 0, 1, 0, 0) from rfl) (hl20 0 _ rfl) ?_
        refine q_getR (m := 1) t23 (show mE (mtv 58) 22 = some (.getfield 10, 3, 8, 0) from rfl) (by decide) rfl rfl ?_
        refine q_getI t23 (show mE (mtv 58) 25 = some (.getfield 260, 3, 4, 4) from rfl) (by decide) rfl ?_
        refine q_putI t23 (show mE (mtv 58) 28 = some (.putfield 263, 3, 3, 1) from rfl) (qB bb24 (by decide)) rfl (fun h25 t26 => ?_)
        refine q_aload_n (show mE (mtv 58) 31 = some (.aload_n 0, 1, 0, 0) from rfl) (hl20 0 _ rfl) ?_
        refine q_getR (m := 12) t26 (show mE (mtv 58) 32 = some (.getfield 25, 3, 8, 2) from rfl) (by decide) rfl rfl ?_
        refine q_iload_n (show mE (mtv 58) 35 = some (.iload_n 3, 1, 0, 0) from rfl) (hl20 3 _ rfl) ?_
        refine q_aaload (n := 16) (t := 4) (m := 19) t26 (show mE (mtv 58) 36 = some (.aaload, 1, 0, 0) from rfl) (by decide) rfl (fun _ _ => rfl) (fun bb27 => ?_)
        refine q_iconst (show mE (mtv 58) 37 = some (.iconst 1, 1, 0, 0) from rfl) kI_1 ?_
        refine q_iload_n (show mE (mtv 58) 38 = some (.iload_n 3, 1, 0, 0) from rfl) (hl20 3 _ rfl) ?_
        refine q_ishl (show mE (mtv 58) 39 = some (.ishl, 1, 0, 0) from rfl) ?_
        refine q_putI t26 (show mE (mtv 58) 40 = some (.putfield 372, 3, 3, 3) from rfl) (qB bb27 (by decide)) rfl (fun h28 t29 => ?_)
        refine q_aload_n (show mE (mtv 58) 43 = some (.aload_n 0, 1, 0, 0) from rfl) (hl20 0 _ rfl) ?_
        refine q_iload_n (show mE (mtv 58) 44 = some (.iload_n 3, 1, 0, 0) from rfl) (hl20 3 _ rfl) ?_
        refine q_iconst (show mE (mtv 58) 45 = some (.iconst 1, 1, 0, 0) from rfl) kI_1 ?_
        refine q_iadd (show mE (mtv 58) 46 = some (.iadd, 1, 0, 0) from rfl) ?_
        refine q_putI t29 (show mE (mtv 58) 47 = some (.putfield 88, 3, 8, 9) from rfl) (by decide) rfl (fun h30 t31 => ?_)
        refine q_iload_n (show mE (mtv 58) 50 = some (.iload_n 3, 1, 0, 0) from rfl) (hl20 3 _ rfl) ?_
        refine q_ireturn (show mE (mtv 58) 51 = some (.ireturn, 1, 0, 0) from rfl) ?_
        refine qK_v ?_
        refine q_istore (show mE (mtv 97) 5 = some (.istore 4, 2, 0, 0) from rfl) (Nat.le_of_ble_eq_true rfl) hl17 (fun lv32 (hl33 : qLs lv32 [some (.ref (0)), some (.long (v8)), none, some (.int (a1)), some (.int (j4 0 9))]) => ?_)
        refine q_aload_n (show mE (mtv 97) 7 = some (.aload_n 0, 1, 0, 0) from rfl) (hl33 0 _ rfl) ?_
        refine q_iload_n (show mE (mtv 97) 8 = some (.iload_n 3, 1, 0, 0) from rfl) (hl33 3 _ rfl) ?_
        refine q_iload (show mE (mtv 97) 9 = some (.iload 4, 2, 0, 0) from rfl) (hl33 4 _ rfl) ?_
        refine q_iconst (show mE (mtv 97) 11 = some (.iconst 1, 1, 0, 0) from rfl) kI_1 ?_
        refine q_virtualE (show mE (mtv 97) 12 = some (.invokevirtual 254, 3, 98, 8) from rfl) (by decide) rfl rfl rfl (fun _ g => sp_98 t31 g) ?_
        rintro _ ⟨j34, h35, rfl, t36, e37⟩
        refine qK_n ?_
        refine q_iload (show mE (mtv 97) 15 = some (.iload 4, 2, 0, 0) from rfl) (hl33 4 _ rfl) ?_
        refine q_ireturn (show mE (mtv 97) 17 = some (.ireturn, 1, 0, 0) from rfl) ?_
        refine qK_v ?_
        refine q_ireturn (show mE (mtv 81) 28 = some (.ireturn, 1, 0, 0) from rfl) ?_
        refine qKh_v ?_
        refine q_i2l (show mE (mtv 80) 7 = some (.i2l, 1, 0, 0) from rfl) ?_
        refine q_lastore (n := 1) t36 (show mE (mtv 80) 8 = some (.lastore, 1, 0, 0) from rfl) (by decide) rfl (fun bb38 h39 t40 => ?_)
        refine q_goto (t := 21) (show mE (mtv 80) 9 = some (.goto 12, 3, 0, 0) from rfl) rfl ?_
        refine q_iconst (show mE (mtv 80) 21 = some (.iconst 0, 1, 0, 0) from rfl) kI_0 ?_
        refine q_ireturn (show mE (mtv 80) 22 = some (.ireturn, 1, 0, 0) from rfl) ?_
        intro r41 g42
        have g42 : qGo 238 [.ref (85), .int (a1)] h39 r41 := g42
        refine qGo_w (Q := fun r2 => opE (.inl (some (.int ((0 : Int32))))) r2.1 r2.2 RK) g42 (fun _ => ?_)
        have hl43 : qLs (lv_args 0 [.ref (85), .int (a1)]) [some (.ref (85)), some (.int (a1))] := qLs_ar 0
        refine q_aload_n (show mE (mtv 238) 0 = some (.aload_n 0, 1, 0, 0) from rfl) (hl43 0 _ rfl) ?_
        refine q_iload_n (show mE (mtv 238) 1 = some (.iload_n 1, 1, 0, 0) from rfl) (hl43 1 _ rfl) ?_
        refine q_iconst (show mE (mtv 238) 2 = some (.iconst 1, 1, 0, 0) from rfl) kI_1 ?_
        refine q_iconst (show mE (mtv 238) 3 = some (.iconst 1, 1, 0, 0) from rfl) kI_1 ?_
        refine q_aload_n (show mE (mtv 238) 4 = some (.aload_n 0, 1, 0, 0) from rfl) (hl43 0 _ rfl) ?_
        refine q_getI t40 (show mE (mtv 238) 5 = some (.getfield 120, 3, 9, 36) from rfl) (by decide) rfl ?_
        refine q_ishl (show mE (mtv 238) 8 = some (.ishl, 1, 0, 0) from rfl) ?_
        refine q_iconst (show mE (mtv 238) 9 = some (.iconst 1, 1, 0, 0) from rfl) kI_1 ?_
        refine q_isub (show mE (mtv 238) 10 = some (.isub, 1, 0, 0) from rfl) ?_
        refine q_staticP (show mE (mtv 238) 11 = some (.invokestatic 157, 3, 211, 0) from rfl) (by decide) rfl rfl rfl (fun _ g => sp_211 g) ?_
        refine q_ifb_ne (t := 21) (show mE (mtv 238) 14 = some (.ifCond .ne 7, 3, 0, 0) from rfl) rfl (fun c44 => ?_) (fun c44 => ?_)
        · refine q_aload_n (show mE (mtv 238) 21 = some (.aload_n 0, 1, 0, 0) from rfl) (hl43 0 _ rfl) ?_
          refine q_iload_n (show mE (mtv 238) 22 = some (.iload_n 1, 1, 0, 0) from rfl) (hl43 1 _ rfl) ?_
          refine q_iconst (show mE (mtv 238) 23 = some (.iconst (-1), 1, 0, 0) from rfl) kI_m1 ?_
          refine q_virtualE (show mE (mtv 238) 24 = some (.invokevirtual 227, 3, 239, 9) from rfl) (by decide) rfl rfl rfl (fun _ g => sp_239 t40 g) ?_
          rintro _ ⟨v49, j45, h46, rfl, t47, e48⟩
          refine qK_v ?_
          refine q_if_ne (t := 34) (show mE (mtv 238) 27 = some (.ifCond .ne 7, 3, 0, 0) from rfl) rfl (fun c50 => ?_) (fun c50 => ?_)
          · refine q_aload_n (show mE (mtv 238) 34 = some (.aload_n 0, 1, 0, 0) from rfl) (hl43 0 _ rfl) ?_
            refine q_getI t47 (show mE (mtv 238) 35 = some (.getfield 117, 3, 9, 35) from rfl) (by decide) rfl ?_
            refine q_bipush (show mE (mtv 238) 38 = some (.bipush 16, 2, 0, 0) from rfl) kB_16 ?_
            refine q_ic_ne (t := 47) (show mE (mtv 238) 40 = some (.if_icmp .ne 7, 3, 0, 0) from rfl) rfl (fun c51 => ?_) (fun c51 => ?_)
            · refine q_iconst (show mE (mtv 238) 47 = some (.iconst 0, 1, 0, 0) from rfl) kI_0 ?_
              refine q_putI t47 (show mE (mtv 238) 48 = some (.putfield 138, 3, 9, 42) from rfl) (by decide) rfl (fun h52 t53 => ?_)
              refine q_aload_n (show mE (mtv 238) 51 = some (.aload_n 0, 1, 0, 0) from rfl) (hl43 0 _ rfl) ?_
              refine q_getIe t53 (show mE (mtv 238) 52 = some (.getfield 138, 3, 9, 42) from rfl) (by decide) rfl (upI_s) ?_
              refine q_ift (t := 62) (show mE (mtv 238) 55 = some (.ifCond .le 7, 3, 0, 0) from rfl) (by decide) rfl ?_
              refine q_aload_n (show mE (mtv 238) 62 = some (.aload_n 0, 1, 0, 0) from rfl) (hl43 0 _ rfl) ?_
              refine q_iload_n (show mE (mtv 238) 63 = some (.iload_n 1, 1, 0, 0) from rfl) (hl43 1 _ rfl) ?_
              refine q_virtualE (show mE (mtv 238) 64 = some (.invokevirtual 172, 3, 218, 9) from rfl) (by decide) rfl rfl rfl (fun _ g => sp_218 t53 g) ?_
              rintro _ ⟨v58, j54, h55, rfl, t56, e57⟩
              refine qK_v ?_
              refine q_ireturn (show mE (mtv 238) 67 = some (.ireturn, 1, 0, 0) from rfl) ?_
              exact ⟨(0 : Int32), v58, _, _, _, rfl, rfl, t56, ((p1 c3 v8 j4 K9 e7 c14 c16 bb21 j34 e37 bb38 c44 v49 j45 e48 c50 c51 v58 j54 e57)).1, (fun _ => (p1 c3 v8 j4 K9 e7 c14 c16 bb21 j34 e37 bb38 c44 v49 j45 e48 c50 c51 v58 j54 e57).2.1), (p1 c3 v8 j4 K9 e7 c14 c16 bb21 j34 e37 bb38 c44 v49 j45 e48 c50 c51 v58 j54 e57).2.2⟩
            · refine q_iconst (show mE (mtv 238) 43 = some (.iconst 3, 1, 0, 0) from rfl) kI_3 ?_
              refine q_goto (t := 48) (show mE (mtv 238) 44 = some (.goto 4, 3, 0, 0) from rfl) rfl ?_
              refine q_putI t47 (show mE (mtv 238) 48 = some (.putfield 138, 3, 9, 42) from rfl) (by decide) rfl (fun h59 t60 => ?_)
              refine q_aload_n (show mE (mtv 238) 51 = some (.aload_n 0, 1, 0, 0) from rfl) (hl43 0 _ rfl) ?_
              refine q_getIe t60 (show mE (mtv 238) 52 = some (.getfield 138, 3, 9, 42) from rfl) (by decide) rfl (upI_s) ?_
              refine q_iff (t := 62) (show mE (mtv 238) 55 = some (.ifCond .le 7, 3, 0, 0) from rfl) (by decide) rfl ?_
              refine q_iconst (show mE (mtv 238) 58 = some (.iconst 0, 1, 0, 0) from rfl) kI_0 ?_
              refine q_goto (t := 67) (show mE (mtv 238) 59 = some (.goto 8, 3, 0, 0) from rfl) rfl ?_
              refine q_ireturn (show mE (mtv 238) 67 = some (.ireturn, 1, 0, 0) from rfl) ?_
              exact (p2 c3 v8 j4 K9 e7 c14 c16 bb21 j34 e37 bb38 c44 v49 j45 e48 c50 c51).elim
          · refine q_iconst (show mE (mtv 238) 30 = some (.iconst 2, 1, 0, 0) from rfl) kI_2 ?_
            refine q_goto (t := 48) (show mE (mtv 238) 31 = some (.goto 17, 3, 0, 0) from rfl) rfl ?_
            refine q_putI t47 (show mE (mtv 238) 48 = some (.putfield 138, 3, 9, 42) from rfl) (by decide) rfl (fun h61 t62 => ?_)
            refine q_aload_n (show mE (mtv 238) 51 = some (.aload_n 0, 1, 0, 0) from rfl) (hl43 0 _ rfl) ?_
            refine q_getIe t62 (show mE (mtv 238) 52 = some (.getfield 138, 3, 9, 42) from rfl) (by decide) rfl (upI_s) ?_
            refine q_iff (t := 62) (show mE (mtv 238) 55 = some (.ifCond .le 7, 3, 0, 0) from rfl) (by decide) rfl ?_
            refine q_iconst (show mE (mtv 238) 58 = some (.iconst 0, 1, 0, 0) from rfl) kI_0 ?_
            refine q_goto (t := 67) (show mE (mtv 238) 59 = some (.goto 8, 3, 0, 0) from rfl) rfl ?_
            refine q_ireturn (show mE (mtv 238) 67 = some (.ireturn, 1, 0, 0) from rfl) ?_
            exact (p3 c3 v8 j4 K9 e7 c14 c16 bb21 j34 e37 bb38 c44 v49 j45 e48 c50).elim
        · refine q_iconst (show mE (mtv 238) 17 = some (.iconst 1, 1, 0, 0) from rfl) kI_1 ?_
          refine q_goto (t := 48) (show mE (mtv 238) 18 = some (.goto 30, 3, 0, 0) from rfl) rfl ?_
          refine q_putI t40 (show mE (mtv 238) 48 = some (.putfield 138, 3, 9, 42) from rfl) (by decide) rfl (fun h63 t64 => ?_)
          refine q_aload_n (show mE (mtv 238) 51 = some (.aload_n 0, 1, 0, 0) from rfl) (hl43 0 _ rfl) ?_
          refine q_getIe t64 (show mE (mtv 238) 52 = some (.getfield 138, 3, 9, 42) from rfl) (by decide) rfl (upI_s) ?_
          refine q_iff (t := 62) (show mE (mtv 238) 55 = some (.ifCond .le 7, 3, 0, 0) from rfl) (by decide) rfl ?_
          refine q_iconst (show mE (mtv 238) 58 = some (.iconst 0, 1, 0, 0) from rfl) kI_0 ?_
          refine q_goto (t := 67) (show mE (mtv 238) 59 = some (.goto 8, 3, 0, 0) from rfl) rfl ?_
          refine q_ireturn (show mE (mtv 238) 67 = some (.ireturn, 1, 0, 0) from rfl) ?_
          exact (p4 c3 v8 j4 K9 e7 c14 c16 bb21 j34 e37 bb38 c44).elim
      · refine q_throw (show mE (mtv 57) 9 = some (.new 126, 3, 1001, 0) from rfl) (by decide) ?_
        refine qK_x ?_
        refine qKh_x (hp := 18) (c := (19, sDr 3 (lv_args 0 [.ref (0), .int (a1), .ref (117)]), [], h5)) rfl (by decide) (fun _ _ => rfl) ?_
        refine q_iconst (show mE (mtv 80) 19 = some (.iconst 3, 1, 0, 0) from rfl) kI_3 ?_
        refine q_ireturn (show mE (mtv 80) 20 = some (.ireturn, 1, 0, 0) from rfl) ?_
        intro r65 g66
        have g66 : qGo 238 [.ref (85), .int (a1)] h5 r65 := g66
        refine qGo_w (Q := fun r2 => opE (.inl (some (.int ((3 : Int32))))) r2.1 r2.2 RK) g66 (fun _ => ?_)
        have hl67 : qLs (lv_args 0 [.ref (85), .int (a1)]) [some (.ref (85)), some (.int (a1))] := qLs_ar 0
        refine q_aload_n (show mE (mtv 238) 0 = some (.aload_n 0, 1, 0, 0) from rfl) (hl67 0 _ rfl) ?_
        refine q_iload_n (show mE (mtv 238) 1 = some (.iload_n 1, 1, 0, 0) from rfl) (hl67 1 _ rfl) ?_
        refine q_iconst (show mE (mtv 238) 2 = some (.iconst 1, 1, 0, 0) from rfl) kI_1 ?_
        refine q_iconst (show mE (mtv 238) 3 = some (.iconst 1, 1, 0, 0) from rfl) kI_1 ?_
        refine q_aload_n (show mE (mtv 238) 4 = some (.aload_n 0, 1, 0, 0) from rfl) (hl67 0 _ rfl) ?_
        refine q_getI t6 (show mE (mtv 238) 5 = some (.getfield 120, 3, 9, 36) from rfl) (by decide) rfl ?_
        have r68 : j4 85 36 = I 85 36 := sc85 ag10 (by decide)
        rw [r68]; clear r68
        have r69 : I 85 36 = I 0 10 := hK.nd.symm
        rw [r69]; clear r69
        refine q_ishl (show mE (mtv 238) 8 = some (.ishl, 1, 0, 0) from rfl) ?_
        refine q_iconst (show mE (mtv 238) 9 = some (.iconst 1, 1, 0, 0) from rfl) kI_1 ?_
        refine q_isub (show mE (mtv 238) 10 = some (.isub, 1, 0, 0) from rfl) ?_
        refine q_staticP (show mE (mtv 238) 11 = some (.invokestatic 157, 3, 211, 0) from rfl) (by decide) rfl rfl rfl (fun _ g => sp_211 g) ?_
        refine q_ifb_ne (t := 21) (show mE (mtv 238) 14 = some (.ifCond .ne 7, 3, 0, 0) from rfl) rfl (fun c70 => ?_) (fun c70 => ?_)
        · clear c70
          refine q_aload_n (show mE (mtv 238) 21 = some (.aload_n 0, 1, 0, 0) from rfl) (hl67 0 _ rfl) ?_
          refine q_iload_n (show mE (mtv 238) 22 = some (.iload_n 1, 1, 0, 0) from rfl) (hl67 1 _ rfl) ?_
          refine q_iconst (show mE (mtv 238) 23 = some (.iconst (-1), 1, 0, 0) from rfl) kI_m1 ?_
          refine q_virtualE (show mE (mtv 238) 24 = some (.invokevirtual 227, 3, 239, 9) from rfl) (by decide) rfl rfl rfl (fun _ g => sp_239 t6 g) ?_
          rintro _ ⟨v75, j71, h72, rfl, t73, e74⟩
          refine qK_v ?_
          refine q_if_ne (t := 34) (show mE (mtv 238) 27 = some (.ifCond .ne 7, 3, 0, 0) from rfl) rfl (fun c76 => ?_) (fun c76 => ?_)
          · refine q_aload_n (show mE (mtv 238) 34 = some (.aload_n 0, 1, 0, 0) from rfl) (hl67 0 _ rfl) ?_
            refine q_getI t73 (show mE (mtv 238) 35 = some (.getfield 117, 3, 9, 35) from rfl) (by decide) rfl ?_
            refine q_bipush (show mE (mtv 238) 38 = some (.bipush 16, 2, 0, 0) from rfl) kB_16 ?_
            refine q_ic_ne (t := 47) (show mE (mtv 238) 40 = some (.if_icmp .ne 7, 3, 0, 0) from rfl) rfl (fun c77 => ?_) (fun c77 => ?_)
            · refine q_iconst (show mE (mtv 238) 47 = some (.iconst 0, 1, 0, 0) from rfl) kI_0 ?_
              refine q_putI t73 (show mE (mtv 238) 48 = some (.putfield 138, 3, 9, 42) from rfl) (by decide) rfl (fun h78 t79 => ?_)
              refine q_aload_n (show mE (mtv 238) 51 = some (.aload_n 0, 1, 0, 0) from rfl) (hl67 0 _ rfl) ?_
              refine q_getIe t79 (show mE (mtv 238) 52 = some (.getfield 138, 3, 9, 42) from rfl) (by decide) rfl (upI_s) ?_
              refine q_ift (t := 62) (show mE (mtv 238) 55 = some (.ifCond .le 7, 3, 0, 0) from rfl) (by decide) rfl ?_
              refine q_aload_n (show mE (mtv 238) 62 = some (.aload_n 0, 1, 0, 0) from rfl) (hl67 0 _ rfl) ?_
              refine q_iload_n (show mE (mtv 238) 63 = some (.iload_n 1, 1, 0, 0) from rfl) (hl67 1 _ rfl) ?_
              refine q_virtualE (show mE (mtv 238) 64 = some (.invokevirtual 172, 3, 218, 9) from rfl) (by decide) rfl rfl rfl (fun _ g => sp_218 t79 g) ?_
              rintro _ ⟨v84, j80, h81, rfl, t82, e83⟩
              refine qK_v ?_
              refine q_ireturn (show mE (mtv 238) 67 = some (.ireturn, 1, 0, 0) from rfl) ?_
              exact ⟨(3 : Int32), v84, _, _, _, rfl, rfl, t82, (p5 c3 v8 j4 K9 e7 c14 c16 v75 j71 e74 c76 c77 v84 j80 e83).1, (fun e => absurd e (by decide)), (p5 c3 v8 j4 K9 e7 c14 c16 v75 j71 e74 c76 c77 v84 j80 e83).2⟩
            · refine q_iconst (show mE (mtv 238) 43 = some (.iconst 3, 1, 0, 0) from rfl) kI_3 ?_
              refine q_goto (t := 48) (show mE (mtv 238) 44 = some (.goto 4, 3, 0, 0) from rfl) rfl ?_
              refine q_putI t73 (show mE (mtv 238) 48 = some (.putfield 138, 3, 9, 42) from rfl) (by decide) rfl (fun h85 t86 => ?_)
              refine q_aload_n (show mE (mtv 238) 51 = some (.aload_n 0, 1, 0, 0) from rfl) (hl67 0 _ rfl) ?_
              refine q_getIe t86 (show mE (mtv 238) 52 = some (.getfield 138, 3, 9, 42) from rfl) (by decide) rfl (upI_s) ?_
              refine q_iff (t := 62) (show mE (mtv 238) 55 = some (.ifCond .le 7, 3, 0, 0) from rfl) (by decide) rfl ?_
              refine q_iconst (show mE (mtv 238) 58 = some (.iconst 0, 1, 0, 0) from rfl) kI_0 ?_
              refine q_goto (t := 67) (show mE (mtv 238) 59 = some (.goto 8, 3, 0, 0) from rfl) rfl ?_
              refine q_ireturn (show mE (mtv 238) 67 = some (.ireturn, 1, 0, 0) from rfl) ?_
              exact ⟨(3 : Int32), (0 : Int32), _, _, _, rfl, rfl, t86, upI_s, (fun e => absurd e (by decide)), p6 c3 v8 j4 K9 e7 c14 c16 v75 j71 e74 c76 c77⟩
          · refine q_iconst (show mE (mtv 238) 30 = some (.iconst 2, 1, 0, 0) from rfl) kI_2 ?_
            refine q_goto (t := 48) (show mE (mtv 238) 31 = some (.goto 17, 3, 0, 0) from rfl) rfl ?_
            refine q_putI t73 (show mE (mtv 238) 48 = some (.putfield 138, 3, 9, 42) from rfl) (by decide) rfl (fun h87 t88 => ?_)
            refine q_aload_n (show mE (mtv 238) 51 = some (.aload_n 0, 1, 0, 0) from rfl) (hl67 0 _ rfl) ?_
            refine q_getIe t88 (show mE (mtv 238) 52 = some (.getfield 138, 3, 9, 42) from rfl) (by decide) rfl (upI_s) ?_
            refine q_iff (t := 62) (show mE (mtv 238) 55 = some (.ifCond .le 7, 3, 0, 0) from rfl) (by decide) rfl ?_
            refine q_iconst (show mE (mtv 238) 58 = some (.iconst 0, 1, 0, 0) from rfl) kI_0 ?_
            refine q_goto (t := 67) (show mE (mtv 238) 59 = some (.goto 8, 3, 0, 0) from rfl) rfl ?_
            refine q_ireturn (show mE (mtv 238) 67 = some (.ireturn, 1, 0, 0) from rfl) ?_
            exact (p7 c3 v8 j4 K9 e7 c14 c16 v75 j71 e74 c76).elim
        · exact absurd c3 c70
    · refine q_throw (show mE (mtv 96) 6 = some (.new 360, 3, 1004, 0) from rfl) (by decide) ?_
      refine qK_x ?_
      refine qKh_x (hp := 15) (c := (16, sDr 3 (lv_args 0 [.ref (0), .int (a1), .ref (117)]), [], h5)) rfl (by decide) (fun _ _ => rfl) ?_
      refine q_iconst (show mE (mtv 80) 16 = some (.iconst 2, 1, 0, 0) from rfl) kI_2 ?_
      refine q_ireturn (show mE (mtv 80) 17 = some (.ireturn, 1, 0, 0) from rfl) ?_
      intro r89 g90
      have g90 : qGo 238 [.ref (85), .int (a1)] h5 r89 := g90
      refine qGo_w (Q := fun r2 => opE (.inl (some (.int ((2 : Int32))))) r2.1 r2.2 RK) g90 (fun _ => ?_)
      have hl91 : qLs (lv_args 0 [.ref (85), .int (a1)]) [some (.ref (85)), some (.int (a1))] := qLs_ar 0
      refine q_aload_n (show mE (mtv 238) 0 = some (.aload_n 0, 1, 0, 0) from rfl) (hl91 0 _ rfl) ?_
      refine q_iload_n (show mE (mtv 238) 1 = some (.iload_n 1, 1, 0, 0) from rfl) (hl91 1 _ rfl) ?_
      refine q_iconst (show mE (mtv 238) 2 = some (.iconst 1, 1, 0, 0) from rfl) kI_1 ?_
      refine q_iconst (show mE (mtv 238) 3 = some (.iconst 1, 1, 0, 0) from rfl) kI_1 ?_
      refine q_aload_n (show mE (mtv 238) 4 = some (.aload_n 0, 1, 0, 0) from rfl) (hl91 0 _ rfl) ?_
      refine q_getI t6 (show mE (mtv 238) 5 = some (.getfield 120, 3, 9, 36) from rfl) (by decide) rfl ?_
      have r92 : j4 85 36 = I 85 36 := sc85 ag10 (by decide)
      rw [r92]; clear r92
      have r93 : I 85 36 = I 0 10 := hK.nd.symm
      rw [r93]; clear r93
      refine q_ishl (show mE (mtv 238) 8 = some (.ishl, 1, 0, 0) from rfl) ?_
      refine q_iconst (show mE (mtv 238) 9 = some (.iconst 1, 1, 0, 0) from rfl) kI_1 ?_
      refine q_isub (show mE (mtv 238) 10 = some (.isub, 1, 0, 0) from rfl) ?_
      refine q_staticP (show mE (mtv 238) 11 = some (.invokestatic 157, 3, 211, 0) from rfl) (by decide) rfl rfl rfl (fun _ g => sp_211 g) ?_
      refine q_ifb_ne (t := 21) (show mE (mtv 238) 14 = some (.ifCond .ne 7, 3, 0, 0) from rfl) rfl (fun c94 => ?_) (fun c94 => ?_)
      · clear c94
        refine q_aload_n (show mE (mtv 238) 21 = some (.aload_n 0, 1, 0, 0) from rfl) (hl91 0 _ rfl) ?_
        refine q_iload_n (show mE (mtv 238) 22 = some (.iload_n 1, 1, 0, 0) from rfl) (hl91 1 _ rfl) ?_
        refine q_iconst (show mE (mtv 238) 23 = some (.iconst (-1), 1, 0, 0) from rfl) kI_m1 ?_
        refine q_virtualE (show mE (mtv 238) 24 = some (.invokevirtual 227, 3, 239, 9) from rfl) (by decide) rfl rfl rfl (fun _ g => sp_239 t6 g) ?_
        rintro _ ⟨v99, j95, h96, rfl, t97, e98⟩
        refine qK_v ?_
        refine q_if_ne (t := 34) (show mE (mtv 238) 27 = some (.ifCond .ne 7, 3, 0, 0) from rfl) rfl (fun c100 => ?_) (fun c100 => ?_)
        · refine q_aload_n (show mE (mtv 238) 34 = some (.aload_n 0, 1, 0, 0) from rfl) (hl91 0 _ rfl) ?_
          refine q_getI t97 (show mE (mtv 238) 35 = some (.getfield 117, 3, 9, 35) from rfl) (by decide) rfl ?_
          refine q_bipush (show mE (mtv 238) 38 = some (.bipush 16, 2, 0, 0) from rfl) kB_16 ?_
          refine q_ic_ne (t := 47) (show mE (mtv 238) 40 = some (.if_icmp .ne 7, 3, 0, 0) from rfl) rfl (fun c101 => ?_) (fun c101 => ?_)
          · refine q_iconst (show mE (mtv 238) 47 = some (.iconst 0, 1, 0, 0) from rfl) kI_0 ?_
            refine q_putI t97 (show mE (mtv 238) 48 = some (.putfield 138, 3, 9, 42) from rfl) (by decide) rfl (fun h102 t103 => ?_)
            refine q_aload_n (show mE (mtv 238) 51 = some (.aload_n 0, 1, 0, 0) from rfl) (hl91 0 _ rfl) ?_
            refine q_getIe t103 (show mE (mtv 238) 52 = some (.getfield 138, 3, 9, 42) from rfl) (by decide) rfl (upI_s) ?_
            refine q_ift (t := 62) (show mE (mtv 238) 55 = some (.ifCond .le 7, 3, 0, 0) from rfl) (by decide) rfl ?_
            refine q_aload_n (show mE (mtv 238) 62 = some (.aload_n 0, 1, 0, 0) from rfl) (hl91 0 _ rfl) ?_
            refine q_iload_n (show mE (mtv 238) 63 = some (.iload_n 1, 1, 0, 0) from rfl) (hl91 1 _ rfl) ?_
            refine q_virtualE (show mE (mtv 238) 64 = some (.invokevirtual 172, 3, 218, 9) from rfl) (by decide) rfl rfl rfl (fun _ g => sp_218 t103 g) ?_
            rintro _ ⟨v108, j104, h105, rfl, t106, e107⟩
            refine qK_v ?_
            refine q_ireturn (show mE (mtv 238) 67 = some (.ireturn, 1, 0, 0) from rfl) ?_
            exact ⟨(2 : Int32), v108, _, _, _, rfl, rfl, t106, (p8 c3 v8 j4 K9 e7 c14 v99 j95 e98 c100 c101 v108 j104 e107).1, (fun e => absurd e (by decide)), (p8 c3 v8 j4 K9 e7 c14 v99 j95 e98 c100 c101 v108 j104 e107).2⟩
          · refine q_iconst (show mE (mtv 238) 43 = some (.iconst 3, 1, 0, 0) from rfl) kI_3 ?_
            refine q_goto (t := 48) (show mE (mtv 238) 44 = some (.goto 4, 3, 0, 0) from rfl) rfl ?_
            refine q_putI t97 (show mE (mtv 238) 48 = some (.putfield 138, 3, 9, 42) from rfl) (by decide) rfl (fun h109 t110 => ?_)
            refine q_aload_n (show mE (mtv 238) 51 = some (.aload_n 0, 1, 0, 0) from rfl) (hl91 0 _ rfl) ?_
            refine q_getIe t110 (show mE (mtv 238) 52 = some (.getfield 138, 3, 9, 42) from rfl) (by decide) rfl (upI_s) ?_
            refine q_iff (t := 62) (show mE (mtv 238) 55 = some (.ifCond .le 7, 3, 0, 0) from rfl) (by decide) rfl ?_
            refine q_iconst (show mE (mtv 238) 58 = some (.iconst 0, 1, 0, 0) from rfl) kI_0 ?_
            refine q_goto (t := 67) (show mE (mtv 238) 59 = some (.goto 8, 3, 0, 0) from rfl) rfl ?_
            refine q_ireturn (show mE (mtv 238) 67 = some (.ireturn, 1, 0, 0) from rfl) ?_
            exact (p9 c3 v8 j4 K9 e7 c14 v99 j95 e98 c100 c101).elim
        · refine q_iconst (show mE (mtv 238) 30 = some (.iconst 2, 1, 0, 0) from rfl) kI_2 ?_
          refine q_goto (t := 48) (show mE (mtv 238) 31 = some (.goto 17, 3, 0, 0) from rfl) rfl ?_
          refine q_putI t97 (show mE (mtv 238) 48 = some (.putfield 138, 3, 9, 42) from rfl) (by decide) rfl (fun h111 t112 => ?_)
          refine q_aload_n (show mE (mtv 238) 51 = some (.aload_n 0, 1, 0, 0) from rfl) (hl91 0 _ rfl) ?_
          refine q_getIe t112 (show mE (mtv 238) 52 = some (.getfield 138, 3, 9, 42) from rfl) (by decide) rfl (upI_s) ?_
          refine q_iff (t := 62) (show mE (mtv 238) 55 = some (.ifCond .le 7, 3, 0, 0) from rfl) (by decide) rfl ?_
          refine q_iconst (show mE (mtv 238) 58 = some (.iconst 0, 1, 0, 0) from rfl) kI_0 ?_
          refine q_goto (t := 67) (show mE (mtv 238) 59 = some (.goto 8, 3, 0, 0) from rfl) rfl ?_
          refine q_ireturn (show mE (mtv 238) 67 = some (.ireturn, 1, 0, 0) from rfl) ?_
          exact ⟨(2 : Int32), (0 : Int32), _, _, _, rfl, rfl, t112, upI_s, (fun e => absurd e (by decide)), p10 c3 v8 j4 K9 e7 c14 v99 j95 e98 c100⟩
      · exact absurd c3 c94
  · refine q_throw (show mE (mtv 82) 16 = some (.new 81, 3, 1000, 0) from rfl) (by decide) ?_
    refine qK_x ?_
    refine qKh_x (hp := 12) (c := (13, sDr 3 (lv_args 0 [.ref (0), .int (a1), .ref (117)]), [], h)) rfl (by decide) (fun _ _ => rfl) ?_
    refine q_iconst (show mE (mtv 80) 13 = some (.iconst 1, 1, 0, 0) from rfl) kI_1 ?_
    refine q_ireturn (show mE (mtv 80) 14 = some (.ireturn, 1, 0, 0) from rfl) ?_
    intro r113 g114
    have g114 : qGo 238 [.ref (85), .int (a1)] h r113 := g114
    refine qGo_w (Q := fun r2 => opE (.inl (some (.int ((1 : Int32))))) r2.1 r2.2 RK) g114 (fun _ => ?_)
    have hl115 : qLs (lv_args 0 [.ref (85), .int (a1)]) [some (.ref (85)), some (.int (a1))] := qLs_ar 0
    refine q_aload_n (show mE (mtv 238) 0 = some (.aload_n 0, 1, 0, 0) from rfl) (hl115 0 _ rfl) ?_
    refine q_iload_n (show mE (mtv 238) 1 = some (.iload_n 1, 1, 0, 0) from rfl) (hl115 1 _ rfl) ?_
    refine q_iconst (show mE (mtv 238) 2 = some (.iconst 1, 1, 0, 0) from rfl) kI_1 ?_
    refine q_iconst (show mE (mtv 238) 3 = some (.iconst 1, 1, 0, 0) from rfl) kI_1 ?_
    refine q_aload_n (show mE (mtv 238) 4 = some (.aload_n 0, 1, 0, 0) from rfl) (hl115 0 _ rfl) ?_
    refine q_getI th (show mE (mtv 238) 5 = some (.getfield 120, 3, 9, 36) from rfl) (by decide) rfl ?_
    have r116 : I 85 36 = I 0 10 := hK.nd.symm
    rw [r116]; clear r116
    refine q_ishl (show mE (mtv 238) 8 = some (.ishl, 1, 0, 0) from rfl) ?_
    refine q_iconst (show mE (mtv 238) 9 = some (.iconst 1, 1, 0, 0) from rfl) kI_1 ?_
    refine q_isub (show mE (mtv 238) 10 = some (.isub, 1, 0, 0) from rfl) ?_
    refine q_staticP (show mE (mtv 238) 11 = some (.invokestatic 157, 3, 211, 0) from rfl) (by decide) rfl rfl rfl (fun _ g => sp_211 g) ?_
    refine q_ifb_ne (t := 21) (show mE (mtv 238) 14 = some (.ifCond .ne 7, 3, 0, 0) from rfl) rfl (fun c117 => ?_) (fun c117 => ?_)
    · exact absurd c117 c3
    · clear c117
      refine q_iconst (show mE (mtv 238) 17 = some (.iconst 1, 1, 0, 0) from rfl) kI_1 ?_
      refine q_goto (t := 48) (show mE (mtv 238) 18 = some (.goto 30, 3, 0, 0) from rfl) rfl ?_
      refine q_putI th (show mE (mtv 238) 48 = some (.putfield 138, 3, 9, 42) from rfl) (by decide) rfl (fun h118 t119 => ?_)
      refine q_aload_n (show mE (mtv 238) 51 = some (.aload_n 0, 1, 0, 0) from rfl) (hl115 0 _ rfl) ?_
      refine q_getIe t119 (show mE (mtv 238) 52 = some (.getfield 138, 3, 9, 42) from rfl) (by decide) rfl (upI_s) ?_
      refine q_iff (t := 62) (show mE (mtv 238) 55 = some (.ifCond .le 7, 3, 0, 0) from rfl) (by decide) rfl ?_
      refine q_iconst (show mE (mtv 238) 58 = some (.iconst 0, 1, 0, 0) from rfl) kI_0 ?_
      refine q_goto (t := 67) (show mE (mtv 238) 59 = some (.goto 8, 3, 0, 0) from rfl) rfl ?_
      refine q_ireturn (show mE (mtv 238) 67 = some (.ireturn, 1, 0, 0) from rfl) ?_
      exact ⟨(1 : Int32), (0 : Int32), _, _, _, rfl, rfl, t119, upI_s, (fun e => absurd e (by decide)), (RK_t (1 : Int32) hK)⟩
theorem ok_12 {h : sH} {I : Nat → Nat → Int32} {L : Nat → Nat → Int64} {R : Nat → Nat} (th : qH h I L R) (hK : RK I L R) (hG : RG I) {a1 : Int32} {r : sR} (gW : qGo 80 [.ref (0), .int (a1), .ref (117)] h r) : ∀ r2 : sR, qGo 238 [.ref (85), .int (a1)] r.2 r2 → opE r.1 r2.1 r2.2 RK := qp_12 th hK hG gW
  (fun c3 v8 j4 K9 e7 c14 c16 _ j34 e37 _ c44 v49 j45 e48 c50 c51 v58 j54 e57 => by
    have hkb := hK.mi.kb
    have j09 : j4 0 9 = Int32.ofNat (nkI I) := (e7.1 0 9 (by decide)).trans hK.k1
    rw [j09] at c16
    have hn : nkI I < 16 := (oN_lt (b := 16) (by omega) (by decide)).mp c16
    rw [j09, ofN_clamp (show nkI I < 2147483648 by omega), e7.1 1 4 (by decide)] at e37
    obtain ⟨_, w, t, r⟩ := find_new hK hG (.inl rfl) c3 e7 hn c14 e37 e48 e57
    rw [j09, ofN_clamp (show nkI I < 2147483648 by omega)]
    exact ⟨t, upL_s.trans (congrArg Int32.toInt64 w.symm), RK_L r⟩)
  (fun c3 v8 j4 K9 e7 c14 c16 _ j34 e37 _ c44 v49 j45 e48 c50 c51 => by
    have hkb := hK.mi.kb
    have j09 : j4 0 9 = Int32.ofNat (nkI I) := (e7.1 0 9 (by decide)).trans hK.k1
    rw [j09] at c16
    have hn : nkI I < 16 := (oN_lt (b := 16) (by omega) (by decide)).mp c16
    rw [j09, ofN_clamp (show nkI I < 2147483648 by omega), e7.1 1 4 (by decide)] at e37
    have q := ((find_pre hK hG (.inl rfl) e7 e37 hn).2 e48).1
    rw [q 35 (by decide), hK.mi.k] at c51
    have := (oN_inj (b := 16) (by omega) (by omega)).mp c51
    omega)
  (fun c3 v8 j4 K9 e7 c14 c16 _ j34 e37 _ c44 v49 j45 e48 c50 => by
    have hkb := hK.mi.kb
    have j09 : j4 0 9 = Int32.ofNat (nkI I) := (e7.1 0 9 (by decide)).trans hK.k1
    rw [j09] at c16
    have hn : nkI I < 16 := (oN_lt (b := 16) (by omega) (by decide)).mp c16
    rw [j09, ofN_clamp (show nkI I < 2147483648 by omega), e7.1 1 4 (by decide)] at e37
    rcases ((find_pre hK hG (.inl rfl) e7 e37 hn).2 e48).2 with ⟨z, _⟩ | ⟨_, z⟩
    · exact c14 z
    · rw [c50] at z; exact absurd z (by decide))
  (fun c3 v8 j4 K9 e7 c14 c16 _ j34 e37 _ c44 => by
    have hkb := hK.mi.kb
    have j09 : j4 0 9 = Int32.ofNat (nkI I) := (e7.1 0 9 (by decide)).trans hK.k1
    rw [j09] at c16
    have hn : nkI I < 16 := (oN_lt (b := 16) (by omega) (by decide)).mp c16
    rw [j09, ofN_clamp (show nkI I < 2147483648 by omega), e7.1 1 4 (by decide)] at e37
    refine c44 ?_
    rw [(find_pre (J45 := j34) (vm := 0) hK hG (.inl rfl) e7 e37 hn).1 36, ← hK.nd]
    exact c3)
  (fun c3 v8 j4 K9 e7 c14 c16 v75 j71 e74 c76 c77 v84 j80 e83 => by
    have hkb := hK.mi.kb
    rw [(e7.1 0 9 (by decide)).trans hK.k1] at c16
    have := mt (oN_lt (b := 16) (by omega) (by decide)).mpr c16
    obtain ⟨q1, _, _⟩ := find_no hK hG (.inl rfl) e7 e74
    refine absurd ?_ c77
    rw [q1 35 (by decide), hK.mi.k, show nkI I = 16 by omega]; rfl)
  (fun c3 v8 j4 K9 e7 c14 c16 v75 j71 e74 c76 c77 => RK_t 3 (find_no hK hG (.inl rfl) e7 e74).2.2)
  (fun c3 v8 j4 K9 e7 c14 c16 v75 j71 e74 c76 => by
    rcases (find_no hK hG (.inl rfl) e7 e74).2.1 with ⟨z, _⟩ | ⟨_, z⟩
    · exact c14 z
    · rw [c76] at z; exact absurd z (by decide))
  (fun c3 v8 j4 K9 e7 c14 v99 j95 e98 c100 c101 v108 j104 e107 => by
    rcases (find_no hK hG (.inl rfl) e7 e98).2.1 with ⟨_, z⟩ | ⟨z, _⟩
    · exact absurd z c100
    · exact absurd c14 z)
  (fun c3 v8 j4 K9 e7 c14 v99 j95 e98 c100 c101 => by
    rcases (find_no hK hG (.inl rfl) e7 e98).2.1 with ⟨_, z⟩ | ⟨z, _⟩
    · exact absurd z c100
    · exact absurd c14 z)
  (fun c3 v8 j4 K9 e7 c14 v99 j95 e98 c100 => RK_t 2 (find_no hK hG (.inl rfl) e7 e98).2.2)
end
section
/-! part 85: findIn -/
theorem RK.gbk {I : Nat → Nat → Int32} {L : Nat → Nat → Int64} {R : Nat → Nat} (h : RK I L R) {x : Int32} (c : (0 : Int32) ≤ x ∧ x ≤ ((I 0 12) - (1 : Int32))) : x = -1 ∨ ∃ b, b < nbI I ∧ x = Int32.ofNat b := by
  have hb := h.mi.bb
  have e := i32_clamp (d := x) (by have := c.1; rw [Int32.le_iff_toInt_le] at this; exact this)
  rw [h.b1, e, rng_iff (nn_lt x) (by omega)] at c
  exact .inr ⟨_, c, e⟩
set_option maxHeartbeats 4000000 in
theorem qp_29 {h : sH} {I : Nat → Nat → Int32} {L : Nat → Nat → Int64} {R : Nat → Nat} (th : qH h I L R) (hK : RK I L R) (hG : RG I) {a1 : Int32} {a2 : Int32} {r : sR} (gW : qGo 134 [.ref (0), .int (a1), .int (a2), .ref (117)] h r)
    (p1 : ∀ (c2 : (0 : Int32) ≤ a1 ∧ a1 ≤ ((I 0 12) - (1 : Int32))), ∀ (c4 : (1 : Int32) ≤ a2 ∧ a2 ≤ (((1 : Int32) <<< ((I 0 10) &&& 31)) - (1 : Int32))), ∀ (v9 : Int64), ∀ (j5 : Nat → Nat → Int32), ∀ (K10 : Nat → Nat → Int64), ∀ (e8 : srP I L R a2 (-1 : Int32) a1 j5 K10 v9), ∀ (c15 : ¬ (v9 = (0 : Int64))), ∀ (c17 : (j5 0 9) < (16 : Int32)), ∀ (bb22 : sIn (j5 0 9) 16 = true), ∀ (j35 : Nat → Nat → Int32), ∀ (e38 : wsP (upI (upI (upI j5 (19 + (j5 0 9).toNatClampNeg) 1 (j5 1 4)) (19 + (j5 0 9).toNatClampNeg) 3 ((1 : Int32) <<< ((j5 0 9) &&& 31))) 0 9 ((j5 0 9) + (1 : Int32))) R a2 (j5 0 9) (1 : Int32) j35), ∀ (bb39 : sIn (0 : Int32) 1 = true), ∀ (c45 : (0 : Int32) ≤ a1 ∧ a1 ≤ ((j35 85 46) - (1 : Int32))), ∀ (c46 : (1 : Int32) ≤ a2 ∧ a2 ≤ (((1 : Int32) <<< ((j35 85 36) &&& 31)) - (1 : Int32))), ∀ (v51 : Int32), ∀ (j47 : Nat → Nat → Int32), ∀ (e50 : fndP j35 a2 a1 j47 v51), ∀ (c52 : ¬ v51 = 0), ∀ (c53 : ¬ (j47 85 35) = (16 : Int32)), ∀ (v60 : Int32), ∀ (j56 : Nat → Nat → Int32), ∀ (e59 : adP (upI j47 85 42 (0 : Int32)) a2 j56 v60), j56 85 42 = (0 : Int32) ∧ (upL (upL K10 (19 + (j5 0 9).toNatClampNeg) 0 v9) 117 (((0 : Int32)).toNatClampNeg) ((j5 0 9).toInt64)) 117 (((0 : Int32)).toNatClampNeg) = v60.toInt64 ∧ RK j56 (upL (upL K10 (19 + (j5 0 9).toNatClampNeg) 0 v9) 117 (((0 : Int32)).toNatClampNeg) ((j5 0 9).toInt64)) R)
    (p2 : ∀ (c2 : (0 : Int32) ≤ a1 ∧ a1 ≤ ((I 0 12) - (1 : Int32))), ∀ (c4 : (1 : Int32) ≤ a2 ∧ a2 ≤ (((1 : Int32) <<< ((I 0 10) &&& 31)) - (1 : Int32))), ∀ (v9 : Int64), ∀ (j5 : Nat → Nat → Int32), ∀ (K10 : Nat → Nat → Int64), ∀ (e8 : srP I L R a2 (-1 : Int32) a1 j5 K10 v9), ∀ (c15 : ¬ (v9 = (0 : Int64))), ∀ (c17 : (j5 0 9) < (16 : Int32)), ∀ (bb22 : sIn (j5 0 9) 16 = true), ∀ (j35 : Nat → Nat → Int32), ∀ (e38 : wsP (upI (upI (upI j5 (19 + (j5 0 9).toNatClampNeg) 1 (j5 1 4)) (19 + (j5 0 9).toNatClampNeg) 3 ((1 : Int32) <<< ((j5 0 9) &&& 31))) 0 9 ((j5 0 9) + (1 : Int32))) R a2 (j5 0 9) (1 : Int32) j35), ∀ (bb39 : sIn (0 : Int32) 1 = true), ∀ (c45 : (0 : Int32) ≤ a1 ∧ a1 ≤ ((j35 85 46) - (1 : Int32))), ∀ (c46 : (1 : Int32) ≤ a2 ∧ a2 ≤ (((1 : Int32) <<< ((j35 85 36) &&& 31)) - (1 : Int32))), ∀ (v51 : Int32), ∀ (j47 : Nat → Nat → Int32), ∀ (e50 : fndP j35 a2 a1 j47 v51), ∀ (c52 : ¬ v51 = 0), ∀ (c53 : (j47 85 35) = (16 : Int32)), False)
    (p3 : ∀ (c2 : (0 : Int32) ≤ a1 ∧ a1 ≤ ((I 0 12) - (1 : Int32))), ∀ (c4 : (1 : Int32) ≤ a2 ∧ a2 ≤ (((1 : Int32) <<< ((I 0 10) &&& 31)) - (1 : Int32))), ∀ (v9 : Int64), ∀ (j5 : Nat → Nat → Int32), ∀ (K10 : Nat → Nat → Int64), ∀ (e8 : srP I L R a2 (-1 : Int32) a1 j5 K10 v9), ∀ (c15 : ¬ (v9 = (0 : Int64))), ∀ (c17 : (j5 0 9) < (16 : Int32)), ∀ (bb22 : sIn (j5 0 9) 16 = true), ∀ (j35 : Nat → Nat → Int32), ∀ (e38 : wsP (upI (upI (upI j5 (19 + (j5 0 9).toNatClampNeg) 1 (j5 1 4)) (19 + (j5 0 9).toNatClampNeg) 3 ((1 : Int32) <<< ((j5 0 9) &&& 31))) 0 9 ((j5 0 9) + (1 : Int32))) R a2 (j5 0 9) (1 : Int32) j35), ∀ (bb39 : sIn (0 : Int32) 1 = true), ∀ (c45 : (0 : Int32) ≤ a1 ∧ a1 ≤ ((j35 85 46) - (1 : Int32))), ∀ (c46 : (1 : Int32) ≤ a2 ∧ a2 ≤ (((1 : Int32) <<< ((j35 85 36) &&& 31)) - (1 : Int32))), ∀ (v51 : Int32), ∀ (j47 : Nat → Nat → Int32), ∀ (e50 : fndP j35 a2 a1 j47 v51), ∀ (c52 : v51 = 0), False)
    (p4 : ∀ (c2 : (0 : Int32) ≤ a1 ∧ a1 ≤ ((I 0 12) - (1 : Int32))), ∀ (c4 : (1 : Int32) ≤ a2 ∧ a2 ≤ (((1 : Int32) <<< ((I 0 10) &&& 31)) - (1 : Int32))), ∀ (v9 : Int64), ∀ (j5 : Nat → Nat → Int32), ∀ (K10 : Nat → Nat → Int64), ∀ (e8 : srP I L R a2 (-1 : Int32) a1 j5 K10 v9), ∀ (c15 : ¬ (v9 = (0 : Int64))), ∀ (c17 : (j5 0 9) < (16 : Int32)), ∀ (bb22 : sIn (j5 0 9) 16 = true), ∀ (j35 : Nat → Nat → Int32), ∀ (e38 : wsP (upI (upI (upI j5 (19 + (j5 0 9).toNatClampNeg) 1 (j5 1 4)) (19 + (j5 0 9).toNatClampNeg) 3 ((1 : Int32) <<< ((j5 0 9) &&& 31))) 0 9 ((j5 0 9) + (1 : Int32))) R a2 (j5 0 9) (1 : Int32) j35), ∀ (bb39 : sIn (0 : Int32) 1 = true), ∀ (c45 : (0 : Int32) ≤ a1 ∧ a1 ≤ ((j35 85 46) - (1 : Int32))), ∀ (c46 : ¬ ((1 : Int32) ≤ a2 ∧ a2 ≤ (((1 : Int32) <<< ((j35 85 36) &&& 31)) - (1 : Int32)))), False)
    (p5 : ∀ (c2 : (0 : Int32) ≤ a1 ∧ a1 ≤ ((I 0 12) - (1 : Int32))), ∀ (c4 : (1 : Int32) ≤ a2 ∧ a2 ≤ (((1 : Int32) <<< ((I 0 10) &&& 31)) - (1 : Int32))), ∀ (v9 : Int64), ∀ (j5 : Nat → Nat → Int32), ∀ (K10 : Nat → Nat → Int64), ∀ (e8 : srP I L R a2 (-1 : Int32) a1 j5 K10 v9), ∀ (c15 : ¬ (v9 = (0 : Int64))), ∀ (c17 : (j5 0 9) < (16 : Int32)), ∀ (bb22 : sIn (j5 0 9) 16 = true), ∀ (j35 : Nat → Nat → Int32), ∀ (e38 : wsP (upI (upI (upI j5 (19 + (j5 0 9).toNatClampNeg) 1 (j5 1 4)) (19 + (j5 0 9).toNatClampNeg) 3 ((1 : Int32) <<< ((j5 0 9) &&& 31))) 0 9 ((j5 0 9) + (1 : Int32))) R a2 (j5 0 9) (1 : Int32) j35), ∀ (bb39 : sIn (0 : Int32) 1 = true), ∀ (c45 : ¬ ((0 : Int32) ≤ a1 ∧ a1 ≤ ((j35 85 46) - (1 : Int32)))), False)
    (p6 : ∀ (c2 : (0 : Int32) ≤ a1 ∧ a1 ≤ ((I 0 12) - (1 : Int32))), ∀ (c4 : (1 : Int32) ≤ a2 ∧ a2 ≤ (((1 : Int32) <<< ((I 0 10) &&& 31)) - (1 : Int32))), ∀ (v9 : Int64), ∀ (j5 : Nat → Nat → Int32), ∀ (K10 : Nat → Nat → Int64), ∀ (e8 : srP I L R a2 (-1 : Int32) a1 j5 K10 v9), ∀ (c15 : ¬ (v9 = (0 : Int64))), ∀ (c17 : ¬ (j5 0 9) < (16 : Int32)), ∀ (v82 : Int32), ∀ (j78 : Nat → Nat → Int32), ∀ (e81 : fndP j5 a2 a1 j78 v82), ∀ (c83 : ¬ v82 = 0), ∀ (c84 : ¬ (j78 85 35) = (16 : Int32)), ∀ (v91 : Int32), ∀ (j87 : Nat → Nat → Int32), ∀ (e90 : adP (upI j78 85 42 (0 : Int32)) a2 j87 v91), j87 85 42 = (4 : Int32) ∧ RK j87 K10 R)
    (p7 : ∀ (c2 : (0 : Int32) ≤ a1 ∧ a1 ≤ ((I 0 12) - (1 : Int32))), ∀ (c4 : (1 : Int32) ≤ a2 ∧ a2 ≤ (((1 : Int32) <<< ((I 0 10) &&& 31)) - (1 : Int32))), ∀ (v9 : Int64), ∀ (j5 : Nat → Nat → Int32), ∀ (K10 : Nat → Nat → Int64), ∀ (e8 : srP I L R a2 (-1 : Int32) a1 j5 K10 v9), ∀ (c15 : ¬ (v9 = (0 : Int64))), ∀ (c17 : ¬ (j5 0 9) < (16 : Int32)), ∀ (v82 : Int32), ∀ (j78 : Nat → Nat → Int32), ∀ (e81 : fndP j5 a2 a1 j78 v82), ∀ (c83 : ¬ v82 = 0), ∀ (c84 : (j78 85 35) = (16 : Int32)), RK (upI j78 85 42 (4 : Int32)) K10 R)
    (p8 : ∀ (c2 : (0 : Int32) ≤ a1 ∧ a1 ≤ ((I 0 12) - (1 : Int32))), ∀ (c4 : (1 : Int32) ≤ a2 ∧ a2 ≤ (((1 : Int32) <<< ((I 0 10) &&& 31)) - (1 : Int32))), ∀ (v9 : Int64), ∀ (j5 : Nat → Nat → Int32), ∀ (K10 : Nat → Nat → Int64), ∀ (e8 : srP I L R a2 (-1 : Int32) a1 j5 K10 v9), ∀ (c15 : ¬ (v9 = (0 : Int64))), ∀ (c17 : ¬ (j5 0 9) < (16 : Int32)), ∀ (v82 : Int32), ∀ (j78 : Nat → Nat → Int32), ∀ (e81 : fndP j5 a2 a1 j78 v82), ∀ (c83 : v82 = 0), False)
    (p9 : ∀ (c2 : (0 : Int32) ≤ a1 ∧ a1 ≤ ((I 0 12) - (1 : Int32))), ∀ (c4 : (1 : Int32) ≤ a2 ∧ a2 ≤ (((1 : Int32) <<< ((I 0 10) &&& 31)) - (1 : Int32))), ∀ (v9 : Int64), ∀ (j5 : Nat → Nat → Int32), ∀ (K10 : Nat → Nat → Int64), ∀ (e8 : srP I L R a2 (-1 : Int32) a1 j5 K10 v9), ∀ (c15 : v9 = (0 : Int64)), ∀ (v109 : Int32), ∀ (j105 : Nat → Nat → Int32), ∀ (e108 : fndP j5 a2 a1 j105 v109), ∀ (c110 : ¬ v109 = 0), ∀ (c111 : ¬ (j105 85 35) = (16 : Int32)), ∀ (v118 : Int32), ∀ (j114 : Nat → Nat → Int32), ∀ (e117 : adP (upI j105 85 42 (0 : Int32)) a2 j114 v118), j114 85 42 = (3 : Int32) ∧ RK j114 K10 R)
    (p10 : ∀ (c2 : (0 : Int32) ≤ a1 ∧ a1 ≤ ((I 0 12) - (1 : Int32))), ∀ (c4 : (1 : Int32) ≤ a2 ∧ a2 ≤ (((1 : Int32) <<< ((I 0 10) &&& 31)) - (1 : Int32))), ∀ (v9 : Int64), ∀ (j5 : Nat → Nat → Int32), ∀ (K10 : Nat → Nat → Int64), ∀ (e8 : srP I L R a2 (-1 : Int32) a1 j5 K10 v9), ∀ (c15 : v9 = (0 : Int64)), ∀ (v109 : Int32), ∀ (j105 : Nat → Nat → Int32), ∀ (e108 : fndP j5 a2 a1 j105 v109), ∀ (c110 : ¬ v109 = 0), ∀ (c111 : (j105 85 35) = (16 : Int32)), False)
    (p11 : ∀ (c2 : (0 : Int32) ≤ a1 ∧ a1 ≤ ((I 0 12) - (1 : Int32))), ∀ (c4 : (1 : Int32) ≤ a2 ∧ a2 ≤ (((1 : Int32) <<< ((I 0 10) &&& 31)) - (1 : Int32))), ∀ (v9 : Int64), ∀ (j5 : Nat → Nat → Int32), ∀ (K10 : Nat → Nat → Int64), ∀ (e8 : srP I L R a2 (-1 : Int32) a1 j5 K10 v9), ∀ (c15 : v9 = (0 : Int64)), ∀ (v109 : Int32), ∀ (j105 : Nat → Nat → Int32), ∀ (e108 : fndP j5 a2 a1 j105 v109), ∀ (c110 : v109 = 0), RK (upI j105 85 42 (3 : Int32)) K10 R) : ∀ r2 : sR, qGo 267 [.ref (85), .int (a1), .int (a2)] r.2 r2 → opE r.1 r2.1 r2.2 RK := by
  refine qGo_w (Q := fun r => ∀ r2 : sR, qGo 267 [.ref (85), .int (a1), .int (a2)] r.2 r2 → opE r.1 r2.1 r2.2 RK) gW (fun N => ?_)
  have hl0 : qLs (lv_args 0 [.ref (0), .int (a1), .int (a2), .ref (117)]) [some (.ref (0)), some (.int (a1)), some (.int (a2)), some (.ref (117)), none] := qLs_ar 1
  refine q_aload_n (show mE (mtv 134) 0 = some (.aload_n 3, 1, 0, 0) from rfl) (hl0 3 _ rfl) ?_
  refine q_iconst (show mE (mtv 134) 1 = some (.iconst 0, 1, 0, 0) from rfl) kI_0 ?_
  refine q_aload_n (show mE (mtv 134) 2 = some (.aload_n 0, 1, 0, 0) from rfl) (hl0 0 _ rfl) ?_
  refine q_iload_n (show mE (mtv 134) 3 = some (.iload_n 1, 1, 0, 0) from rfl) (hl0 1 _ rfl) ?_
  refine q_iload_n (show mE (mtv 134) 4 = some (.iload_n 2, 1, 0, 0) from rfl) (hl0 2 _ rfl) ?_
  refine q_virtualIh (show mE (mtv 134) 5 = some (.invokevirtual 98, 3, 135, 8) from rfl) (by decide) rfl rfl rfl (fun _ => ?_)
  have hl1 : qLs (lv_args 0 [.ref (0), .int (a1), .int (a2)]) [some (.ref (0)), some (.int (a1)), some (.int (a2)), none, none] := qLs_ar 2
  refine q_iload_n (show mE (mtv 135) 0 = some (.iload_n 1, 1, 0, 0) from rfl) (hl1 1 _ rfl) ?_
  refine q_iconst (show mE (mtv 135) 1 = some (.iconst 0, 1, 0, 0) from rfl) kI_0 ?_
  refine q_aload_n (show mE (mtv 135) 2 = some (.aload_n 0, 1, 0, 0) from rfl) (hl1 0 _ rfl) ?_
  refine q_getI th (show mE (mtv 135) 3 = some (.getfield 91, 3, 8, 12) from rfl) (by decide) rfl ?_
  refine q_iconst (show mE (mtv 135) 6 = some (.iconst 1, 1, 0, 0) from rfl) kI_1 ?_
  refine q_isub (show mE (mtv 135) 7 = some (.isub, 1, 0, 0) from rfl) ?_
  refine q_staticP (show mE (mtv 135) 8 = some (.invokestatic 77, 3, 47, 0) from rfl) (by decide) rfl rfl rfl (fun _ g => sp_47 g) ?_
  refine q_ifb_ne (t := 25) (show mE (mtv 135) 11 = some (.ifCond .ne 14, 3, 0, 0) from rfl) rfl (fun c2 => ?_) (fun c2 => ?_)
  · refine q_aload_n (show mE (mtv 135) 25 = some (.aload_n 0, 1, 0, 0) from rfl) (hl1 0 _ rfl) ?_
    refine q_iload_n (show mE (mtv 135) 26 = some (.iload_n 2, 1, 0, 0) from rfl) (hl1 2 _ rfl) ?_
    refine q_virtualI (show mE (mtv 135) 27 = some (.invokevirtual 224, 3, 82, 8) from rfl) (by decide) rfl rfl rfl (fun _ => ?_)
    have hl3 : qLs (lv_args 0 [.ref (0), .int (a2)]) [some (.ref (0)), some (.int (a2))] := qLs_ar 0
    refine q_iload_n (show mE (mtv 82) 0 = some (.iload_n 1, 1, 0, 0) from rfl) (hl3 1 _ rfl) ?_
    refine q_iconst (show mE (mtv 82) 1 = some (.iconst 1, 1, 0, 0) from rfl) kI_1 ?_
    refine q_iconst (show mE (mtv 82) 2 = some (.iconst 1, 1, 0, 0) from rfl) kI_1 ?_
    refine q_aload_n (show mE (mtv 82) 3 = some (.aload_n 0, 1, 0, 0) from rfl) (hl3 0 _ rfl) ?_
    refine q_getI th (show mE (mtv 82) 4 = some (.getfield 171, 3, 8, 10) from rfl) (by decide) rfl ?_
    refine q_ishl (show mE (mtv 82) 7 = some (.ishl, 1, 0, 0) from rfl) ?_
    refine q_iconst (show mE (mtv 82) 8 = some (.iconst 1, 1, 0, 0) from rfl) kI_1 ?_
    refine q_isub (show mE (mtv 82) 9 = some (.isub, 1, 0, 0) from rfl) ?_
    refine q_staticP (show mE (mtv 82) 10 = some (.invokestatic 77, 3, 47, 0) from rfl) (by decide) rfl rfl rfl (fun _ g => sp_47 g) ?_
    refine q_ifb_ne (t := 27) (show mE (mtv 82) 13 = some (.ifCond .ne 14, 3, 0, 0) from rfl) rfl (fun c4 => ?_) (fun c4 => ?_)
    · refine q_return_ (show mE (mtv 82) 27 = some (.return_, 1, 0, 0) from rfl) ?_
      refine qK_n ?_
      refine q_aload_n (show mE (mtv 135) 30 = some (.aload_n 0, 1, 0, 0) from rfl) (hl1 0 _ rfl) ?_
      refine q_iload_n (show mE (mtv 135) 31 = some (.iload_n 2, 1, 0, 0) from rfl) (hl1 2 _ rfl) ?_
      refine q_iconst (show mE (mtv 135) 32 = some (.iconst (-1), 1, 0, 0) from rfl) kI_m1 ?_
      refine q_iload_n (show mE (mtv 135) 33 = some (.iload_n 1, 1, 0, 0) from rfl) (hl1 1 _ rfl) ?_
      refine q_virtualE (show mE (mtv 135) 34 = some (.invokevirtual 227, 3, 83, 8) from rfl) (by decide) rfl rfl rfl (fun _ g => sp_83 th g) ?_
      rintro _ ⟨v9, j5, K10, h6, rfl, t7, e8⟩
      refine qK_v ?_
      have ag11 : agS j5 I := srS e8
      refine q_lstore_n (show mE (mtv 135) 37 = some (.lstore_n 3, 1, 0, 0) from rfl) (Nat.le_of_ble_eq_true rfl) hl1 (fun lv12 (hl13 : qLs lv12 [some (.ref (0)), some (.int (a1)), some (.int (a2)), some (.long (v9)), none]) => ?_)
      refine q_aload_n (show mE (mtv 135) 38 = some (.aload_n 0, 1, 0, 0) from rfl) (hl13 0 _ rfl) ?_
      refine q_lload_n (show mE (mtv 135) 39 = some (.lload_n 3, 1, 0, 0) from rfl) (hl13 3 _ rfl) ?_
      refine q_virtualI (show mE (mtv 135) 40 = some (.invokevirtual 231, 3, 96, 8) from rfl) (by decide) rfl rfl rfl (fun _ => ?_)
      have hl14 : qLs (lv_args 0 [.ref (0), .long (v9)]) [some (.ref (0)), some (.long (v9)), none] := qLs_ar 0
      refine q_lload_n (show mE (mtv 96) 0 = some (.lload_n 1, 1, 0, 0) from rfl) (hl14 1 _ rfl) ?_
      refine q_lconst (show mE (mtv 96) 1 = some (.lconst 0, 1, 0, 0) from rfl) kL_0 ?_
      refine q_lcmp (show mE (mtv 96) 2 = some (.lcmp, 1, 0, 0) from rfl) ?_
      refine q_ifl_ne (t := 17) (show mE (mtv 96) 3 = some (.ifCond .ne 14, 3, 0, 0) from rfl) rfl (fun c15 => ?_) (fun c15 => ?_)
      · refine q_return_ (show mE (mtv 96) 17 = some (.return_, 1, 0, 0) from rfl) ?_
        refine qK_n ?_
        refine q_aload_n (show mE (mtv 135) 43 = some (.aload_n 0, 1, 0, 0) from rfl) (hl13 0 _ rfl) ?_
        refine q_virtualI (show mE (mtv 135) 44 = some (.invokevirtual 151, 3, 57, 8) from rfl) (by decide) rfl rfl rfl (fun _ => ?_)
        have hl16 : qLs (lv_args 0 [.ref (0)]) [some (.ref (0))] := qLs_ar 0
        refine q_aload_n (show mE (mtv 57) 0 = some (.aload_n 0, 1, 0, 0) from rfl) (hl16 0 _ rfl) ?_
        refine q_getI t7 (show mE (mtv 57) 1 = some (.getfield 88, 3, 8, 9) from rfl) (by decide) rfl ?_
        refine q_bipush (show mE (mtv 57) 4 = some (.bipush 16, 2, 0, 0) from rfl) kB_16 ?_
        refine q_ic_lt (t := 20) (show mE (mtv 57) 6 = some (.if_icmp .lt 14, 3, 0, 0) from rfl) rfl (fun c17 => ?_) (fun c17 => ?_)
        · refine q_return_ (show mE (mtv 57) 20 = some (.return_, 1, 0, 0) from rfl) ?_
          refine qK_n ?_
          refine q_aload_n (show mE (mtv 135) 47 = some (.aload_n 0, 1, 0, 0) from rfl) (hl13 0 _ rfl) ?_
          refine q_lload_n (show mE (mtv 135) 48 = some (.lload_n 3, 1, 0, 0) from rfl) (hl13 3 _ rfl) ?_
          refine q_iload_n (show mE (mtv 135) 49 = some (.iload_n 2, 1, 0, 0) from rfl) (hl13 2 _ rfl) ?_
          refine q_virtualI (show mE (mtv 135) 50 = some (.invokevirtual 235, 3, 97, 8) from rfl) (by decide) rfl rfl rfl (fun _ => ?_)
          have hl18 : qLs (lv_args 0 [.ref (0), .long (v9), .int (a2)]) [some (.ref (0)), some (.long (v9)), none, some (.int (a2)), none] := qLs_ar 1
          refine q_aload_n (show mE (mtv 97) 0 = some (.aload_n 0, 1, 0, 0) from rfl) (hl18 0 _ rfl) ?_
          refine q_lload_n (show mE (mtv 97) 1 = some (.lload_n 1, 1, 0, 0) from rfl) (hl18 1 _ rfl) ?_
          refine q_virtualI (show mE (mtv 97) 2 = some (.invokevirtual 154, 3, 58, 8) from rfl) (by decide) rfl rfl rfl (fun _ => ?_)
          have hl19 : qLs (lv_args 0 [.ref (0), .long (v9)]) [some (.ref (0)), some (.long (v9)), none, none] := qLs_ar 1
          refine q_aload_n (show mE (mtv 58) 0 = some (.aload_n 0, 1, 0, 0) from rfl) (hl19 0 _ rfl) ?_
          refine q_getI t7 (show mE (mtv 58) 1 = some (.getfield 88, 3, 8, 9) from rfl) (by decide) rfl ?_
          refine q_istore_n (show mE (mtv 58) 4 = some (.istore_n 3, 1, 0, 0) from rfl) (Nat.le_of_ble_eq_true rfl) hl19 (fun lv20 (hl21 : qLs lv20 [some (.ref (0)), some (.long (v9)), none, some (.int (j5 0 9))]) => ?_)
          refine q_aload_n (show mE (mtv 58) 5 = some (.aload_n 0, 1, 0, 0) from rfl) (hl21 0 _ rfl) ?_
          refine q_getR (m := 12) t7 (show mE (mtv 58) 6 = some (.getfield 25, 3, 8, 2) from rfl) (by decide) rfl rfl ?_
          refine q_iload_n (show mE (mtv 58) 9 = some (.iload_n 3, 1, 0, 0) from rfl) (hl21 3 _ rfl) ?_
          refine q_aaload (n := 16) (t := 4) (m := 19) t7 (show mE (mtv 58) 10 = some (.aaload, 1, 0, 0) from rfl) (by decide) rfl (fun _ _ => rfl) (fun bb22 => ?_)
          refine q_lload_n (show mE (mtv 58) 11 = some (.lload_n 1, 1, 0, 0) from rfl) (hl21 1 _ rfl) ?_
          refine q_putL t7 (show mE (mtv 58) 12 = some (.putfield 165, 3, 3, 0) from rfl) (qB bb22 (by decide)) rfl (fun h23 t24 => ?_)
          refine q_aload_n (show mE (mtv 58) 15 = some (.aload_n 0, 1, 0, 0) from rfl) (hl21 0 _ rfl) ?_
          refine q_getR (m := 12) t24 (show mE (mtv 58) 16 = some (.getfield 25, 3, 8, 2) from rfl) (by decide) rfl rfl ?_
          refine q_iload_n (show mE (mtv 58) 19 = some (.iload_n 3, 1, 0, 0) from rfl) (hl21 3 _ rfl) ?_
          refine q_aaload (n := 16) (t := 4) (m := 19) t24 (show mE (mtv 58) 20 = some (.aaload, 1, 0, 0) from rfl) (by decide) rfl (fun _ _ => rfl) (fun bb25 => ?_)
          refine q_aload_n (show mE (mtv 58) 21 = some (.aload_n 0, 1, 0, 0) from rfl) (hl21 0 _ rfl) ?_
          refine q_getR (m := 1) t24 (show mE (mtv 58) 22 = some (.getfield 10, 3, 8, 0) from rfl) (by decide) rfl rfl ?_
          refine q_getI t24 (show mE (mtv 58) 25 = some (.getfield 260, 3, 4, 4) from rfl) (by decide) rfl ?_
          refine q_putI t24 (show mE (mtv 58) 28 = some (.putfield 263, 3, 3, 1) from rfl) (qB bb25 (by decide)) rfl (fun h26 t27 => ?_)
          refine q_aload_n (show mE (mtv 58) 31 = some (.aload_n 0, 1, 0, 0) from rfl) (hl21 0 _ rfl) ?_
          refine q_getR (m := 12) t27 (show mE (mtv 58) 32 = some (.getfield 25, 3, 8, 2) from rfl) (by decide) rfl rfl ?_
          refine q_iload_n (show mE (mtv 58) 35 = some (.iload_n 3, 1, 0, 0) from rfl) (hl21 3 _ rfl) ?_
          refine q_aaload (n := 16) (t := 4) (m := 19) t27 (show mE (mtv 58) 36 = some (.aaload, 1, 0, 0) from rfl) (by decide) rfl (fun _ _ => rfl) (fun bb28 => ?_)
          refine q_iconst (show mE (mtv 58) 37 = some (.iconst 1, 1, 0, 0) from rfl) kI_1 ?_
          refine q_iload_n (show mE (mtv 58) 38 = some (.iload_n 3, 1, 0, 0) from rfl) (hl21 3 _ rfl) ?_
          refine q_ishl (show mE (mtv 58) 39 = some (.ishl, 1, 0, 0) from rfl) ?_
          refine q_putI t27 (show mE (mtv 58) 40 = some (.putfield 372, 3, 3, 3) from rfl) (qB bb28 (by decide)) rfl (fun h29 t30 => ?_)
          refine q_aload_n (show mE (mtv 58) 43 = some (.aload_n 0, 1, 0, 0) from rfl) (hl21 0 _ rfl) ?_
          refine q_iload_n (show mE (mtv 58) 44 = some (.iload_n 3, 1, 0, 0) from rfl) (hl21 3 _ rfl) ?_
          refine q_iconst (show mE (mtv 58) 45 = some (.iconst 1, 1, 0, 0) from rfl) kI_1 ?_
          refine q_iadd (show mE (mtv 58) 46 = some (.iadd, 1, 0, 0) from rfl) ?_
          refine q_putI t30 (show mE (mtv 58) 47 = some (.putfield 88, 3, 8, 9) from rfl) (by decide) rfl (fun h31 t32 => ?_)
          refine q_iload_n (show mE (mtv 58) 50 = some (.iload_n 3, 1, 0, 0) from rfl) (hl21 3 _ rfl) ?_
          refine q_ireturn (show mE (mtv 58) 51 = some (.ireturn, 1, 0, 0) from rfl) ?_
          refine qK_v ?_
          refine q_istore (show mE (mtv 97) 5 = some (.istore 4, 2, 0, 0) from rfl) (Nat.le_of_ble_eq_true rfl) hl18 (fun lv33 (hl34 : qLs lv33 [some (.ref (0)), some (.long (v9)), none, some (.int (a2)), some (.int (j5 0 9))]) => ?_)
          refine q_aload_n (show mE (mtv 97) 7 = some (.aload_n 0, 1, 0, 0) from rfl) (hl34 0 _ rfl) ?_
          refine q_iload_n (show mE (mtv 97) 8 = some (.iload_n 3, 1, 0, 0) from rfl) (hl34 3 _ rfl) ?_
          refine q_iload (show mE (mtv 97) 9 = some (.iload 4, 2, 0, 0) from rfl) (hl34 4 _ rfl) ?_
          refine q_iconst (show mE (mtv 97) 11 = some (.iconst 1, 1, 0, 0) from rfl) kI_1 ?_
          refine q_virtualE (show mE (mtv 97) 12 = some (.invokevirtual 254, 3, 98, 8) from rfl) (by decide) rfl rfl rfl (fun _ g => sp_98 t32 g) ?_
          rintro _ ⟨j35, h36, rfl, t37, e38⟩
          refine qK_n ?_
          refine q_iload (show mE (mtv 97) 15 = some (.iload 4, 2, 0, 0) from rfl) (hl34 4 _ rfl) ?_
          refine q_ireturn (show mE (mtv 97) 17 = some (.ireturn, 1, 0, 0) from rfl) ?_
          refine qK_v ?_
          refine q_ireturn (show mE (mtv 135) 53 = some (.ireturn, 1, 0, 0) from rfl) ?_
          refine qKh_v ?_
          refine q_i2l (show mE (mtv 134) 8 = some (.i2l, 1, 0, 0) from rfl) ?_
          refine q_lastore (n := 1) t37 (show mE (mtv 134) 9 = some (.lastore, 1, 0, 0) from rfl) (by decide) rfl (fun bb39 h40 t41 => ?_)
          refine q_goto (t := 29) (show mE (mtv 134) 10 = some (.goto 19, 3, 0, 0) from rfl) rfl ?_
          refine q_iconst (show mE (mtv 134) 29 = some (.iconst 0, 1, 0, 0) from rfl) kI_0 ?_
          refine q_ireturn (show mE (mtv 134) 30 = some (.ireturn, 1, 0, 0) from rfl) ?_
          intro r42 g43
          have g43 : qGo 267 [.ref (85), .int (a1), .int (a2)] h40 r42 := g43
          refine qGo_w (Q := fun r2 => opE (.inl (some (.int ((0 : Int32))))) r2.1 r2.2 RK) g43 (fun _ => ?_)
          have hl44 : qLs (lv_args 0 [.ref (85), .int (a1), .int (a2)]) [some (.ref (85)), some (.int (a1)), some (.int (a2))] := qLs_ar 0
          refine q_aload_n (show mE (mtv 267) 0 = some (.aload_n 0, 1, 0, 0) from rfl) (hl44 0 _ rfl) ?_
          refine q_iload_n (show mE (mtv 267) 1 = some (.iload_n 1, 1, 0, 0) from rfl) (hl44 1 _ rfl) ?_
          refine q_iconst (show mE (mtv 267) 2 = some (.iconst 0, 1, 0, 0) from rfl) kI_0 ?_
          refine q_aload_n (show mE (mtv 267) 3 = some (.aload_n 0, 1, 0, 0) from rfl) (hl44 0 _ rfl) ?_
          refine q_getI t41 (show mE (mtv 267) 4 = some (.getfield 150, 3, 9, 46) from rfl) (by decide) rfl ?_
          refine q_iconst (show mE (mtv 267) 7 = some (.iconst 1, 1, 0, 0) from rfl) kI_1 ?_
          refine q_isub (show mE (mtv 267) 8 = some (.isub, 1, 0, 0) from rfl) ?_
          refine q_staticP (show mE (mtv 267) 9 = some (.invokestatic 157, 3, 211, 0) from rfl) (by decide) rfl rfl rfl (fun _ g => sp_211 g) ?_
          refine q_ifb_ne (t := 19) (show mE (mtv 267) 12 = some (.ifCond .ne 7, 3, 0, 0) from rfl) rfl (fun c45 => ?_) (fun c45 => ?_)
          · refine q_iload_n (show mE (mtv 267) 19 = some (.iload_n 2, 1, 0, 0) from rfl) (hl44 2 _ rfl) ?_
            refine q_iconst (show mE (mtv 267) 20 = some (.iconst 1, 1, 0, 0) from rfl) kI_1 ?_
            refine q_iconst (show mE (mtv 267) 21 = some (.iconst 1, 1, 0, 0) from rfl) kI_1 ?_
            refine q_aload_n (show mE (mtv 267) 22 = some (.aload_n 0, 1, 0, 0) from rfl) (hl44 0 _ rfl) ?_
            refine q_getI t41 (show mE (mtv 267) 23 = some (.getfield 120, 3, 9, 36) from rfl) (by decide) rfl ?_
            refine q_ishl (show mE (mtv 267) 26 = some (.ishl, 1, 0, 0) from rfl) ?_
            refine q_iconst (show mE (mtv 267) 27 = some (.iconst 1, 1, 0, 0) from rfl) kI_1 ?_
            refine q_isub (show mE (mtv 267) 28 = some (.isub, 1, 0, 0) from rfl) ?_
            refine q_staticP (show mE (mtv 267) 29 = some (.invokestatic 157, 3, 211, 0) from rfl) (by decide) rfl rfl rfl (fun _ g => sp_211 g) ?_
            refine q_ifb_ne (t := 39) (show mE (mtv 267) 32 = some (.ifCond .ne 7, 3, 0, 0) from rfl) rfl (fun c46 => ?_) (fun c46 => ?_)
            · refine q_aload_n (show mE (mtv 267) 39 = some (.aload_n 0, 1, 0, 0) from rfl) (hl44 0 _ rfl) ?_
              refine q_iload_n (show mE (mtv 267) 40 = some (.iload_n 2, 1, 0, 0) from rfl) (hl44 2 _ rfl) ?_
              refine q_iload_n (show mE (mtv 267) 41 = some (.iload_n 1, 1, 0, 0) from rfl) (hl44 1 _ rfl) ?_
              refine q_virtualE (show mE (mtv 267) 42 = some (.invokevirtual 227, 3, 239, 9) from rfl) (by decide) rfl rfl rfl (fun _ g => sp_239 t41 g) ?_
              rintro _ ⟨v51, j47, h48, rfl, t49, e50⟩
              refine qK_v ?_
              refine q_if_ne (t := 52) (show mE (mtv 267) 45 = some (.ifCond .ne 7, 3, 0, 0) from rfl) rfl (fun c52 => ?_) (fun c52 => ?_)
              · refine q_aload_n (show mE (mtv 267) 52 = some (.aload_n 0, 1, 0, 0) from rfl) (hl44 0 _ rfl) ?_
                refine q_getI t49 (show mE (mtv 267) 53 = some (.getfield 117, 3, 9, 35) from rfl) (by decide) rfl ?_
                refine q_bipush (show mE (mtv 267) 56 = some (.bipush 16, 2, 0, 0) from rfl) kB_16 ?_
                refine q_ic_ne (t := 65) (show mE (mtv 267) 58 = some (.if_icmp .ne 7, 3, 0, 0) from rfl) rfl (fun c53 => ?_) (fun c53 => ?_)
                · refine q_iconst (show mE (mtv 267) 65 = some (.iconst 0, 1, 0, 0) from rfl) kI_0 ?_
                  refine q_putI t49 (show mE (mtv 267) 66 = some (.putfield 138, 3, 9, 42) from rfl) (by decide) rfl (fun h54 t55 => ?_)
                  refine q_aload_n (show mE (mtv 267) 69 = some (.aload_n 0, 1, 0, 0) from rfl) (hl44 0 _ rfl) ?_
                  refine q_getIe t55 (show mE (mtv 267) 70 = some (.getfield 138, 3, 9, 42) from rfl) (by decide) rfl (upI_s) ?_
                  refine q_ift (t := 80) (show mE (mtv 267) 73 = some (.ifCond .le 7, 3, 0, 0) from rfl) (by decide) rfl ?_
                  refine q_aload_n (show mE (mtv 267) 80 = some (.aload_n 0, 1, 0, 0) from rfl) (hl44 0 _ rfl) ?_
                  refine q_iload_n (show mE (mtv 267) 81 = some (.iload_n 2, 1, 0, 0) from rfl) (hl44 2 _ rfl) ?_
                  refine q_virtualE (show mE (mtv 267) 82 = some (.invokevirtual 172, 3, 218, 9) from rfl) (by decide) rfl rfl rfl (fun _ g => sp_218 t55 g) ?_
                  rintro _ ⟨v60, j56, h57, rfl, t58, e59⟩
                  refine qK_v ?_
                  refine q_ireturn (show mE (mtv 267) 85 = some (.ireturn, 1, 0, 0) from rfl) ?_
                  exact ⟨(0 : Int32), v60, _, _, _, rfl, rfl, t58, ((p1 c2 c4 v9 j5 K10 e8 c15 c17 bb22 j35 e38 bb39 c45 c46 v51 j47 e50 c52 c53 v60 j56 e59)).1, (fun _ => (p1 c2 c4 v9 j5 K10 e8 c15 c17 bb22 j35 e38 bb39 c45 c46 v51 j47 e50 c52 c53 v60 j56 e59).2.1), (p1 c2 c4 v9 j5 K10 e8 c15 c17 bb22 j35 e38 bb39 c45 c46 v51 j47 e50 c52 c53 v60 j56 e59).2.2⟩
                · refine q_iconst (show mE (mtv 267) 61 = some (.iconst 4, 1, 0, 0) from rfl) kI_4 ?_
                  refine q_goto (t := 66) (show mE (mtv 267) 62 = some (.goto 4, 3, 0, 0) from rfl) rfl ?_
                  refine q_putI t49 (show mE (mtv 267) 66 = some (.putfield 138, 3, 9, 42) from rfl) (by decide) rfl (fun h61 t62 => ?_)
                  refine q_aload_n (show mE (mtv 267) 69 = some (.aload_n 0, 1, 0, 0) from rfl) (hl44 0 _ rfl) ?_
                  refine q_getIe t62 (show mE (mtv 267) 70 = some (.getfield 138, 3, 9, 42) from rfl) (by decide) rfl (upI_s) ?_
                  refine q_iff (t := 80) (show mE (mtv 267) 73 = some (.ifCond .le 7, 3, 0, 0) from rfl) (by decide) rfl ?_
                  refine q_iconst (show mE (mtv 267) 76 = some (.iconst 0, 1, 0, 0) from rfl) kI_0 ?_
                  refine q_goto (t := 85) (show mE (mtv 267) 77 = some (.goto 8, 3, 0, 0) from rfl) rfl ?_
                  refine q_ireturn (show mE (mtv 267) 85 = some (.ireturn, 1, 0, 0) from rfl) ?_
                  exact (p2 c2 c4 v9 j5 K10 e8 c15 c17 bb22 j35 e38 bb39 c45 c46 v51 j47 e50 c52 c53).elim
              · refine q_iconst (show mE (mtv 267) 48 = some (.iconst 3, 1, 0, 0) from rfl) kI_3 ?_
                refine q_goto (t := 66) (show mE (mtv 267) 49 = some (.goto 17, 3, 0, 0) from rfl) rfl ?_
                refine q_putI t49 (show mE (mtv 267) 66 = some (.putfield 138, 3, 9, 42) from rfl) (by decide) rfl (fun h63 t64 => ?_)
                refine q_aload_n (show mE (mtv 267) 69 = some (.aload_n 0, 1, 0, 0) from rfl) (hl44 0 _ rfl) ?_
                refine q_getIe t64 (show mE (mtv 267) 70 = some (.getfield 138, 3, 9, 42) from rfl) (by decide) rfl (upI_s) ?_
                refine q_iff (t := 80) (show mE (mtv 267) 73 = some (.ifCond .le 7, 3, 0, 0) from rfl) (by decide) rfl ?_
                refine q_iconst (show mE (mtv 267) 76 = some (.iconst 0, 1, 0, 0) from rfl) kI_0 ?_
                refine q_goto (t := 85) (show mE (mtv 267) 77 = some (.goto 8, 3, 0, 0) from rfl) rfl ?_
                refine q_ireturn (show mE (mtv 267) 85 = some (.ireturn, 1, 0, 0) from rfl) ?_
                exact (p3 c2 c4 v9 j5 K10 e8 c15 c17 bb22 j35 e38 bb39 c45 c46 v51 j47 e50 c52).elim
            · refine q_iconst (show mE (mtv 267) 35 = some (.iconst 2, 1, 0, 0) from rfl) kI_2 ?_
              refine q_goto (t := 66) (show mE (mtv 267) 36 = some (.goto 30, 3, 0, 0) from rfl) rfl ?_
              refine q_putI t41 (show mE (mtv 267) 66 = some (.putfield 138, 3, 9, 42) from rfl) (by decide) rfl (fun h65 t66 => ?_)
              refine q_aload_n (show mE (mtv 267) 69 = some (.aload_n 0, 1, 0, 0) from rfl) (hl44 0 _ rfl) ?_
              refine q_getIe t66 (show mE (mtv 267) 70 = some (.getfield 138, 3, 9, 42) from rfl) (by decide) rfl (upI_s) ?_
              refine q_iff (t := 80) (show mE (mtv 267) 73 = some (.ifCond .le 7, 3, 0, 0) from rfl) (by decide) rfl ?_
              refine q_iconst (show mE (mtv 267) 76 = some (.iconst 0, 1, 0, 0) from rfl) kI_0 ?_
              refine q_goto (t := 85) (show mE (mtv 267) 77 = some (.goto 8, 3, 0, 0) from rfl) rfl ?_
              refine q_ireturn (show mE (mtv 267) 85 = some (.ireturn, 1, 0, 0) from rfl) ?_
              exact (p4 c2 c4 v9 j5 K10 e8 c15 c17 bb22 j35 e38 bb39 c45 c46).elim
          · refine q_iconst (show mE (mtv 267) 15 = some (.iconst 1, 1, 0, 0) from rfl) kI_1 ?_
            refine q_goto (t := 66) (show mE (mtv 267) 16 = some (.goto 50, 3, 0, 0) from rfl) rfl ?_
            refine q_putI t41 (show mE (mtv 267) 66 = some (.putfield 138, 3, 9, 42) from rfl) (by decide) rfl (fun h67 t68 => ?_)
            refine q_aload_n (show mE (mtv 267) 69 = some (.aload_n 0, 1, 0, 0) from rfl) (hl44 0 _ rfl) ?_
            refine q_getIe t68 (show mE (mtv 267) 70 = some (.getfield 138, 3, 9, 42) from rfl) (by decide) rfl (upI_s) ?_
            refine q_iff (t := 80) (show mE (mtv 267) 73 = some (.ifCond .le 7, 3, 0, 0) from rfl) (by decide) rfl ?_
            refine q_iconst (show mE (mtv 267) 76 = some (.iconst 0, 1, 0, 0) from rfl) kI_0 ?_
            refine q_goto (t := 85) (show mE (mtv 267) 77 = some (.goto 8, 3, 0, 0) from rfl) rfl ?_
            refine q_ireturn (show mE (mtv 267) 85 = some (.ireturn, 1, 0, 0) from rfl) ?_
            exact (p5 c2 c4 v9 j5 K10 e8 c15 c17 bb22 j35 e38 bb39 c45).elim
        · refine q_throw (show mE (mtv 57) 9 = some (.new 126, 3, 1001, 0) from rfl) (by decide) ?_
          refine qK_x ?_
          refine qKh_x (hp := 25) (c := (27, sDr 4 (lv_args 0 [.ref (0), .int (a1), .int (a2), .ref (117)]), [], h6)) rfl (by decide) (fun _ _ => rfl) ?_
          refine q_iconst (show mE (mtv 134) 27 = some (.iconst 4, 1, 0, 0) from rfl) kI_4 ?_
          refine q_ireturn (show mE (mtv 134) 28 = some (.ireturn, 1, 0, 0) from rfl) ?_
          intro r69 g70
          have g70 : qGo 267 [.ref (85), .int (a1), .int (a2)] h6 r69 := g70
          refine qGo_w (Q := fun r2 => opE (.inl (some (.int ((4 : Int32))))) r2.1 r2.2 RK) g70 (fun _ => ?_)
          have hl71 : qLs (lv_args 0 [.ref (85), .int (a1), .int (a2)]) [some (.ref (85)), some (.int (a1)), some (.int (a2))] := qLs_ar 0
          refine q_aload_n (show mE (mtv 267) 0 = some (.aload_n 0, 1, 0, 0) from rfl) (hl71 0 _ rfl) ?_
          refine q_iload_n (show mE (mtv 267) 1 = some (.iload_n 1, 1, 0, 0) from rfl) (hl71 1 _ rfl) ?_
          refine q_iconst (show mE (mtv 267) 2 = some (.iconst 0, 1, 0, 0) from rfl) kI_0 ?_
          refine q_aload_n (show mE (mtv 267) 3 = some (.aload_n 0, 1, 0, 0) from rfl) (hl71 0 _ rfl) ?_
          refine q_getI t7 (show mE (mtv 267) 4 = some (.getfield 150, 3, 9, 46) from rfl) (by decide) rfl ?_
          have r72 : j5 85 46 = I 85 46 := sc85 ag11 (by decide)
          rw [r72]; clear r72
          have r73 : I 85 46 = I 0 12 := hK.nb.symm
          rw [r73]; clear r73
          refine q_iconst (show mE (mtv 267) 7 = some (.iconst 1, 1, 0, 0) from rfl) kI_1 ?_
          refine q_isub (show mE (mtv 267) 8 = some (.isub, 1, 0, 0) from rfl) ?_
          refine q_staticP (show mE (mtv 267) 9 = some (.invokestatic 157, 3, 211, 0) from rfl) (by decide) rfl rfl rfl (fun _ g => sp_211 g) ?_
          refine q_ifb_ne (t := 19) (show mE (mtv 267) 12 = some (.ifCond .ne 7, 3, 0, 0) from rfl) rfl (fun c74 => ?_) (fun c74 => ?_)
          · clear c74
            refine q_iload_n (show mE (mtv 267) 19 = some (.iload_n 2, 1, 0, 0) from rfl) (hl71 2 _ rfl) ?_
            refine q_iconst (show mE (mtv 267) 20 = some (.iconst 1, 1, 0, 0) from rfl) kI_1 ?_
            refine q_iconst (show mE (mtv 267) 21 = some (.iconst 1, 1, 0, 0) from rfl) kI_1 ?_
            refine q_aload_n (show mE (mtv 267) 22 = some (.aload_n 0, 1, 0, 0) from rfl) (hl71 0 _ rfl) ?_
            refine q_getI t7 (show mE (mtv 267) 23 = some (.getfield 120, 3, 9, 36) from rfl) (by decide) rfl ?_
            have r75 : j5 85 36 = I 85 36 := sc85 ag11 (by decide)
            rw [r75]; clear r75
            have r76 : I 85 36 = I 0 10 := hK.nd.symm
            rw [r76]; clear r76
            refine q_ishl (show mE (mtv 267) 26 = some (.ishl, 1, 0, 0) from rfl) ?_
            refine q_iconst (show mE (mtv 267) 27 = some (.iconst 1, 1, 0, 0) from rfl) kI_1 ?_
            refine q_isub (show mE (mtv 267) 28 = some (.isub, 1, 0, 0) from rfl) ?_
            refine q_staticP (show mE (mtv 267) 29 = some (.invokestatic 157, 3, 211, 0) from rfl) (by decide) rfl rfl rfl (fun _ g => sp_211 g) ?_
            refine q_ifb_ne (t := 39) (show mE (mtv 267) 32 = some (.ifCond .ne 7, 3, 0, 0) from rfl) rfl (fun c77 => ?_) (fun c77 => ?_)
            · clear c77
              refine q_aload_n (show mE (mtv 267) 39 = some (.aload_n 0, 1, 0, 0) from rfl) (hl71 0 _ rfl) ?_
              refine q_iload_n (show mE (mtv 267) 40 = some (.iload_n 2, 1, 0, 0) from rfl) (hl71 2 _ rfl) ?_
              refine q_iload_n (show mE (mtv 267) 41 = some (.iload_n 1, 1, 0, 0) from rfl) (hl71 1 _ rfl) ?_
              refine q_virtualE (show mE (mtv 267) 42 = some (.invokevirtual 227, 3, 239, 9) from rfl) (by decide) rfl rfl rfl (fun _ g => sp_239 t7 g) ?_
              rintro _ ⟨v82, j78, h79, rfl, t80, e81⟩
              refine qK_v ?_
              refine q_if_ne (t := 52) (show mE (mtv 267) 45 = some (.ifCond .ne 7, 3, 0, 0) from rfl) rfl (fun c83 => ?_) (fun c83 => ?_)
              · refine q_aload_n (show mE (mtv 267) 52 = some (.aload_n 0, 1, 0, 0) from rfl) (hl71 0 _ rfl) ?_
                refine q_getI t80 (show mE (mtv 267) 53 = some (.getfield 117, 3, 9, 35) from rfl) (by decide) rfl ?_
                refine q_bipush (show mE (mtv 267) 56 = some (.bipush 16, 2, 0, 0) from rfl) kB_16 ?_
                refine q_ic_ne (t := 65) (show mE (mtv 267) 58 = some (.if_icmp .ne 7, 3, 0, 0) from rfl) rfl (fun c84 => ?_) (fun c84 => ?_)
                · refine q_iconst (show mE (mtv 267) 65 = some (.iconst 0, 1, 0, 0) from rfl) kI_0 ?_
                  refine q_putI t80 (show mE (mtv 267) 66 = some (.putfield 138, 3, 9, 42) from rfl) (by decide) rfl (fun h85 t86 => ?_)
                  refine q_aload_n (show mE (mtv 267) 69 = some (.aload_n 0, 1, 0, 0) from rfl) (hl71 0 _ rfl) ?_
                  refine q_getIe t86 (show mE (mtv 267) 70 = some (.getfield 138, 3, 9, 42) from rfl) (by decide) rfl (upI_s) ?_
                  refine q_ift (t := 80) (show mE (mtv 267) 73 = some (.ifCond .le 7, 3, 0, 0) from rfl) (by decide) rfl ?_
                  refine q_aload_n (show mE (mtv 267) 80 = some (.aload_n 0, 1, 0, 0) from rfl) (hl71 0 _ rfl) ?_
                  refine q_iload_n (show mE (mtv 267) 81 = some (.iload_n 2, 1, 0, 0) from rfl) (hl71 2 _ rfl) ?_
                  refine q_virtualE (show mE (mtv 267) 82 = some (.invokevirtual 172, 3, 218, 9) from rfl) (by decide) rfl rfl rfl (fun _ g => sp_218 t86 g) ?_
                  rintro _ ⟨v91, j87, h88, rfl, t89, e90⟩
                  refine qK_v ?_
                  refine q_ireturn (show mE (mtv 267) 85 = some (.ireturn, 1, 0, 0) from rfl) ?_
                  exact ⟨(4 : Int32), v91, _, _, _, rfl, rfl, t89, (p6 c2 c4 v9 j5 K10 e8 c15 c17 v82 j78 e81 c83 c84 v91 j87 e90).1, (fun e => absurd e (by decide)), (p6 c2 c4 v9 j5 K10 e8 c15 c17 v82 j78 e81 c83 c84 v91 j87 e90).2⟩
                · refine q_iconst (show mE (mtv 267) 61 = some (.iconst 4, 1, 0, 0) from rfl) kI_4 ?_
                  refine q_goto (t := 66) (show mE (mtv 267) 62 = some (.goto 4, 3, 0, 0) from rfl) rfl ?_
                  refine q_putI t80 (show mE (mtv 267) 66 = some (.putfield 138, 3, 9, 42) from rfl) (by decide) rfl (fun h92 t93 => ?_)
                  refine q_aload_n (show mE (mtv 267) 69 = some (.aload_n 0, 1, 0, 0) from rfl) (hl71 0 _ rfl) ?_
                  refine q_getIe t93 (show mE (mtv 267) 70 = some (.getfield 138, 3, 9, 42) from rfl) (by decide) rfl (upI_s) ?_
                  refine q_iff (t := 80) (show mE (mtv 267) 73 = some (.ifCond .le 7, 3, 0, 0) from rfl) (by decide) rfl ?_
                  refine q_iconst (show mE (mtv 267) 76 = some (.iconst 0, 1, 0, 0) from rfl) kI_0 ?_
                  refine q_goto (t := 85) (show mE (mtv 267) 77 = some (.goto 8, 3, 0, 0) from rfl) rfl ?_
                  refine q_ireturn (show mE (mtv 267) 85 = some (.ireturn, 1, 0, 0) from rfl) ?_
                  exact ⟨(4 : Int32), (0 : Int32), _, _, _, rfl, rfl, t93, upI_s, (fun e => absurd e (by decide)), p7 c2 c4 v9 j5 K10 e8 c15 c17 v82 j78 e81 c83 c84⟩
              · refine q_iconst (show mE (mtv 267) 48 = some (.iconst 3, 1, 0, 0) from rfl) kI_3 ?_
                refine q_goto (t := 66) (show mE (mtv 267) 49 = some (.goto 17, 3, 0, 0) from rfl) rfl ?_
                refine q_putI t80 (show mE (mtv 267) 66 = some (.putfield 138, 3, 9, 42) from rfl) (by decide) rfl (fun h94 t95 => ?_)
                refine q_aload_n (show mE (mtv 267) 69 = some (.aload_n 0, 1, 0, 0) from rfl) (hl71 0 _ rfl) ?_
                refine q_getIe t95 (show mE (mtv 267) 70 = some (.getfield 138, 3, 9, 42) from rfl) (by decide) rfl (upI_s) ?_
                refine q_iff (t := 80) (show mE (mtv 267) 73 = some (.ifCond .le 7, 3, 0, 0) from rfl) (by decide) rfl ?_
                refine q_iconst (show mE (mtv 267) 76 = some (.iconst 0, 1, 0, 0) from rfl) kI_0 ?_
                refine q_goto (t := 85) (show mE (mtv 267) 77 = some (.goto 8, 3, 0, 0) from rfl) rfl ?_
                refine q_ireturn (show mE (mtv 267) 85 = some (.ireturn, 1, 0, 0) from rfl) ?_
                exact (p8 c2 c4 v9 j5 K10 e8 c15 c17 v82 j78 e81 c83).elim
            · exact absurd c4 c77
          · exact absurd c2 c74
      · refine q_throw (show mE (mtv 96) 6 = some (.new 360, 3, 1004, 0) from rfl) (by decide) ?_
        refine qK_x ?_
        refine qKh_x (hp := 21) (c := (23, sDr 4 (lv_args 0 [.ref (0), .int (a1), .int (a2), .ref (117)]), [], h6)) rfl (by decide) (fun _ _ => rfl) ?_
        refine q_iconst (show mE (mtv 134) 23 = some (.iconst 3, 1, 0, 0) from rfl) kI_3 ?_
        refine q_ireturn (show mE (mtv 134) 24 = some (.ireturn, 1, 0, 0) from rfl) ?_
        intro r96 g97
        have g97 : qGo 267 [.ref (85), .int (a1), .int (a2)] h6 r96 := g97
        refine qGo_w (Q := fun r2 => opE (.inl (some (.int ((3 : Int32))))) r2.1 r2.2 RK) g97 (fun _ => ?_)
        have hl98 : qLs (lv_args 0 [.ref (85), .int (a1), .int (a2)]) [some (.ref (85)), some (.int (a1)), some (.int (a2))] := qLs_ar 0
        refine q_aload_n (show mE (mtv 267) 0 = some (.aload_n 0, 1, 0, 0) from rfl) (hl98 0 _ rfl) ?_
        refine q_iload_n (show mE (mtv 267) 1 = some (.iload_n 1, 1, 0, 0) from rfl) (hl98 1 _ rfl) ?_
        refine q_iconst (show mE (mtv 267) 2 = some (.iconst 0, 1, 0, 0) from rfl) kI_0 ?_
        refine q_aload_n (show mE (mtv 267) 3 = some (.aload_n 0, 1, 0, 0) from rfl) (hl98 0 _ rfl) ?_
        refine q_getI t7 (show mE (mtv 267) 4 = some (.getfield 150, 3, 9, 46) from rfl) (by decide) rfl ?_
        have r99 : j5 85 46 = I 85 46 := sc85 ag11 (by decide)
        rw [r99]; clear r99
        have r100 : I 85 46 = I 0 12 := hK.nb.symm
        rw [r100]; clear r100
        refine q_iconst (show mE (mtv 267) 7 = some (.iconst 1, 1, 0, 0) from rfl) kI_1 ?_
        refine q_isub (show mE (mtv 267) 8 = some (.isub, 1, 0, 0) from rfl) ?_
        refine q_staticP (show mE (mtv 267) 9 = some (.invokestatic 157, 3, 211, 0) from rfl) (by decide) rfl rfl rfl (fun _ g => sp_211 g) ?_
        refine q_ifb_ne (t := 19) (show mE (mtv 267) 12 = some (.ifCond .ne 7, 3, 0, 0) from rfl) rfl (fun c101 => ?_) (fun c101 => ?_)
        · clear c101
          refine q_iload_n (show mE (mtv 267) 19 = some (.iload_n 2, 1, 0, 0) from rfl) (hl98 2 _ rfl) ?_
          refine q_iconst (show mE (mtv 267) 20 = some (.iconst 1, 1, 0, 0) from rfl) kI_1 ?_
          refine q_iconst (show mE (mtv 267) 21 = some (.iconst 1, 1, 0, 0) from rfl) kI_1 ?_
          refine q_aload_n (show mE (mtv 267) 22 = some (.aload_n 0, 1, 0, 0) from rfl) (hl98 0 _ rfl) ?_
          refine q_getI t7 (show mE (mtv 267) 23 = some (.getfield 120, 3, 9, 36) from rfl) (by decide) rfl ?_
          have r102 : j5 85 36 = I 85 36 := sc85 ag11 (by decide)
          rw [r102]; clear r102
          have r103 : I 85 36 = I 0 10 := hK.nd.symm
          rw [r103]; clear r103
          refine q_ishl (show mE (mtv 267) 26 = some (.ishl, 1, 0, 0) from rfl) ?_
          refine q_iconst (show mE (mtv 267) 27 = some (.iconst 1, 1, 0, 0) from rfl) kI_1 ?_
          refine q_isub (show mE (mtv 267) 28 = some (.isub, 1, 0, 0) from rfl) ?_
          refine q_staticP (show mE (mtv 267) 29 = some (.invokestatic 157, 3, 211, 0) from rfl) (by decide) rfl rfl rfl (fun _ g => sp_211 g) ?_
          refine q_ifb_ne (t := 39) (show mE (mtv 267) 32 = some (.ifCond .ne 7, 3, 0, 0) from rfl) rfl (fun c104 => ?_) (fun c104 => ?_)
          · clear c104
            refine q_aload_n (show mE (mtv 267) 39 = some (.aload_n 0, 1, 0, 0) from rfl) (hl98 0 _ rfl) ?_
            refine q_iload_n (show mE (mtv 267) 40 = some (.iload_n 2, 1, 0, 0) from rfl) (hl98 2 _ rfl) ?_
            refine q_iload_n (show mE (mtv 267) 41 = some (.iload_n 1, 1, 0, 0) from rfl) (hl98 1 _ rfl) ?_
            refine q_virtualE (show mE (mtv 267) 42 = some (.invokevirtual 227, 3, 239, 9) from rfl) (by decide) rfl rfl rfl (fun _ g => sp_239 t7 g) ?_
            rintro _ ⟨v109, j105, h106, rfl, t107, e108⟩
            refine qK_v ?_
            refine q_if_ne (t := 52) (show mE (mtv 267) 45 = some (.ifCond .ne 7, 3, 0, 0) from rfl) rfl (fun c110 => ?_) (fun c110 => ?_)
            · refine q_aload_n (show mE (mtv 267) 52 = some (.aload_n 0, 1, 0, 0) from rfl) (hl98 0 _ rfl) ?_
              refine q_getI t107 (show mE (mtv 267) 53 = some (.getfield 117, 3, 9, 35) from rfl) (by decide) rfl ?_
              refine q_bipush (show mE (mtv 267) 56 = some (.bipush 16, 2, 0, 0) from rfl) kB_16 ?_
              refine q_ic_ne (t := 65) (show mE (mtv 267) 58 = some (.if_icmp .ne 7, 3, 0, 0) from rfl) rfl (fun c111 => ?_) (fun c111 => ?_)
              · refine q_iconst (show mE (mtv 267) 65 = some (.iconst 0, 1, 0, 0) from rfl) kI_0 ?_
                refine q_putI t107 (show mE (mtv 267) 66 = some (.putfield 138, 3, 9, 42) from rfl) (by decide) rfl (fun h112 t113 => ?_)
                refine q_aload_n (show mE (mtv 267) 69 = some (.aload_n 0, 1, 0, 0) from rfl) (hl98 0 _ rfl) ?_
                refine q_getIe t113 (show mE (mtv 267) 70 = some (.getfield 138, 3, 9, 42) from rfl) (by decide) rfl (upI_s) ?_
                refine q_ift (t := 80) (show mE (mtv 267) 73 = some (.ifCond .le 7, 3, 0, 0) from rfl) (by decide) rfl ?_
                refine q_aload_n (show mE (mtv 267) 80 = some (.aload_n 0, 1, 0, 0) from rfl) (hl98 0 _ rfl) ?_
                refine q_iload_n (show mE (mtv 267) 81 = some (.iload_n 2, 1, 0, 0) from rfl) (hl98 2 _ rfl) ?_
                refine q_virtualE (show mE (mtv 267) 82 = some (.invokevirtual 172, 3, 218, 9) from rfl) (by decide) rfl rfl rfl (fun _ g => sp_218 t113 g) ?_
                rintro _ ⟨v118, j114, h115, rfl, t116, e117⟩
                refine qK_v ?_
                refine q_ireturn (show mE (mtv 267) 85 = some (.ireturn, 1, 0, 0) from rfl) ?_
                exact ⟨(3 : Int32), v118, _, _, _, rfl, rfl, t116, (p9 c2 c4 v9 j5 K10 e8 c15 v109 j105 e108 c110 c111 v118 j114 e117).1, (fun e => absurd e (by decide)), (p9 c2 c4 v9 j5 K10 e8 c15 v109 j105 e108 c110 c111 v118 j114 e117).2⟩
              · refine q_iconst (show mE (mtv 267) 61 = some (.iconst 4, 1, 0, 0) from rfl) kI_4 ?_
                refine q_goto (t := 66) (show mE (mtv 267) 62 = some (.goto 4, 3, 0, 0) from rfl) rfl ?_
                refine q_putI t107 (show mE (mtv 267) 66 = some (.putfield 138, 3, 9, 42) from rfl) (by decide) rfl (fun h119 t120 => ?_)
                refine q_aload_n (show mE (mtv 267) 69 = some (.aload_n 0, 1, 0, 0) from rfl) (hl98 0 _ rfl) ?_
                refine q_getIe t120 (show mE (mtv 267) 70 = some (.getfield 138, 3, 9, 42) from rfl) (by decide) rfl (upI_s) ?_
                refine q_iff (t := 80) (show mE (mtv 267) 73 = some (.ifCond .le 7, 3, 0, 0) from rfl) (by decide) rfl ?_
                refine q_iconst (show mE (mtv 267) 76 = some (.iconst 0, 1, 0, 0) from rfl) kI_0 ?_
                refine q_goto (t := 85) (show mE (mtv 267) 77 = some (.goto 8, 3, 0, 0) from rfl) rfl ?_
                refine q_ireturn (show mE (mtv 267) 85 = some (.ireturn, 1, 0, 0) from rfl) ?_
                exact (p10 c2 c4 v9 j5 K10 e8 c15 v109 j105 e108 c110 c111).elim
            · refine q_iconst (show mE (mtv 267) 48 = some (.iconst 3, 1, 0, 0) from rfl) kI_3 ?_
              refine q_goto (t := 66) (show mE (mtv 267) 49 = some (.goto 17, 3, 0, 0) from rfl) rfl ?_
              refine q_putI t107 (show mE (mtv 267) 66 = some (.putfield 138, 3, 9, 42) from rfl) (by decide) rfl (fun h121 t122 => ?_)
              refine q_aload_n (show mE (mtv 267) 69 = some (.aload_n 0, 1, 0, 0) from rfl) (hl98 0 _ rfl) ?_
              refine q_getIe t122 (show mE (mtv 267) 70 = some (.getfield 138, 3, 9, 42) from rfl) (by decide) rfl (upI_s) ?_
              refine q_iff (t := 80) (show mE (mtv 267) 73 = some (.ifCond .le 7, 3, 0, 0) from rfl) (by decide) rfl ?_
              refine q_iconst (show mE (mtv 267) 76 = some (.iconst 0, 1, 0, 0) from rfl) kI_0 ?_
              refine q_goto (t := 85) (show mE (mtv 267) 77 = some (.goto 8, 3, 0, 0) from rfl) rfl ?_
              refine q_ireturn (show mE (mtv 267) 85 = some (.ireturn, 1, 0, 0) from rfl) ?_
              exact ⟨(3 : Int32), (0 : Int32), _, _, _, rfl, rfl, t122, upI_s, (fun e => absurd e (by decide)), p11 c2 c4 v9 j5 K10 e8 c15 v109 j105 e108 c110⟩
          · exact absurd c4 c104
        · exact absurd c2 c101
    · refine q_throw (show mE (mtv 82) 16 = some (.new 81, 3, 1000, 0) from rfl) (by decide) ?_
      refine qK_x ?_
      refine qKh_x (hp := 17) (c := (19, sDr 4 (lv_args 0 [.ref (0), .int (a1), .int (a2), .ref (117)]), [], h)) rfl (by decide) (fun _ _ => rfl) ?_
      refine q_iconst (show mE (mtv 134) 19 = some (.iconst 2, 1, 0, 0) from rfl) kI_2 ?_
      refine q_ireturn (show mE (mtv 134) 20 = some (.ireturn, 1, 0, 0) from rfl) ?_
      intro r123 g124
      have g124 : qGo 267 [.ref (85), .int (a1), .int (a2)] h r123 := g124
      refine qGo_w (Q := fun r2 => opE (.inl (some (.int ((2 : Int32))))) r2.1 r2.2 RK) g124 (fun _ => ?_)
      have hl125 : qLs (lv_args 0 [.ref (85), .int (a1), .int (a2)]) [some (.ref (85)), some (.int (a1)), some (.int (a2))] := qLs_ar 0
      refine q_aload_n (show mE (mtv 267) 0 = some (.aload_n 0, 1, 0, 0) from rfl) (hl125 0 _ rfl) ?_
      refine q_iload_n (show mE (mtv 267) 1 = some (.iload_n 1, 1, 0, 0) from rfl) (hl125 1 _ rfl) ?_
      refine q_iconst (show mE (mtv 267) 2 = some (.iconst 0, 1, 0, 0) from rfl) kI_0 ?_
      refine q_aload_n (show mE (mtv 267) 3 = some (.aload_n 0, 1, 0, 0) from rfl) (hl125 0 _ rfl) ?_
      refine q_getI th (show mE (mtv 267) 4 = some (.getfield 150, 3, 9, 46) from rfl) (by decide) rfl ?_
      have r126 : I 85 46 = I 0 12 := hK.nb.symm
      rw [r126]; clear r126
      refine q_iconst (show mE (mtv 267) 7 = some (.iconst 1, 1, 0, 0) from rfl) kI_1 ?_
      refine q_isub (show mE (mtv 267) 8 = some (.isub, 1, 0, 0) from rfl) ?_
      refine q_staticP (show mE (mtv 267) 9 = some (.invokestatic 157, 3, 211, 0) from rfl) (by decide) rfl rfl rfl (fun _ g => sp_211 g) ?_
      refine q_ifb_ne (t := 19) (show mE (mtv 267) 12 = some (.ifCond .ne 7, 3, 0, 0) from rfl) rfl (fun c127 => ?_) (fun c127 => ?_)
      · clear c127
        refine q_iload_n (show mE (mtv 267) 19 = some (.iload_n 2, 1, 0, 0) from rfl) (hl125 2 _ rfl) ?_
        refine q_iconst (show mE (mtv 267) 20 = some (.iconst 1, 1, 0, 0) from rfl) kI_1 ?_
        refine q_iconst (show mE (mtv 267) 21 = some (.iconst 1, 1, 0, 0) from rfl) kI_1 ?_
        refine q_aload_n (show mE (mtv 267) 22 = some (.aload_n 0, 1, 0, 0) from rfl) (hl125 0 _ rfl) ?_
        refine q_getI th (show mE (mtv 267) 23 = some (.getfield 120, 3, 9, 36) from rfl) (by decide) rfl ?_
        have r128 : I 85 36 = I 0 10 := hK.nd.symm
        rw [r128]; clear r128
        refine q_ishl (show mE (mtv 267) 26 = some (.ishl, 1, 0, 0) from rfl) ?_
        refine q_iconst (show mE (mtv 267) 27 = some (.iconst 1, 1, 0, 0) from rfl) kI_1 ?_
        refine q_isub (show mE (mtv 267) 28 = some (.isub, 1, 0, 0) from rfl) ?_
        refine q_staticP (show mE (mtv 267) 29 = some (.invokestatic 157, 3, 211, 0) from rfl) (by decide) rfl rfl rfl (fun _ g => sp_211 g) ?_
        refine q_ifb_ne (t := 39) (show mE (mtv 267) 32 = some (.ifCond .ne 7, 3, 0, 0) from rfl) rfl (fun c129 => ?_) (fun c129 => ?_)
        · exact absurd c129 c4
        · clear c129
          refine q_iconst (show mE (mtv 267) 35 = some (.iconst 2, 1, 0, 0) from rfl) kI_2 ?_
          refine q_goto (t := 66) (show mE (mtv 267) 36 = some (.goto 30, 3, 0, 0) from rfl) rfl ?_
          refine q_putI th (show mE (mtv 267) 66 = some (.putfield 138, 3, 9, 42) from rfl) (by decide) rfl (fun h130 t131 => ?_)
          refine q_aload_n (show mE (mtv 267) 69 = some (.aload_n 0, 1, 0, 0) from rfl) (hl125 0 _ rfl) ?_
          refine q_getIe t131 (show mE (mtv 267) 70 = some (.getfield 138, 3, 9, 42) from rfl) (by decide) rfl (upI_s) ?_
          refine q_iff (t := 80) (show mE (mtv 267) 73 = some (.ifCond .le 7, 3, 0, 0) from rfl) (by decide) rfl ?_
          refine q_iconst (show mE (mtv 267) 76 = some (.iconst 0, 1, 0, 0) from rfl) kI_0 ?_
          refine q_goto (t := 85) (show mE (mtv 267) 77 = some (.goto 8, 3, 0, 0) from rfl) rfl ?_
          refine q_ireturn (show mE (mtv 267) 85 = some (.ireturn, 1, 0, 0) from rfl) ?_
          exact ⟨(2 : Int32), (0 : Int32), _, _, _, rfl, rfl, t131, upI_s, (fun e => absurd e (by decide)), (RK_t (2 : Int32) hK)⟩
      · exact absurd c2 c127
  · refine q_throw (show mE (mtv 135) 14 = some (.new 338, 3, 1002, 0) from rfl) (by decide) ?_
    refine qKh_x (hp := 13) (c := (15, sDr 4 (lv_args 0 [.ref (0), .int (a1), .int (a2), .ref (117)]), [], h)) rfl (by decide) (fun _ _ => rfl) ?_
    refine q_iconst (show mE (mtv 134) 15 = some (.iconst 1, 1, 0, 0) from rfl) kI_1 ?_
    refine q_ireturn (show mE (mtv 134) 16 = some (.ireturn, 1, 0, 0) from rfl) ?_
    intro r132 g133
    have g133 : qGo 267 [.ref (85), .int (a1), .int (a2)] h r132 := g133
    refine qGo_w (Q := fun r2 => opE (.inl (some (.int ((1 : Int32))))) r2.1 r2.2 RK) g133 (fun _ => ?_)
    have hl134 : qLs (lv_args 0 [.ref (85), .int (a1), .int (a2)]) [some (.ref (85)), some (.int (a1)), some (.int (a2))] := qLs_ar 0
    refine q_aload_n (show mE (mtv 267) 0 = some (.aload_n 0, 1, 0, 0) from rfl) (hl134 0 _ rfl) ?_
    refine q_iload_n (show mE (mtv 267) 1 = some (.iload_n 1, 1, 0, 0) from rfl) (hl134 1 _ rfl) ?_
    refine q_iconst (show mE (mtv 267) 2 = some (.iconst 0, 1, 0, 0) from rfl) kI_0 ?_
    refine q_aload_n (show mE (mtv 267) 3 = some (.aload_n 0, 1, 0, 0) from rfl) (hl134 0 _ rfl) ?_
    refine q_getI th (show mE (mtv 267) 4 = some (.getfield 150, 3, 9, 46) from rfl) (by decide) rfl ?_
    have r135 : I 85 46 = I 0 12 := hK.nb.symm
    rw [r135]; clear r135
    refine q_iconst (show mE (mtv 267) 7 = some (.iconst 1, 1, 0, 0) from rfl) kI_1 ?_
    refine q_isub (show mE (mtv 267) 8 = some (.isub, 1, 0, 0) from rfl) ?_
    refine q_staticP (show mE (mtv 267) 9 = some (.invokestatic 157, 3, 211, 0) from rfl) (by decide) rfl rfl rfl (fun _ g => sp_211 g) ?_
    refine q_ifb_ne (t := 19) (show mE (mtv 267) 12 = some (.ifCond .ne 7, 3, 0, 0) from rfl) rfl (fun c136 => ?_) (fun c136 => ?_)
    · exact absurd c136 c2
    · clear c136
      refine q_iconst (show mE (mtv 267) 15 = some (.iconst 1, 1, 0, 0) from rfl) kI_1 ?_
      refine q_goto (t := 66) (show mE (mtv 267) 16 = some (.goto 50, 3, 0, 0) from rfl) rfl ?_
      refine q_putI th (show mE (mtv 267) 66 = some (.putfield 138, 3, 9, 42) from rfl) (by decide) rfl (fun h137 t138 => ?_)
      refine q_aload_n (show mE (mtv 267) 69 = some (.aload_n 0, 1, 0, 0) from rfl) (hl134 0 _ rfl) ?_
      refine q_getIe t138 (show mE (mtv 267) 70 = some (.getfield 138, 3, 9, 42) from rfl) (by decide) rfl (upI_s) ?_
      refine q_iff (t := 80) (show mE (mtv 267) 73 = some (.ifCond .le 7, 3, 0, 0) from rfl) (by decide) rfl ?_
      refine q_iconst (show mE (mtv 267) 76 = some (.iconst 0, 1, 0, 0) from rfl) kI_0 ?_
      refine q_goto (t := 85) (show mE (mtv 267) 77 = some (.goto 8, 3, 0, 0) from rfl) rfl ?_
      refine q_ireturn (show mE (mtv 267) 85 = some (.ireturn, 1, 0, 0) from rfl) ?_
      exact ⟨(1 : Int32), (0 : Int32), _, _, _, rfl, rfl, t138, upI_s, (fun e => absurd e (by decide)), (RK_t (1 : Int32) hK)⟩
theorem ok_29 {h : sH} {I : Nat → Nat → Int32} {L : Nat → Nat → Int64} {R : Nat → Nat} (th : qH h I L R) (hK : RK I L R) (hG : RG I) {a1 : Int32} {a2 : Int32} {r : sR} (gW : qGo 134 [.ref (0), .int (a1), .int (a2), .ref (117)] h r) : ∀ r2 : sR, qGo 267 [.ref (85), .int (a1), .int (a2)] r.2 r2 → opE r.1 r2.1 r2.2 RK := qp_29 th hK hG gW
  (fun c2 c4 v9 j5 K10 e8 c15 c17 _ j35 e38 _ c45 _ v51 j47 e50 c52 c53 v60 j56 e59 => by
    have hkb := hK.mi.kb
    have hb := hK.gbk c2
    have j09 : j5 0 9 = Int32.ofNat (nkI I) := (e8.1 0 9 (by decide)).trans hK.k1
    rw [j09] at c17
    have hn : nkI I < 16 := (oN_lt (b := 16) (by omega) (by decide)).mp c17
    rw [j09, ofN_clamp (show nkI I < 2147483648 by omega), e8.1 1 4 (by decide)] at e38
    obtain ⟨_, w, t, r⟩ := find_new hK hG hb c4 e8 hn c15 e38 e50 e59
    rw [j09, ofN_clamp (show nkI I < 2147483648 by omega)]
    exact ⟨t, upL_s.trans (congrArg Int32.toInt64 w.symm), RK_L r⟩)
  (fun c2 c4 v9 j5 K10 e8 c15 c17 _ j35 e38 _ c45 _ v51 j47 e50 c52 c53 => by
    have hkb := hK.mi.kb
    have hb := hK.gbk c2
    have j09 : j5 0 9 = Int32.ofNat (nkI I) := (e8.1 0 9 (by decide)).trans hK.k1
    rw [j09] at c17
    have hn : nkI I < 16 := (oN_lt (b := 16) (by omega) (by decide)).mp c17
    rw [j09, ofN_clamp (show nkI I < 2147483648 by omega), e8.1 1 4 (by decide)] at e38
    have q := ((find_pre hK hG hb e8 e38 hn).2 e50).1
    rw [q 35 (by decide), hK.mi.k] at c53
    have := (oN_inj (b := 16) (by omega) (by omega)).mp c53
    omega)
  (fun c2 c4 v9 j5 K10 e8 c15 c17 _ j35 e38 _ c45 _ v51 j47 e50 c52 => by
    have hkb := hK.mi.kb
    have hb := hK.gbk c2
    have j09 : j5 0 9 = Int32.ofNat (nkI I) := (e8.1 0 9 (by decide)).trans hK.k1
    rw [j09] at c17
    have hn : nkI I < 16 := (oN_lt (b := 16) (by omega) (by decide)).mp c17
    rw [j09, ofN_clamp (show nkI I < 2147483648 by omega), e8.1 1 4 (by decide)] at e38
    rcases ((find_pre hK hG hb e8 e38 hn).2 e50).2 with ⟨z, _⟩ | ⟨_, z⟩
    · exact c15 z
    · rw [c52] at z; exact absurd z (by decide))
  (fun c2 c4 v9 j5 K10 e8 c15 c17 _ j35 e38 _ c45 c46 => by
    have hkb := hK.mi.kb
    have hb := hK.gbk c2
    have j09 : j5 0 9 = Int32.ofNat (nkI I) := (e8.1 0 9 (by decide)).trans hK.k1
    rw [j09] at c17
    have hn : nkI I < 16 := (oN_lt (b := 16) (by omega) (by decide)).mp c17
    rw [j09, ofN_clamp (show nkI I < 2147483648 by omega), e8.1 1 4 (by decide)] at e38
    refine c46 ?_
    rw [(find_pre (J45 := j35) (vm := 0) hK hG hb e8 e38 hn).1 36, ← hK.nd]
    exact c4)
  (fun c2 c4 v9 j5 K10 e8 c15 c17 _ j35 e38 _ c45 => by
    have hkb := hK.mi.kb
    have hb := hK.gbk c2
    have j09 : j5 0 9 = Int32.ofNat (nkI I) := (e8.1 0 9 (by decide)).trans hK.k1
    rw [j09] at c17
    have hn : nkI I < 16 := (oN_lt (b := 16) (by omega) (by decide)).mp c17
    rw [j09, ofN_clamp (show nkI I < 2147483648 by omega), e8.1 1 4 (by decide)] at e38
    refine c45 ?_
    rw [(find_pre (J45 := j35) (vm := 0) hK hG hb e8 e38 hn).1 46, ← hK.nb]
    exact c2)
  (fun c2 c4 v9 j5 K10 e8 c15 c17 v82 j78 e81 c83 c84 v91 j87 e90 => by
    have hkb := hK.mi.kb
    rw [(e8.1 0 9 (by decide)).trans hK.k1] at c17
    have := mt (oN_lt (b := 16) (by omega) (by decide)).mpr c17
    obtain ⟨q1, _, _⟩ := find_no hK hG (hK.gbk c2) e8 e81
    refine absurd ?_ c84
    rw [q1 35 (by decide), hK.mi.k, show nkI I = 16 by omega]; rfl)
  (fun c2 c4 v9 j5 K10 e8 c15 c17 v82 j78 e81 c83 c84 => RK_t 4 (find_no hK hG (hK.gbk c2) e8 e81).2.2)
  (fun c2 c4 v9 j5 K10 e8 c15 c17 v82 j78 e81 c83 => by
    rcases (find_no hK hG (hK.gbk c2) e8 e81).2.1 with ⟨z, _⟩ | ⟨_, z⟩
    · exact c15 z
    · rw [c83] at z; exact absurd z (by decide))
  (fun c2 c4 v9 j5 K10 e8 c15 v109 j105 e108 c110 c111 v118 j114 e117 => by
    rcases (find_no hK hG (hK.gbk c2) e8 e108).2.1 with ⟨_, z⟩ | ⟨z, _⟩
    · exact absurd z c110
    · exact absurd c15 z)
  (fun c2 c4 v9 j5 K10 e8 c15 v109 j105 e108 c110 c111 => by
    rcases (find_no hK hG (hK.gbk c2) e8 e108).2.1 with ⟨_, z⟩ | ⟨z, _⟩
    · exact absurd z c110
    · exact absurd c15 z)
  (fun c2 c4 v9 j5 K10 e8 c15 v109 j105 e108 c110 => RK_t 3 (find_no hK hG (hK.gbk c2) e8 e108).2.2)
end
section
/-! part 86: replace -/
theorem kt_16 : (16 : Int32).toInt = 16 := by decide
/-- the model's cells are alike, but for scratch -/
noncomputable def agV (J I : Nat → Nat → Int32) : Prop := ∀ a b, 85 ≤ a → ¬ scr a b → J a b = I a b
theorem mOK_V {J I : Nat → Nat → Int32} (h : agV J I) (D blk : Int32) (t : Nat → Nat) : mOK J D blk t = mOK I D blk t := by
  have e85 : ∀ b, b ≠ 42 → J 85 b = I 85 b := fun b hb => h 85 b (by decide) (by unfold scr; omega)
  have e86 : ∀ b, J 86 b = I 86 b := fun b => h 86 b (by decide) (by unfold scr; omega)
  have e88 : ∀ b, J 88 b = I 88 b := fun b => h 88 b (by decide) (by unfold scr; omega)
  have e95 : ∀ b, J 95 b = I 95 b := fun b => h 95 b (by decide) (by unfold scr; omega)
  have e97 : ∀ b, J 97 b = I 97 b := fun b => h 97 b (by decide) (by unfold scr; omega)
  have e104 : ∀ b, J 104 b = I 104 b := fun b => h 104 b (by decide) (by unfold scr; omega)
  have e105 : ∀ b, J 105 b = I 105 b := fun b => h 105 b (by decide) (by unfold scr; omega)
  have q_nk : nkI J = nkI I := by unfold nkI; rw [e85 35 (by decide)]
  have q_nd : ndI J = ndI I := by unfold ndI; rw [e85 36 (by decide)]
  have q_nc : ncI J = ncI I := by unfold ncI; rw [e85 31 (by decide)]
  have q_nb : nbI J = nbI I := by unfold nbI; rw [e85 46 (by decide)]
  have e33 := e85 33 (by decide)
  have e43 := e85 43 (by decide)
  have e47 := e85 47 (by decide)
  simp only [mOK, nearM, mntQ, isKM, clnM, clnD, cl1, cl2, cl3, cl4, fB, pinQ, pq, inBl, dpM, cA, q_nk, q_nd, q_nc, q_nb, e86, e88, e95, e97, e104, e105, e33, e43, e47]
theorem MI_V {J I : Nat → Nat → Int32} (h : agV J I) (hm : MI I) : MI J := by
  have hK : MI (fun a b => if a < 85 then I a b else J a b) := MI_S (I := I) (fun a b hn => by
    by_cases g : a < 85
    · rw [if_pos g]
    · rw [if_neg g, h a b (by omega) hn]) hm
  exact MI_U (fun a ha => funext (fun b => by rw [if_neg (by omega)])) hK
noncomputable def patV (I J : Nat → Nat → Int32) : Nat → Nat → Int32 := fun a b => if a = 91 then J a b else I a b
theorem fnd_V {I J Jm : Nat → Nat → Int32} {D blk v : Int32} (h : agV J I) (f : fndP J D blk Jm v) : fndP I D blk (patV I Jm) v := fun hm hb => by
  have nb : nbI J = nbI I := by unfold nbI; rw [h 85 46 (by decide) (by unfold scr; omega)]
  have nc : ncI J = ncI I := by unfold ncI; rw [h 85 31 (by decide) (by unfold scr; omega)]
  have md : mdI J = mdI I := by unfold mdI; rw [h 85 32 (by decide) (by unfold scr; omega)]
  obtain ⟨f1, f2⟩ := f (MI_V h hm) (by rw [nb]; exact hb)
  refine ⟨fun a b hn => if_neg (fun z => hn (by unfold scr; omega)), ?_⟩
  rw [nc, md] at f2
  simp only [mOK_V h] at f2
  have e91 : ∀ c, patV I Jm 91 c = Jm 91 c := fun c => if_pos rfl
  simp only [e91]
  exact f2
/-- the doors that wish a key, of the class -/
theorem tb_104 {I : Nat → Nat → Int32} {R : Nat → Nat} {k : Nat} (hk : k < 32) : ∀ m j x, j + m ≤ 10 → ∀ n, tb (G_104 I R (Int32.ofNat k) j x m) n = if j ≤ n ∧ n < j + m then tb (I (R n) 1) k else tb x n
  | 0, j, x, _, n => by rw [if_neg (by omega)]; rfl
  | m + 1, j, x, hj, n => by
    show tb (G_104 I R (Int32.ofNat k) (j + 1) (xW x (Int32.ofNat j) (b2 (hs (I (R ((Int32.ofNat j)).toNatClampNeg) 1) (Int32.ofNat k) = true))) m) n = _
    rw [tb_104 hk m (j + 1) _ (by omega) n, tb_xW, shD_nat (by omega), ofN_clamp (by omega), hs_oN hk]
    by_cases g : n = j
    · subst g
      rw [if_neg (by omega), if_pos rfl, if_pos (by omega)]
      generalize tb (I (R n) 1) k = z
      cases z <;> rfl
    · rw [if_neg g]
      by_cases g2 : j + 1 ≤ n ∧ n < j + 1 + m
      · rw [if_pos g2, if_pos (by omega)]
      · rw [if_neg g2, if_neg (by omega)]
theorem repl_D {I : Nat → Nat → Int32} {L : Nat → Nat → Int64} {R : Nat → Nat} (h : RK I L R) {k : Nat} (hk : k < nkI I) : G_104 I R (Int32.ofNat k) 0 (0 : Int32) (I 0 10).toNatClampNeg = I 88 k := by
  have hd := h.mi.db
  have hkb := h.mi.kb
  rw [h.n10]
  apply tb_ext
  intro n hn
  rw [tb_104 (by omega) _ _ _ (by omega)]
  by_cases g : n < ndI I
  · rw [if_pos (by omega), h.wi n k (by omega) (by omega)]
  · rw [if_neg (by omega), tb_0]
    exact (Bool.eq_false_iff.mpr (fun z => g (h.mi.wu n k (by omega) z).2)).symm
theorem nk_w {I : Nat → Nat → Int32} {k : Nat} {x : Int32} : nkI (upI I 88 k x) = nkI I := by unfold nkI; rw [upI_ne (by omega)]
theorem nd_w {I : Nat → Nat → Int32} {k : Nat} {x : Int32} : ndI (upI I 88 k x) = ndI I := by unfold ndI; rw [upI_ne (by omega)]
theorem nc_w {I : Nat → Nat → Int32} {k : Nat} {x : Int32} : ncI (upI I 88 k x) = ncI I := by unfold ncI; rw [upI_ne (by omega)]
theorem md_w {I : Nat → Nat → Int32} {k : Nat} {x : Int32} : mdI (upI I 88 k x) = mdI I := by unfold mdI; rw [upI_ne (by omega)]
theorem MI_w0 {I : Nat → Nat → Int32} (hm : MI I) (k : Nat) : MI (upI I 88 k 0) := by
  refine MI_up_wish hm (fun a b _ q => upI_ne (by omega)) (fun d j hj hb => ?_) (fun d j hj hb => ?_)
  · by_cases g : j = k
    · rw [g, upI_s, tb_0] at hb; cases hb
    · rw [upI_ne (fun z => g z.2)] at hb
      rw [nk_w, nd_w]; exact hm.wu d j hj hb
  · by_cases g : j = k
    · rw [g, upI_s, tb_0] at hb; cases hb
    · rw [upI_ne (fun z => g z.2)] at hb
      rw [upI_ne (by omega), upI_ne (by omega)]; exact hm.wf d j hj hb
/-- both searches, when a key is wished no more -/
theorem repl_E {I J Jm J1 : Nat → Nat → Int32} {L K1 : Nat → Nat → Int64} {R : Nat → Nat} (h : RK I L R) (hG : RG I) {k : Nat} (hk : k < nkI I) (hu : agV J (upI I 88 k 0)) {D : Int32} {v : Int64} {vm : Int32} (hc : srP I L R D (Int32.ofNat k) (-1) J1 K1 v) (hf : fndP J D (-1) Jm vm) : (∀ a b, a ≠ 9 → J1 a b = I a b) ∧ frL K1 L ∧ agS Jm J ∧ ((v = 0 ∧ vm = 0) ∨ (¬ v = 0 ∧ vm = 1 ∧ ∃ N, N < mdI I ^ ncI I ∧ isCuts v (dg (mdI I) (ncI I) N) (ncI I) ∧ (∀ c, c < ncI I → Jm 91 c = Int32.ofNat (dg (mdI I) (ncI I) N c)) ∧ mOK (upI I 88 k 0) D (-1) (dg (mdI I) (ncI I) N))) := by
  have hm := h.mi
  have hkb := hm.kb
  have hdb := hm.db
  have hm2 := hm.m2
  have hm6 := hm.m6
  have hm0 := MI_w0 hm k
  have hU := fnd_V hu hf
  have hf1 := (hf (MI_V hu hm0) (.inl rfl)).1
  obtain ⟨s1, s2, s3, s4⟩ := search_E (J := upI I 88 k 0) h hG.1.2.2.2.2.2.2.2 hG.1.2.2.2.2.2.2.1 (fun a b q => upI_ne (fun z => q z.1)) hm0 (fun d j hd hj => by
    have n1 : ¬ Int32.ofNat k = -1 := fun z => by
      have := congrArg Int32.toInt z
      rw [ofN_toInt (by omega)] at this
      have e : (-1 : Int32).toInt = -1 := rfl
      omega
    show tb (if Int32.ofNat k = -1 then I (R d) 1 else xW (I (R d) 1) (Int32.ofNat k) 0) j = tb (upI I 88 k 0 88 j) d
    rw [if_neg n1, tb_xW, shD_nat (by omega)]
    by_cases g : j = k
    · subst g
      rw [if_pos rfl, upI_s, tb_0]; rfl
    · rw [if_neg g, upI_ne (fun z => g z.2)]
      exact h.wi d j (by omega) hj) (.inl rfl) hc hU
  refine ⟨s1, s2, hf1, ?_⟩
  have e91 : ∀ c, patV (upI I 88 k 0) Jm 91 c = Jm 91 c := fun c => if_pos rfl
  rcases s4 with s4 | ⟨t1, t2, N, t3, t4, t5, t6⟩
  · exact .inl s4
  · refine .inr ⟨t1, t2, ?_⟩
    have hU2 := (hU hm0 (.inl rfl)).2
    rw [nc_w, md_w] at hU2
    rcases hU2 with ⟨u1, _⟩ | ⟨_, N', u2, u3, _, u4⟩
    · rw [u1] at t2; exact absurd t2 (by decide)
    · refine ⟨N', u2, isCuts_cg t3 (fun c hc' => ?_), fun c hc' => (e91 c).symm.trans (u4 c hc'), u3⟩
      have l1 : dg (mdI I) (ncI I) N c < mdI I := dg_lt (by omega)
      have l2 : dg (mdI I) (ncI I) N' c < mdI I := dg_lt (by omega)
      exact (oN_inj (by omega) (by omega)).mp ((t4 c hc').symm.trans (u4 c hc'))
theorem repl_47 {I J34 J47 : Nat → Nat → Int32} {L K9 : Nat → Nat → Int64} {R : Nat → Nat} (h : RK I L R) {k : Nat} (hk : k < nkI I) {D : Int32} {v : Int64} (hc : srP I L R D (Int32.ofNat k) (-1) J34 K9 v) (hx : wsP J34 R D (Int32.ofNat k) 0 J47) : ∀ a b, a ≠ 9 → ¬ (35 ≤ a ∧ a ≤ 44 ∧ b = 1) → J47 a b = I a b := by
  have hkb := h.mi.kb
  obtain ⟨x1, _⟩ := hx (fun d hd => h.rr d hd) (fun d e hd he => h.ri d e hd he) (ndI I) k (by rw [hc.1 0 10 (by decide)]; exact h.d1) h.mi.db rfl (by omega)
  exact fun a b q1 q2 => (x1 a b q2).trans (hc.1 a b q1)
noncomputable def repN (I J : Nat → Nat → Int32) : Nat → Nat → Int32 := upI (upI (upI J (19 + nkI I) 1 (I 1 4)) (19 + nkI I) 3 ((1 : Int32) <<< (Int32.ofNat (nkI I) &&& 31))) 0 9 (Int32.ofNat (nkI I) + (1 : Int32))
/-- what the class has written -/
theorem repl_pre {I J34 J47 J68 : Nat → Nat → Int32} {L K9 : Nat → Nat → Int64} {R : Nat → Nat} (h : RK I L R) {k : Nat} (hk : k < nkI I) {v : Int64} (hn : nkI I < 16) (hc : srP I L R (I 88 k) (Int32.ofNat k) (-1) J34 K9 v) (hx : wsP J34 R (I 88 k) (Int32.ofNat k) 0 J47) (hw : wsP (repN I J47) R (I 88 k) (Int32.ofNat (nkI I)) 1 J68) : (∀ a b, a ≠ 9 → J34 a b = I a b) ∧ (∀ a b, ¬ (35 ≤ a ∧ a ≤ 44 ∧ b = 1) → J47 a b = J34 a b) ∧ (∀ d j, d < 10 → tb (J47 (R d) 1) j = if j = k ∧ d < ndI I ∧ tb (I 88 k) d = true then false else tb (I (R d) 1) j) ∧ (∀ a b, ¬ (35 ≤ a ∧ a ≤ 44 ∧ b = 1) → J68 a b = repN I J47 a b) ∧ (∀ d j, d < 10 → tb (J68 (R d) 1) j = if j = nkI I ∧ d < ndI I ∧ tb (I 88 k) d = true then true else tb (J47 (R d) 1) j) ∧ ∀ a b, 85 ≤ a → J68 a b = I a b := by
  have hdb := h.mi.db
  have hkb := h.mi.kb
  have j4 : ∀ a b, a ≠ 9 → J34 a b = I a b := hc.1
  obtain ⟨x1, x2⟩ := hx (fun d hd => h.rr d hd) (fun d e hd he => h.ri d e hd he) (ndI I) k (by rw [j4 0 10 (by decide)]; exact h.d1) hdb rfl (by omega)
  have r0 : ∀ a b, ¬ (a = 19 + nkI I ∧ (b = 1 ∨ b = 3)) → ¬ (a = 0 ∧ b = 9) → repN I J47 a b = J47 a b := fun a b q1 q2 => by
    unfold repN
    rw [upI_ne q2, upI_ne (fun z => q1 ⟨z.1, .inr z.2⟩), upI_ne (fun z => q1 ⟨z.1, .inl z.2⟩)]
  obtain ⟨w1, w2⟩ := hw (fun d hd => h.rr d hd) (fun d e hd he => h.ri d e hd he) (ndI I) (nkI I) (by rw [r0 0 10 (by omega) (by omega), x1 0 10 (by omega), j4 0 10 (by decide)]; exact h.d1) hdb rfl (by omega)
  refine ⟨j4, x1, fun d j hd => ?_, w1, fun d j hd => ?_, fun a b q => ?_⟩
  · have hr := h.rr d hd
    rw [x2 d j hd, j4 (R d) 1 (by omega)]; rfl
  · have hr := h.rr d hd
    rw [w2 d j hd, r0 (R d) 1 (by omega) (by omega)]; rfl
  · rw [w1 a b (by omega), r0 a b (by omega) (by omega), x1 a b (by omega), j4 a b (by omega)]
theorem repl_U {I J68 : Nat → Nat → Int32} {k : Nat} (u : ∀ a b, 85 ≤ a → J68 a b = I a b) (x : Int32) : agV (upI (upI J68 85 42 x) 88 k 0) (upI I 88 k 0) := fun a b ha hs => by
  by_cases g : a = 88 ∧ b = k
  · rw [g.1, g.2, upI_s, upI_s]
  · rw [upI_ne g, upI_ne g, upI_ne (fun z => hs (by unfold scr; omega)), u a b ha]
/-- a lost key is replaced, on both sides -/
theorem repl_new {I J34 J47 J68 J95 J : Nat → Nat → Int32} {L K9 : Nat → Nat → Int64} {R : Nat → Nat} (h : RK I L R) (hG : RG I) {k : Nat} (hk : k < nkI I) {vm w : Int32} {v : Int64} (hn : nkI I < 16) (hv : ¬ v = 0) (hc : srP I L R (I 88 k) (Int32.ofNat k) (-1) J34 K9 v) (hx : wsP J34 R (I 88 k) (Int32.ofNat k) 0 J47) (hw : wsP (repN I J47) R (I 88 k) (Int32.ofNat (nkI I)) 1 J68)
    (hf : fndP (upI (upI J68 85 42 (0 : Int32)) 88 k 0) (I 88 k) (-1) J95 vm) (ha : adP (upI J95 85 42 (0 : Int32)) (I 88 k) J w) : vm = 1 ∧ w = Int32.ofNat (nkI I) ∧ J 85 42 = 0 ∧ RK J (upL K9 (19 + nkI I) 0 v) R := by
  have hm := h.mi
  have hdb := hm.db
  have hkb := hm.kb
  have h6 := hm.c6
  have m6 := hm.m6
  obtain ⟨j4, x1, x2, w1, w2, u⟩ := repl_pre h hk hn hc hx hw
  obtain ⟨_, k2, k3, k4⟩ := repl_E h hG hk (repl_U u 0) hc hf
  rcases k4 with ⟨z, _⟩ | ⟨_, vm1, N, n1, n2, n3, n4⟩
  · exact absurd z hv
  -- the state in which the key is wished no more
  have a47 : ∀ a b, ¬ scr a b → ¬ (35 ≤ a ∧ a ≤ 44 ∧ b = 1) → J47 a b = I a b := fun a b q1 q2 => by
    rw [x1 a b q2, j4 a b (fun z => q1 (by unfold scr; omega))]
  have kf : ∀ a b, ¬ (a = 10 ∨ a = 11 ∨ (a = 9 ∧ b = 8)) → K9 a b = L a b := k2
  have h1 : RK (upI J47 88 k 0) K9 R := by
    have e : ∀ a b, ¬ scr a b → ¬ (a = 88 ∨ (35 ≤ a ∧ a ≤ 44 ∧ b = 1)) → upI J47 88 k 0 a b = I a b := fun a b q1 q2 => by
      rw [upI_ne (by omega), a47 a b q1 (by omega)]
    have c88 : ∀ j, j < 16 → upI J47 88 k 0 88 j = upI I 88 k 0 88 j := fun j hj => by
      by_cases g : j = k
      · rw [g, upI_s, upI_s]
      · rw [upI_ne (fun z => g z.2), upI_ne (fun z => g z.2), a47 88 j (by unfold scr; omega) (by omega)]
    have hm0 := MI_w0 hm k
    refine RK_up_wish h e (fun j _ => kf _ _ (by omega)) (kf 1 5 (by omega)) (fun b => kf 15 b (by omega)) (MI_up_wish hm e (fun d j hj hb => ?_) (fun d j hj hb => ?_)) (fun d j hd hj => ?_) (fun d j hd hj => ?_)
    · rw [c88 j hj] at hb
      have := hm0.wu d j hj hb
      rw [nk_w, nd_w] at this
      unfold nkI ndI
      rw [e 85 35 (by unfold scr; omega) (by omega), e 85 36 (by unfold scr; omega) (by omega)]
      exact this
    · rw [c88 j hj] at hb
      have := hm0.wf d j hj hb
      rw [upI_ne (by omega), upI_ne (by omega)] at this
      rw [e 95 j (by unfold scr; omega) (by omega), e 97 d (by unfold scr; omega) (by omega)]
      exact this
    · have hr := h.rr d hd
      rw [upI_ne (by omega), x2 d j hd, c88 j hj]
      by_cases g : j = k
      · subst g
        rw [upI_s, tb_0]
        by_cases g2 : tb (I 88 j) d = true
        · rw [if_pos ⟨rfl, (hm.wu d j hj g2).2, g2⟩]
        · rw [if_neg (fun z => g2 z.2.2), h.wi d j hd hj]
          exact Bool.eq_false_iff.mpr g2
      · rw [if_neg (fun z => g z.1), upI_ne (fun z => g z.2)]
        exact h.wi d j hd hj
    · have hr := h.rr d hd
      rw [upI_ne (by omega), x2 d j hd, if_neg (by omega)]
      exact h.w0 d j hd hj
  have q_nk : nkI (upI J47 88 k 0) = nkI I := by unfold nkI; rw [upI_ne (by omega), a47 85 35 (by unfold scr; omega) (by omega)]
  have q_nc : ncI (upI J47 88 k 0) = ncI I := by unfold ncI; rw [upI_ne (by omega), a47 85 31 (by unfold scr; omega) (by omega)]
  have q_nd : ndI (upI J47 88 k 0) = ndI I := by unfold ndI; rw [upI_ne (by omega), a47 85 36 (by unfold scr; omega) (by omega)]
  have q_md : mdI (upI J47 88 k 0) = mdI I := by unfold mdI; rw [upI_ne (by omega), a47 85 32 (by unfold scr; omega) (by omega)]
  have av : agV (upI J47 88 k 0) (upI I 88 k 0) := fun a b q1 q2 => by
    by_cases g : a = 88 ∧ b = k
    · rw [g.1, g.2, upI_s, upI_s]
    · rw [upI_ne g, upI_ne g, a47 a b q2 (by omega)]
  rw [← mOK_V av] at n4
  have n5 : N < mdI (upI J47 88 k 0) ^ ncI (upI J47 88 k 0) := by rw [q_md, q_nc]; exact n1
  obtain ⟨o1, o2, o3, o4⟩ := n4
  have i88 : ∀ a b, ¬ (a = 88 ∧ b = k) → upI J47 88 k 0 a b = J47 a b := fun a b q => upI_ne q
  have c43 : upI J47 88 k 0 85 43 = I 85 43 := (i88 85 43 (by omega)).trans (a47 85 43 (by unfold scr; omega) (by omega))
  have g43 : I 85 43 = I 1 4 := hG.1.2.2.2.2.2.2.2
  obtain ⟨r1, r2, r3, r4, r5, r6⟩ := ha (nkI I) (ncI I) (by rw [upI_ne (by omega), k3 85 35 (by unfold scr; omega), upI_ne (by omega), upI_ne (by omega), u 85 35 (by omega)]; exact hm.k) hn (by rw [upI_ne (by omega), k3 85 31 (by unfold scr; omega), upI_ne (by omega), upI_ne (by omega), u 85 31 (by omega)]; exact hm.c) h6
  have r0 : ∀ a b, ¬ (a = 19 + nkI I ∧ (b = 1 ∨ b = 3)) → ¬ (a = 0 ∧ b = 9) → repN I J47 a b = J47 a b := fun a b q1 q2 => by
    unfold repN
    rw [upI_ne q2, upI_ne (fun z => q1 ⟨z.1, .inr z.2⟩), upI_ne (fun z => q1 ⟨z.1, .inl z.2⟩)]
  have j95 : ∀ a b, ¬ scr a b → ¬ (a = 88 ∧ b = k) → J95 a b = J68 a b := fun a b q1 q2 => by
    rw [k3 a b q1, upI_ne q2, upI_ne (fun z => q1 (by unfold scr; omega))]
  -- cells of the last state
  have jM : ∀ a b, ¬ scr a b → 85 ≤ a → ¬ ((a = 85 ∧ b = 35) ∨ (a = 88 ∧ b = nkI I) ∨ (a = 95 ∧ b = nkI I) ∨ (a = 86 ∧ 6 * nkI I ≤ b)) → J a b = upI J47 88 k 0 a b := fun a b q1 q2 q3 => by
    rw [r6 a b q3, upI_ne (fun z => q1 (by unfold scr; omega))]
    by_cases g : a = 88 ∧ b = k
    · rw [g.1, g.2, upI_s, k3 88 k (by unfold scr; omega), upI_s]
    · rw [j95 a b q1 g, upI_ne g, u a b q2, a47 a b q1 (by omega)]
  have jC : ∀ a b, ¬ scr a b → a < 85 → J a b = J68 a b := fun a b q1 q2 => by
    rw [r6 a b (by omega), upI_ne (by omega), j95 a b q1 (by omega)]
  have jI : ∀ a b, ¬ scr a b → a < 85 → ¬ (35 ≤ a ∧ a ≤ 44 ∧ b = 1) → ¬ (a = 19 + nkI I ∧ (b = 1 ∨ b = 3)) → ¬ (a = 0 ∧ b = 9) → J a b = upI J47 88 k 0 a b := fun a b q1 q2 q3 q4 q5 => by
    rw [jC a b q1 q2, w1 a b q3, r0 a b q4 q5, upI_ne (by omega)]
  refine ⟨vm1, r1, by rw [r6 85 42 (by omega), upI_s], RK_key h1 (by rw [c43, i88 1 4 (by omega), a47 1 4 (by unfold scr; omega) (by omega)]; exact g43) (by rw [q_nk]; exact hn) (t := dg (mdI I) (ncI I) N) (fun c hc' => by rw [q_md]; exact dg_lt (by have := hm.m2; omega)) o1 (D := I 88 k) (fun d z => ?_) (by rw [q_nc]; exact n2) (fun a b q1 q2 => ?_) ?_ (fun b => ?_) ?_ ?_ (fun c hc' => ?_) (fun j c h1' h2 => ?_) (fun j hj => ?_) ?_ (fun j hj => ?_) (by rw [q_nk]; exact upL_s) (fun j hj => ?_) ?_ (fun j hj => ?_) (fun j hj => ?_) (fun j hj => ?_) (fun d j hd => ?_)⟩
  · have lt := (hm.wu d k (by omega) z).2
    rw [q_nd]
    exact ⟨lt, (o4 d (by rw [q_nd]; exact lt)).1 z⟩
  · by_cases g : a < 85
    · refine jI a b q1 g (by omega) (by omega) (by omega)
    · exact jM a b q1 (by omega) (by omega)
  · rw [upL_ne (by omega)]
  · rw [upL_ne (by omega)]
  · rw [q_nk]; exact r2
  · rw [q_nk, jC 0 9 (by unfold scr; omega) (by omega), w1 0 9 (by omega)]
    unfold repN
    rw [upI_s, oN_s]
  · rw [q_nc] at hc'
    rw [q_nk, r5 c hc', upI_ne (by omega), n3 c hc']
  · rw [q_nk] at h1'
    rw [q_nc] at h2
    exact jM 86 _ (by unfold scr; omega) (by omega) (by omega)
  · rw [q_nk]
    by_cases g : j = nkI I
    · rw [if_pos g, g]; exact r3
    · rw [if_neg g]; exact jM 88 j (by unfold scr; omega) (by omega) (by omega)
  · rw [q_nk, r4, upI_ne (by omega), j95 85 43 (by unfold scr; omega) (by omega), u 85 43 (by omega), c43]
  · rw [q_nk] at hj
    exact jM 95 j (by unfold scr; omega) (by omega) (by omega)
  · rw [q_nk] at hj
    rw [upL_ne (by omega)]
  · rw [q_nk, jC _ 1 (by unfold scr; omega) (by omega), w1 _ 1 (by omega), c43]
    unfold repN
    rw [upI_ne (by omega), upI_ne (by omega), upI_s]
    exact g43.symm
  · rw [q_nk] at hj
    exact jI _ 1 (by unfold scr; omega) (by omega) (by omega) (by omega) (by omega)
  · rw [q_nk, jC _ 3 (by unfold scr; omega) (by omega), w1 _ 3 (by omega)]
    unfold repN
    rw [upI_ne (by omega), upI_s, tb_1shl (by omega)]
  · rw [q_nk] at hj
    exact jI _ 3 (by unfold scr; omega) (by omega) (by omega) (by omega) (by omega)
  · have hr := h.rr d hd
    rw [q_nk, jC (R d) 1 (by unfold scr; omega) (by omega), w2 d j hd, i88 (R d) 1 (by omega)]
    by_cases g : j = nkI I
    · subst g
      rw [if_pos rfl]
      by_cases z : tb (I 88 k) d = true
      · rw [if_pos ⟨rfl, (hm.wu d k (by omega) z).2, z⟩, z]
      · rw [if_neg (fun y => z y.2.2), x2 d _ hd, if_neg (by omega), h.wi d _ hd hn, Bool.eq_false_iff.mpr z]
        exact Bool.eq_false_iff.mpr (fun y => absurd (hm.wu d _ hn y).1 (by omega))
    · rw [if_neg g, if_neg (fun y => g y.1)]
/-- nothing is found, or there is no room -/
theorem repl_no {I J34 Jm : Nat → Nat → Int32} {L K9 : Nat → Nat → Int64} {R : Nat → Nat} (h : RK I L R) (hG : RG I) {k : Nat} (hk : k < nkI I) {D vm x : Int32} {v : Int64} (hc : srP I L R D (Int32.ofNat k) (-1) J34 K9 v) (hf : fndP (upI (upI J34 85 42 (0 : Int32)) 88 k 0) D (-1) Jm vm) : Jm 85 35 = I 85 35 ∧ ((v = 0 ∧ vm = 0) ∨ (¬ v = 0 ∧ vm = 1)) ∧ RK (upI (upI Jm 85 42 x) 88 k (I 88 k)) K9 R := by
  obtain ⟨k1, k2, k3, k4⟩ := repl_E h hG hk (repl_U (fun a b q => hc.1 a b (by omega)) 0) hc hf
  refine ⟨by rw [k3 85 35 (by unfold scr; omega), upI_ne (by omega), upI_ne (by omega), k1 85 35 (by decide)], ?_, RK_s h (fun a b q => ?_) (fun j _ => k2 _ _ (by omega)) (k2 1 5 (by omega)) (fun b => k2 15 b (by omega))⟩
  · rcases k4 with z | ⟨z1, z2, _⟩
    · exact .inl z
    · exact .inr ⟨z1, z2⟩
  · by_cases g : a = 88 ∧ b = k
    · rw [g.1, g.2, upI_s]
    · rw [upI_ne g, upI_ne (fun z => q (by unfold scr; omega)), k3 a b q, upI_ne g, upI_ne (fun z => q (by unfold scr; omega)), k1 a b (fun z => q (by unfold scr; omega))]
set_option maxHeartbeats 4000000 in
theorem qp_15 {h : sH} {I : Nat → Nat → Int32} {L : Nat → Nat → Int64} {R : Nat → Nat} (th : qH h I L R) (hK : RK I L R) (hG : RG I) {a1 : Int32} {r : sR} (gW : qGo 102 [.ref (0), .int (a1), .ref (117)] h r)
    (p1 : ∀ (c3 : ¬ a1 < 0), ∀ (c14 : a1 < (I 0 9)), ∀ (bb17 : sIn a1 16 = true), ∀ (z18 : I (19 + (a1).toNatClampNeg) 2 = 0 ∨ I (19 + (a1).toNatClampNeg) 2 = 1), ∀ (c19 : ¬ (I (19 + (a1).toNatClampNeg) 2) = 0), ∀ (c33 : ¬ (G_104 I R (a1) 0 ((0 : Int32)) ((I 0 10)).toNatClampNeg) = 0), ∀ (v38 : Int64), ∀ (j34 : Nat → Nat → Int32), ∀ (K39 : Nat → Nat → Int64), ∀ (e37 : srP I L R (G_104 I R (a1) 0 ((0 : Int32)) ((I 0 10)).toNatClampNeg) a1 (-1 : Int32) j34 K39 v38), ∀ (c44 : ¬ (v38 = (0 : Int64))), ∀ (c46 : (j34 0 9) < (16 : Int32)), ∀ (j47 : Nat → Nat → Int32), ∀ (e50 : wsP j34 R (G_104 I R (a1) 0 ((0 : Int32)) ((I 0 10)).toNatClampNeg) a1 (0 : Int32) j47), ∀ (bb55 : sIn (j47 0 9) 16 = true), ∀ (j68 : Nat → Nat → Int32), ∀ (e71 : wsP (upI (upI (upI j47 (19 + (j47 0 9).toNatClampNeg) 1 (j47 1 4)) (19 + (j47 0 9).toNatClampNeg) 3 ((1 : Int32) <<< ((j47 0 9) &&& 31))) 0 9 ((j47 0 9) + (1 : Int32))) R (G_104 I R (a1) 0 ((0 : Int32)) ((I 0 10)).toNatClampNeg) (j47 0 9) (1 : Int32) j68), ∀ (bb72 : sIn (0 : Int32) 1 = true), ∀ (c79 : (0 : Int32) ≤ a1 ∧ a1 ≤ ((j68 85 35) - (1 : Int32))), ∀ (c81 : (j68 92 ((a1).toNatClampNeg)) = 0), False)
    (p2 : ∀ (c3 : ¬ a1 < 0), ∀ (c14 : a1 < (I 0 9)), ∀ (bb17 : sIn a1 16 = true), ∀ (z18 : I (19 + (a1).toNatClampNeg) 2 = 0 ∨ I (19 + (a1).toNatClampNeg) 2 = 1), ∀ (c19 : ¬ (I (19 + (a1).toNatClampNeg) 2) = 0), ∀ (c33 : ¬ (G_104 I R (a1) 0 ((0 : Int32)) ((I 0 10)).toNatClampNeg) = 0), ∀ (v38 : Int64), ∀ (j34 : Nat → Nat → Int32), ∀ (K39 : Nat → Nat → Int64), ∀ (e37 : srP I L R (G_104 I R (a1) 0 ((0 : Int32)) ((I 0 10)).toNatClampNeg) a1 (-1 : Int32) j34 K39 v38), ∀ (c44 : ¬ (v38 = (0 : Int64))), ∀ (c46 : (j34 0 9) < (16 : Int32)), ∀ (j47 : Nat → Nat → Int32), ∀ (e50 : wsP j34 R (G_104 I R (a1) 0 ((0 : Int32)) ((I 0 10)).toNatClampNeg) a1 (0 : Int32) j47), ∀ (bb55 : sIn (j47 0 9) 16 = true), ∀ (j68 : Nat → Nat → Int32), ∀ (e71 : wsP (upI (upI (upI j47 (19 + (j47 0 9).toNatClampNeg) 1 (j47 1 4)) (19 + (j47 0 9).toNatClampNeg) 3 ((1 : Int32) <<< ((j47 0 9) &&& 31))) 0 9 ((j47 0 9) + (1 : Int32))) R (G_104 I R (a1) 0 ((0 : Int32)) ((I 0 10)).toNatClampNeg) (j47 0 9) (1 : Int32) j68), ∀ (bb72 : sIn (0 : Int32) 1 = true), ∀ (c79 : (0 : Int32) ≤ a1 ∧ a1 ≤ ((j68 85 35) - (1 : Int32))), ∀ (c81 : ¬ (j68 92 ((a1).toNatClampNeg)) = 0), ∀ (c85 : ¬ (j68 88 ((a1).toNatClampNeg)) = 0), ∀ (v99 : Int32), ∀ (j95 : Nat → Nat → Int32), ∀ (e98 : fndP (upI (upI j68 85 42 (0 : Int32)) 88 ((a1).toNatClampNeg) (0 : Int32)) (j68 88 ((a1).toNatClampNeg)) (-1 : Int32) j95 v99), ∀ (c100 : ¬ v99 = 0), ∀ (c101 : ¬ (j95 85 35) = (16 : Int32)), ∀ (v108 : Int32), ∀ (j104 : Nat → Nat → Int32), ∀ (e107 : adP (upI j95 85 42 (0 : Int32)) (j68 88 ((a1).toNatClampNeg)) j104 v108), j104 85 42 = (0 : Int32) ∧ (upL (upL K39 (19 + (j47 0 9).toNatClampNeg) 0 v38) 117 (((0 : Int32)).toNatClampNeg) ((j47 0 9).toInt64)) 117 (((0 : Int32)).toNatClampNeg) = v108.toInt64 ∧ RK j104 (upL (upL K39 (19 + (j47 0 9).toNatClampNeg) 0 v38) 117 (((0 : Int32)).toNatClampNeg) ((j47 0 9).toInt64)) R)
    (p3 : ∀ (c3 : ¬ a1 < 0), ∀ (c14 : a1 < (I 0 9)), ∀ (bb17 : sIn a1 16 = true), ∀ (z18 : I (19 + (a1).toNatClampNeg) 2 = 0 ∨ I (19 + (a1).toNatClampNeg) 2 = 1), ∀ (c19 : ¬ (I (19 + (a1).toNatClampNeg) 2) = 0), ∀ (c33 : ¬ (G_104 I R (a1) 0 ((0 : Int32)) ((I 0 10)).toNatClampNeg) = 0), ∀ (v38 : Int64), ∀ (j34 : Nat → Nat → Int32), ∀ (K39 : Nat → Nat → Int64), ∀ (e37 : srP I L R (G_104 I R (a1) 0 ((0 : Int32)) ((I 0 10)).toNatClampNeg) a1 (-1 : Int32) j34 K39 v38), ∀ (c44 : ¬ (v38 = (0 : Int64))), ∀ (c46 : (j34 0 9) < (16 : Int32)), ∀ (j47 : Nat → Nat → Int32), ∀ (e50 : wsP j34 R (G_104 I R (a1) 0 ((0 : Int32)) ((I 0 10)).toNatClampNeg) a1 (0 : Int32) j47), ∀ (bb55 : sIn (j47 0 9) 16 = true), ∀ (j68 : Nat → Nat → Int32), ∀ (e71 : wsP (upI (upI (upI j47 (19 + (j47 0 9).toNatClampNeg) 1 (j47 1 4)) (19 + (j47 0 9).toNatClampNeg) 3 ((1 : Int32) <<< ((j47 0 9) &&& 31))) 0 9 ((j47 0 9) + (1 : Int32))) R (G_104 I R (a1) 0 ((0 : Int32)) ((I 0 10)).toNatClampNeg) (j47 0 9) (1 : Int32) j68), ∀ (bb72 : sIn (0 : Int32) 1 = true), ∀ (c79 : (0 : Int32) ≤ a1 ∧ a1 ≤ ((j68 85 35) - (1 : Int32))), ∀ (c81 : ¬ (j68 92 ((a1).toNatClampNeg)) = 0), ∀ (c85 : ¬ (j68 88 ((a1).toNatClampNeg)) = 0), ∀ (v99 : Int32), ∀ (j95 : Nat → Nat → Int32), ∀ (e98 : fndP (upI (upI j68 85 42 (0 : Int32)) 88 ((a1).toNatClampNeg) (0 : Int32)) (j68 88 ((a1).toNatClampNeg)) (-1 : Int32) j95 v99), ∀ (c100 : ¬ v99 = 0), ∀ (c101 : (j95 85 35) = (16 : Int32)), False)
    (p4 : ∀ (c3 : ¬ a1 < 0), ∀ (c14 : a1 < (I 0 9)), ∀ (bb17 : sIn a1 16 = true), ∀ (z18 : I (19 + (a1).toNatClampNeg) 2 = 0 ∨ I (19 + (a1).toNatClampNeg) 2 = 1), ∀ (c19 : ¬ (I (19 + (a1).toNatClampNeg) 2) = 0), ∀ (c33 : ¬ (G_104 I R (a1) 0 ((0 : Int32)) ((I 0 10)).toNatClampNeg) = 0), ∀ (v38 : Int64), ∀ (j34 : Nat → Nat → Int32), ∀ (K39 : Nat → Nat → Int64), ∀ (e37 : srP I L R (G_104 I R (a1) 0 ((0 : Int32)) ((I 0 10)).toNatClampNeg) a1 (-1 : Int32) j34 K39 v38), ∀ (c44 : ¬ (v38 = (0 : Int64))), ∀ (c46 : (j34 0 9) < (16 : Int32)), ∀ (j47 : Nat → Nat → Int32), ∀ (e50 : wsP j34 R (G_104 I R (a1) 0 ((0 : Int32)) ((I 0 10)).toNatClampNeg) a1 (0 : Int32) j47), ∀ (bb55 : sIn (j47 0 9) 16 = true), ∀ (j68 : Nat → Nat → Int32), ∀ (e71 : wsP (upI (upI (upI j47 (19 + (j47 0 9).toNatClampNeg) 1 (j47 1 4)) (19 + (j47 0 9).toNatClampNeg) 3 ((1 : Int32) <<< ((j47 0 9) &&& 31))) 0 9 ((j47 0 9) + (1 : Int32))) R (G_104 I R (a1) 0 ((0 : Int32)) ((I 0 10)).toNatClampNeg) (j47 0 9) (1 : Int32) j68), ∀ (bb72 : sIn (0 : Int32) 1 = true), ∀ (c79 : (0 : Int32) ≤ a1 ∧ a1 ≤ ((j68 85 35) - (1 : Int32))), ∀ (c81 : ¬ (j68 92 ((a1).toNatClampNeg)) = 0), ∀ (c85 : ¬ (j68 88 ((a1).toNatClampNeg)) = 0), ∀ (v99 : Int32), ∀ (j95 : Nat → Nat → Int32), ∀ (e98 : fndP (upI (upI j68 85 42 (0 : Int32)) 88 ((a1).toNatClampNeg) (0 : Int32)) (j68 88 ((a1).toNatClampNeg)) (-1 : Int32) j95 v99), ∀ (c100 : v99 = 0), False)
    (p5 : ∀ (c3 : ¬ a1 < 0), ∀ (c14 : a1 < (I 0 9)), ∀ (bb17 : sIn a1 16 = true), ∀ (z18 : I (19 + (a1).toNatClampNeg) 2 = 0 ∨ I (19 + (a1).toNatClampNeg) 2 = 1), ∀ (c19 : ¬ (I (19 + (a1).toNatClampNeg) 2) = 0), ∀ (c33 : ¬ (G_104 I R (a1) 0 ((0 : Int32)) ((I 0 10)).toNatClampNeg) = 0), ∀ (v38 : Int64), ∀ (j34 : Nat → Nat → Int32), ∀ (K39 : Nat → Nat → Int64), ∀ (e37 : srP I L R (G_104 I R (a1) 0 ((0 : Int32)) ((I 0 10)).toNatClampNeg) a1 (-1 : Int32) j34 K39 v38), ∀ (c44 : ¬ (v38 = (0 : Int64))), ∀ (c46 : (j34 0 9) < (16 : Int32)), ∀ (j47 : Nat → Nat → Int32), ∀ (e50 : wsP j34 R (G_104 I R (a1) 0 ((0 : Int32)) ((I 0 10)).toNatClampNeg) a1 (0 : Int32) j47), ∀ (bb55 : sIn (j47 0 9) 16 = true), ∀ (j68 : Nat → Nat → Int32), ∀ (e71 : wsP (upI (upI (upI j47 (19 + (j47 0 9).toNatClampNeg) 1 (j47 1 4)) (19 + (j47 0 9).toNatClampNeg) 3 ((1 : Int32) <<< ((j47 0 9) &&& 31))) 0 9 ((j47 0 9) + (1 : Int32))) R (G_104 I R (a1) 0 ((0 : Int32)) ((I 0 10)).toNatClampNeg) (j47 0 9) (1 : Int32) j68), ∀ (bb72 : sIn (0 : Int32) 1 = true), ∀ (c79 : (0 : Int32) ≤ a1 ∧ a1 ≤ ((j68 85 35) - (1 : Int32))), ∀ (c81 : ¬ (j68 92 ((a1).toNatClampNeg)) = 0), ∀ (c85 : (j68 88 ((a1).toNatClampNeg)) = 0), False)
    (p6 : ∀ (c3 : ¬ a1 < 0), ∀ (c14 : a1 < (I 0 9)), ∀ (bb17 : sIn a1 16 = true), ∀ (z18 : I (19 + (a1).toNatClampNeg) 2 = 0 ∨ I (19 + (a1).toNatClampNeg) 2 = 1), ∀ (c19 : ¬ (I (19 + (a1).toNatClampNeg) 2) = 0), ∀ (c33 : ¬ (G_104 I R (a1) 0 ((0 : Int32)) ((I 0 10)).toNatClampNeg) = 0), ∀ (v38 : Int64), ∀ (j34 : Nat → Nat → Int32), ∀ (K39 : Nat → Nat → Int64), ∀ (e37 : srP I L R (G_104 I R (a1) 0 ((0 : Int32)) ((I 0 10)).toNatClampNeg) a1 (-1 : Int32) j34 K39 v38), ∀ (c44 : ¬ (v38 = (0 : Int64))), ∀ (c46 : (j34 0 9) < (16 : Int32)), ∀ (j47 : Nat → Nat → Int32), ∀ (e50 : wsP j34 R (G_104 I R (a1) 0 ((0 : Int32)) ((I 0 10)).toNatClampNeg) a1 (0 : Int32) j47), ∀ (bb55 : sIn (j47 0 9) 16 = true), ∀ (j68 : Nat → Nat → Int32), ∀ (e71 : wsP (upI (upI (upI j47 (19 + (j47 0 9).toNatClampNeg) 1 (j47 1 4)) (19 + (j47 0 9).toNatClampNeg) 3 ((1 : Int32) <<< ((j47 0 9) &&& 31))) 0 9 ((j47 0 9) + (1 : Int32))) R (G_104 I R (a1) 0 ((0 : Int32)) ((I 0 10)).toNatClampNeg) (j47 0 9) (1 : Int32) j68), ∀ (bb72 : sIn (0 : Int32) 1 = true), ∀ (c79 : ¬ ((0 : Int32) ≤ a1 ∧ a1 ≤ ((j68 85 35) - (1 : Int32)))), False)
    (p7 : ∀ (c3 : ¬ a1 < 0), ∀ (c14 : a1 < (I 0 9)), ∀ (bb17 : sIn a1 16 = true), ∀ (z18 : I (19 + (a1).toNatClampNeg) 2 = 0 ∨ I (19 + (a1).toNatClampNeg) 2 = 1), ∀ (c19 : ¬ (I (19 + (a1).toNatClampNeg) 2) = 0), ∀ (c33 : ¬ (G_104 I R (a1) 0 ((0 : Int32)) ((I 0 10)).toNatClampNeg) = 0), ∀ (v38 : Int64), ∀ (j34 : Nat → Nat → Int32), ∀ (K39 : Nat → Nat → Int64), ∀ (e37 : srP I L R (G_104 I R (a1) 0 ((0 : Int32)) ((I 0 10)).toNatClampNeg) a1 (-1 : Int32) j34 K39 v38), ∀ (c44 : ¬ (v38 = (0 : Int64))), ∀ (c46 : ¬ (j34 0 9) < (16 : Int32)), ∀ (c139 : ¬ (I 88 ((a1).toNatClampNeg)) = 0), ∀ (v154 : Int32), ∀ (j150 : Nat → Nat → Int32), ∀ (e153 : fndP (upI (upI j34 85 42 (0 : Int32)) 88 ((a1).toNatClampNeg) (0 : Int32)) (I 88 ((a1).toNatClampNeg)) (-1 : Int32) j150 v154), ∀ (c155 : ¬ v154 = 0), ∀ (c156 : ¬ (j150 85 35) = (16 : Int32)), ∀ (v163 : Int32), ∀ (j159 : Nat → Nat → Int32), ∀ (e162 : adP (upI j150 85 42 (0 : Int32)) (I 88 ((a1).toNatClampNeg)) j159 v163), j159 85 42 = (4 : Int32) ∧ RK j159 K39 R)
    (p8 : ∀ (c3 : ¬ a1 < 0), ∀ (c14 : a1 < (I 0 9)), ∀ (bb17 : sIn a1 16 = true), ∀ (z18 : I (19 + (a1).toNatClampNeg) 2 = 0 ∨ I (19 + (a1).toNatClampNeg) 2 = 1), ∀ (c19 : ¬ (I (19 + (a1).toNatClampNeg) 2) = 0), ∀ (c33 : ¬ (G_104 I R (a1) 0 ((0 : Int32)) ((I 0 10)).toNatClampNeg) = 0), ∀ (v38 : Int64), ∀ (j34 : Nat → Nat → Int32), ∀ (K39 : Nat → Nat → Int64), ∀ (e37 : srP I L R (G_104 I R (a1) 0 ((0 : Int32)) ((I 0 10)).toNatClampNeg) a1 (-1 : Int32) j34 K39 v38), ∀ (c44 : ¬ (v38 = (0 : Int64))), ∀ (c46 : ¬ (j34 0 9) < (16 : Int32)), ∀ (c139 : ¬ (I 88 ((a1).toNatClampNeg)) = 0), ∀ (v154 : Int32), ∀ (j150 : Nat → Nat → Int32), ∀ (e153 : fndP (upI (upI j34 85 42 (0 : Int32)) 88 ((a1).toNatClampNeg) (0 : Int32)) (I 88 ((a1).toNatClampNeg)) (-1 : Int32) j150 v154), ∀ (c155 : ¬ v154 = 0), ∀ (c156 : (j150 85 35) = (16 : Int32)), RK (upI (upI j150 85 42 (4 : Int32)) 88 ((a1).toNatClampNeg) (I 88 ((a1).toNatClampNeg))) K39 R)
    (p9 : ∀ (c3 : ¬ a1 < 0), ∀ (c14 : a1 < (I 0 9)), ∀ (bb17 : sIn a1 16 = true), ∀ (z18 : I (19 + (a1).toNatClampNeg) 2 = 0 ∨ I (19 + (a1).toNatClampNeg) 2 = 1), ∀ (c19 : ¬ (I (19 + (a1).toNatClampNeg) 2) = 0), ∀ (c33 : ¬ (G_104 I R (a1) 0 ((0 : Int32)) ((I 0 10)).toNatClampNeg) = 0), ∀ (v38 : Int64), ∀ (j34 : Nat → Nat → Int32), ∀ (K39 : Nat → Nat → Int64), ∀ (e37 : srP I L R (G_104 I R (a1) 0 ((0 : Int32)) ((I 0 10)).toNatClampNeg) a1 (-1 : Int32) j34 K39 v38), ∀ (c44 : ¬ (v38 = (0 : Int64))), ∀ (c46 : ¬ (j34 0 9) < (16 : Int32)), ∀ (c139 : ¬ (I 88 ((a1).toNatClampNeg)) = 0), ∀ (v154 : Int32), ∀ (j150 : Nat → Nat → Int32), ∀ (e153 : fndP (upI (upI j34 85 42 (0 : Int32)) 88 ((a1).toNatClampNeg) (0 : Int32)) (I 88 ((a1).toNatClampNeg)) (-1 : Int32) j150 v154), ∀ (c155 : v154 = 0), False)
    (p10 : ∀ (c3 : ¬ a1 < 0), ∀ (c14 : a1 < (I 0 9)), ∀ (bb17 : sIn a1 16 = true), ∀ (z18 : I (19 + (a1).toNatClampNeg) 2 = 0 ∨ I (19 + (a1).toNatClampNeg) 2 = 1), ∀ (c19 : ¬ (I (19 + (a1).toNatClampNeg) 2) = 0), ∀ (c33 : ¬ (G_104 I R (a1) 0 ((0 : Int32)) ((I 0 10)).toNatClampNeg) = 0), ∀ (v38 : Int64), ∀ (j34 : Nat → Nat → Int32), ∀ (K39 : Nat → Nat → Int64), ∀ (e37 : srP I L R (G_104 I R (a1) 0 ((0 : Int32)) ((I 0 10)).toNatClampNeg) a1 (-1 : Int32) j34 K39 v38), ∀ (c44 : ¬ (v38 = (0 : Int64))), ∀ (c46 : ¬ (j34 0 9) < (16 : Int32)), ∀ (c139 : (I 88 ((a1).toNatClampNeg)) = 0), False)
    (p11 : ∀ (c3 : ¬ a1 < 0), ∀ (c14 : a1 < (I 0 9)), ∀ (bb17 : sIn a1 16 = true), ∀ (z18 : I (19 + (a1).toNatClampNeg) 2 = 0 ∨ I (19 + (a1).toNatClampNeg) 2 = 1), ∀ (c19 : ¬ (I (19 + (a1).toNatClampNeg) 2) = 0), ∀ (c33 : ¬ (G_104 I R (a1) 0 ((0 : Int32)) ((I 0 10)).toNatClampNeg) = 0), ∀ (v38 : Int64), ∀ (j34 : Nat → Nat → Int32), ∀ (K39 : Nat → Nat → Int64), ∀ (e37 : srP I L R (G_104 I R (a1) 0 ((0 : Int32)) ((I 0 10)).toNatClampNeg) a1 (-1 : Int32) j34 K39 v38), ∀ (c44 : v38 = (0 : Int64)), ∀ (c192 : ¬ (I 88 ((a1).toNatClampNeg)) = 0), ∀ (v207 : Int32), ∀ (j203 : Nat → Nat → Int32), ∀ (e206 : fndP (upI (upI j34 85 42 (0 : Int32)) 88 ((a1).toNatClampNeg) (0 : Int32)) (I 88 ((a1).toNatClampNeg)) (-1 : Int32) j203 v207), ∀ (c208 : ¬ v207 = 0), ∀ (c209 : ¬ (j203 85 35) = (16 : Int32)), ∀ (v216 : Int32), ∀ (j212 : Nat → Nat → Int32), ∀ (e215 : adP (upI j203 85 42 (0 : Int32)) (I 88 ((a1).toNatClampNeg)) j212 v216), j212 85 42 = (3 : Int32) ∧ RK j212 K39 R)
    (p12 : ∀ (c3 : ¬ a1 < 0), ∀ (c14 : a1 < (I 0 9)), ∀ (bb17 : sIn a1 16 = true), ∀ (z18 : I (19 + (a1).toNatClampNeg) 2 = 0 ∨ I (19 + (a1).toNatClampNeg) 2 = 1), ∀ (c19 : ¬ (I (19 + (a1).toNatClampNeg) 2) = 0), ∀ (c33 : ¬ (G_104 I R (a1) 0 ((0 : Int32)) ((I 0 10)).toNatClampNeg) = 0), ∀ (v38 : Int64), ∀ (j34 : Nat → Nat → Int32), ∀ (K39 : Nat → Nat → Int64), ∀ (e37 : srP I L R (G_104 I R (a1) 0 ((0 : Int32)) ((I 0 10)).toNatClampNeg) a1 (-1 : Int32) j34 K39 v38), ∀ (c44 : v38 = (0 : Int64)), ∀ (c192 : ¬ (I 88 ((a1).toNatClampNeg)) = 0), ∀ (v207 : Int32), ∀ (j203 : Nat → Nat → Int32), ∀ (e206 : fndP (upI (upI j34 85 42 (0 : Int32)) 88 ((a1).toNatClampNeg) (0 : Int32)) (I 88 ((a1).toNatClampNeg)) (-1 : Int32) j203 v207), ∀ (c208 : ¬ v207 = 0), ∀ (c209 : (j203 85 35) = (16 : Int32)), False)
    (p13 : ∀ (c3 : ¬ a1 < 0), ∀ (c14 : a1 < (I 0 9)), ∀ (bb17 : sIn a1 16 = true), ∀ (z18 : I (19 + (a1).toNatClampNeg) 2 = 0 ∨ I (19 + (a1).toNatClampNeg) 2 = 1), ∀ (c19 : ¬ (I (19 + (a1).toNatClampNeg) 2) = 0), ∀ (c33 : ¬ (G_104 I R (a1) 0 ((0 : Int32)) ((I 0 10)).toNatClampNeg) = 0), ∀ (v38 : Int64), ∀ (j34 : Nat → Nat → Int32), ∀ (K39 : Nat → Nat → Int64), ∀ (e37 : srP I L R (G_104 I R (a1) 0 ((0 : Int32)) ((I 0 10)).toNatClampNeg) a1 (-1 : Int32) j34 K39 v38), ∀ (c44 : v38 = (0 : Int64)), ∀ (c192 : ¬ (I 88 ((a1).toNatClampNeg)) = 0), ∀ (v207 : Int32), ∀ (j203 : Nat → Nat → Int32), ∀ (e206 : fndP (upI (upI j34 85 42 (0 : Int32)) 88 ((a1).toNatClampNeg) (0 : Int32)) (I 88 ((a1).toNatClampNeg)) (-1 : Int32) j203 v207), ∀ (c208 : v207 = 0), RK (upI (upI j203 85 42 (3 : Int32)) 88 ((a1).toNatClampNeg) (I 88 ((a1).toNatClampNeg))) K39 R)
    (p14 : ∀ (c3 : ¬ a1 < 0), ∀ (c14 : a1 < (I 0 9)), ∀ (bb17 : sIn a1 16 = true), ∀ (z18 : I (19 + (a1).toNatClampNeg) 2 = 0 ∨ I (19 + (a1).toNatClampNeg) 2 = 1), ∀ (c19 : ¬ (I (19 + (a1).toNatClampNeg) 2) = 0), ∀ (c33 : ¬ (G_104 I R (a1) 0 ((0 : Int32)) ((I 0 10)).toNatClampNeg) = 0), ∀ (v38 : Int64), ∀ (j34 : Nat → Nat → Int32), ∀ (K39 : Nat → Nat → Int64), ∀ (e37 : srP I L R (G_104 I R (a1) 0 ((0 : Int32)) ((I 0 10)).toNatClampNeg) a1 (-1 : Int32) j34 K39 v38), ∀ (c44 : v38 = (0 : Int64)), ∀ (c192 : (I 88 ((a1).toNatClampNeg)) = 0), False)
    (p15 : ∀ (c3 : ¬ a1 < 0), ∀ (c14 : a1 < (I 0 9)), ∀ (bb17 : sIn a1 16 = true), ∀ (z18 : I (19 + (a1).toNatClampNeg) 2 = 0 ∨ I (19 + (a1).toNatClampNeg) 2 = 1), ∀ (c19 : ¬ (I (19 + (a1).toNatClampNeg) 2) = 0), ∀ (c33 : (G_104 I R (a1) 0 ((0 : Int32)) ((I 0 10)).toNatClampNeg) = 0), ∀ (c242 : ¬ (I 88 ((a1).toNatClampNeg)) = 0), ∀ (v256 : Int32), ∀ (j252 : Nat → Nat → Int32), ∀ (e255 : fndP (upI (upI I 85 42 (0 : Int32)) 88 ((a1).toNatClampNeg) (0 : Int32)) (I 88 ((a1).toNatClampNeg)) (-1 : Int32) j252 v256), ∀ (c257 : ¬ v256 = 0), ∀ (c258 : ¬ (j252 85 35) = (16 : Int32)), ∀ (v265 : Int32), ∀ (j261 : Nat → Nat → Int32), ∀ (e264 : adP (upI j252 85 42 (0 : Int32)) (I 88 ((a1).toNatClampNeg)) j261 v265), j261 85 42 = (2 : Int32) ∧ RK j261 L R)
    (p16 : ∀ (c3 : ¬ a1 < 0), ∀ (c14 : a1 < (I 0 9)), ∀ (bb17 : sIn a1 16 = true), ∀ (z18 : I (19 + (a1).toNatClampNeg) 2 = 0 ∨ I (19 + (a1).toNatClampNeg) 2 = 1), ∀ (c19 : ¬ (I (19 + (a1).toNatClampNeg) 2) = 0), ∀ (c33 : (G_104 I R (a1) 0 ((0 : Int32)) ((I 0 10)).toNatClampNeg) = 0), ∀ (c242 : ¬ (I 88 ((a1).toNatClampNeg)) = 0), ∀ (v256 : Int32), ∀ (j252 : Nat → Nat → Int32), ∀ (e255 : fndP (upI (upI I 85 42 (0 : Int32)) 88 ((a1).toNatClampNeg) (0 : Int32)) (I 88 ((a1).toNatClampNeg)) (-1 : Int32) j252 v256), ∀ (c257 : ¬ v256 = 0), ∀ (c258 : (j252 85 35) = (16 : Int32)), False)
    (p17 : ∀ (c3 : ¬ a1 < 0), ∀ (c14 : a1 < (I 0 9)), ∀ (bb17 : sIn a1 16 = true), ∀ (z18 : I (19 + (a1).toNatClampNeg) 2 = 0 ∨ I (19 + (a1).toNatClampNeg) 2 = 1), ∀ (c19 : ¬ (I (19 + (a1).toNatClampNeg) 2) = 0), ∀ (c33 : (G_104 I R (a1) 0 ((0 : Int32)) ((I 0 10)).toNatClampNeg) = 0), ∀ (c242 : ¬ (I 88 ((a1).toNatClampNeg)) = 0), ∀ (v256 : Int32), ∀ (j252 : Nat → Nat → Int32), ∀ (e255 : fndP (upI (upI I 85 42 (0 : Int32)) 88 ((a1).toNatClampNeg) (0 : Int32)) (I 88 ((a1).toNatClampNeg)) (-1 : Int32) j252 v256), ∀ (c257 : v256 = 0), False) : ∀ r2 : sR, qGo 249 [.ref (85), .int (a1)] r.2 r2 → opE r.1 r2.1 r2.2 RK := by
  refine qGo_w (Q := fun r => ∀ r2 : sR, qGo 249 [.ref (85), .int (a1)] r.2 r2 → opE r.1 r2.1 r2.2 RK) gW (fun N => ?_)
  have hl0 : qLs (lv_args 0 [.ref (0), .int (a1), .ref (117)]) [some (.ref (0)), some (.int (a1)), some (.ref (117)), none] := qLs_ar 1
  refine q_aload_n (show mE (mtv 102) 0 = some (.aload_n 2, 1, 0, 0) from rfl) (hl0 2 _ rfl) ?_
  refine q_iconst (show mE (mtv 102) 1 = some (.iconst 0, 1, 0, 0) from rfl) kI_0 ?_
  refine q_aload_n (show mE (mtv 102) 2 = some (.aload_n 0, 1, 0, 0) from rfl) (hl0 0 _ rfl) ?_
  refine q_iload_n (show mE (mtv 102) 3 = some (.iload_n 1, 1, 0, 0) from rfl) (hl0 1 _ rfl) ?_
  refine q_virtualIh (show mE (mtv 102) 4 = some (.invokevirtual 64, 3, 103, 8) from rfl) (by decide) rfl rfl rfl (fun _ => ?_)
  have hl1 : qLs (lv_args 0 [.ref (0), .int (a1)]) [some (.ref (0)), some (.int (a1)), none, none, none] := qLs_ar 3
  refine q_aload_n (show mE (mtv 103) 0 = some (.aload_n 0, 1, 0, 0) from rfl) (hl1 0 _ rfl) ?_
  refine q_iload_n (show mE (mtv 103) 1 = some (.iload_n 1, 1, 0, 0) from rfl) (hl1 1 _ rfl) ?_
  refine q_virtualI (show mE (mtv 103) 2 = some (.invokevirtual 158, 3, 61, 8) from rfl) (by decide) rfl rfl rfl (fun _ => ?_)
  have hl2 : qLs (lv_args 0 [.ref (0), .int (a1)]) [some (.ref (0)), some (.int (a1))] := qLs_ar 0
  refine q_iload_n (show mE (mtv 61) 0 = some (.iload_n 1, 1, 0, 0) from rfl) (hl2 1 _ rfl) ?_
  refine q_if_lt (t := 12) (show mE (mtv 61) 1 = some (.ifCond .lt 11, 3, 0, 0) from rfl) rfl (fun c3 => ?_) (fun c3 => ?_)
  · refine q_throw (show mE (mtv 61) 12 = some (.new 338, 3, 1002, 0) from rfl) (by decide) ?_
    refine qK_x ?_
    refine qKh_x (hp := 12) (c := (13, sDr 3 (lv_args 0 [.ref (0), .int (a1), .ref (117)]), [], h)) rfl (by decide) (fun _ _ => rfl) ?_
    refine q_iconst (show mE (mtv 102) 13 = some (.iconst 1, 1, 0, 0) from rfl) kI_1 ?_
    refine q_ireturn (show mE (mtv 102) 14 = some (.ireturn, 1, 0, 0) from rfl) ?_
    intro r4 g5
    have g5 : qGo 249 [.ref (85), .int (a1)] h r4 := g5
    refine qGo_w (Q := fun r2 => opE (.inl (some (.int ((1 : Int32))))) r2.1 r2.2 RK) g5 (fun _ => ?_)
    have hl6 : qLs (lv_args 0 [.ref (85), .int (a1)]) [some (.ref (85)), some (.int (a1)), none] := qLs_ar 1
    refine q_aload_n (show mE (mtv 249) 0 = some (.aload_n 0, 1, 0, 0) from rfl) (hl6 0 _ rfl) ?_
    refine q_aload_n (show mE (mtv 249) 1 = some (.aload_n 0, 1, 0, 0) from rfl) (hl6 0 _ rfl) ?_
    refine q_iload_n (show mE (mtv 249) 2 = some (.iload_n 1, 1, 0, 0) from rfl) (hl6 1 _ rfl) ?_
    refine q_virtualI (show mE (mtv 249) 3 = some (.invokevirtual 175, 3, 220, 9) from rfl) (by decide) rfl rfl rfl (fun _ => ?_)
    have hl7 : qLs (lv_args 0 [.ref (85), .int (a1)]) [some (.ref (85)), some (.int (a1))] := qLs_ar 0
    refine q_iload_n (show mE (mtv 220) 0 = some (.iload_n 1, 1, 0, 0) from rfl) (hl7 1 _ rfl) ?_
    refine q_iconst (show mE (mtv 220) 1 = some (.iconst 0, 1, 0, 0) from rfl) kI_0 ?_
    refine q_aload_n (show mE (mtv 220) 2 = some (.aload_n 0, 1, 0, 0) from rfl) (hl7 0 _ rfl) ?_
    refine q_getI th (show mE (mtv 220) 3 = some (.getfield 117, 3, 9, 35) from rfl) (by decide) rfl ?_
    have r8 : I 85 35 = I 0 9 := hK.nk.symm
    rw [r8]; clear r8
    refine q_iconst (show mE (mtv 220) 6 = some (.iconst 1, 1, 0, 0) from rfl) kI_1 ?_
    refine q_isub (show mE (mtv 220) 7 = some (.isub, 1, 0, 0) from rfl) ?_
    refine q_staticP (show mE (mtv 220) 8 = some (.invokestatic 157, 3, 211, 0) from rfl) (by decide) rfl rfl rfl (fun _ g => sp_211 g) ?_
    refine q_ireturn (show mE (mtv 220) 11 = some (.ireturn, 1, 0, 0) from rfl) ?_
    refine qK_v ?_
    refine q_ifb_ne (t := 13) (show mE (mtv 249) 6 = some (.ifCond .ne 7, 3, 0, 0) from rfl) rfl (fun c9 => ?_) (fun c9 => ?_)
    · exfalso
      have s10 := hK.bk
      unfold inR at s10
      have s11 := i32_sub1 (x := I 0 9) (by omega)
      simp only [s11, Int32.lt_iff_toInt_lt, Int32.le_iff_toInt_le, ← Int32.toInt_inj, kt_0, kt_1] at c3 c9
      first | omega | contradiction
    · clear c9
      refine q_iconst (show mE (mtv 249) 9 = some (.iconst 1, 1, 0, 0) from rfl) kI_1 ?_
      refine q_goto (t := 36) (show mE (mtv 249) 10 = some (.goto 26, 3, 0, 0) from rfl) rfl ?_
      refine q_putI th (show mE (mtv 249) 36 = some (.putfield 138, 3, 9, 42) from rfl) (by decide) rfl (fun h12 t13 => ?_)
      refine q_aload_n (show mE (mtv 249) 39 = some (.aload_n 0, 1, 0, 0) from rfl) (hl6 0 _ rfl) ?_
      refine q_getIe t13 (show mE (mtv 249) 40 = some (.getfield 138, 3, 9, 42) from rfl) (by decide) rfl (upI_s) ?_
      refine q_iff (t := 48) (show mE (mtv 249) 43 = some (.ifCond .le 5, 3, 0, 0) from rfl) (by decide) rfl ?_
      refine q_iconst (show mE (mtv 249) 46 = some (.iconst 0, 1, 0, 0) from rfl) kI_0 ?_
      refine q_ireturn (show mE (mtv 249) 47 = some (.ireturn, 1, 0, 0) from rfl) ?_
      exact ⟨(1 : Int32), (0 : Int32), _, _, _, rfl, rfl, t13, upI_s, (fun e => absurd e (by decide)), (RK_t (1 : Int32) hK)⟩
  · refine q_iload_n (show mE (mtv 61) 4 = some (.iload_n 1, 1, 0, 0) from rfl) (hl2 1 _ rfl) ?_
    refine q_aload_n (show mE (mtv 61) 5 = some (.aload_n 0, 1, 0, 0) from rfl) (hl2 0 _ rfl) ?_
    refine q_getI th (show mE (mtv 61) 6 = some (.getfield 88, 3, 8, 9) from rfl) (by decide) rfl ?_
    refine q_ic_lt (t := 23) (show mE (mtv 61) 9 = some (.if_icmp .lt 14, 3, 0, 0) from rfl) rfl (fun c14 => ?_) (fun c14 => ?_)
    · refine q_return_ (show mE (mtv 61) 23 = some (.return_, 1, 0, 0) from rfl) ?_
      refine qK_n ?_
      refine q_aload_n (show mE (mtv 103) 5 = some (.aload_n 0, 1, 0, 0) from rfl) (hl1 0 _ rfl) ?_
      refine q_iload_n (show mE (mtv 103) 6 = some (.iload_n 1, 1, 0, 0) from rfl) (hl1 1 _ rfl) ?_
      refine q_virtualP (show mE (mtv 103) 7 = some (.invokevirtual 249, 3, 104, 8) from rfl) (by decide) rfl rfl rfl (fun _ g => sp_104 th g) ?_
      refine q_istore_n (show mE (mtv 103) 10 = some (.istore_n 2, 1, 0, 0) from rfl) (Nat.le_of_ble_eq_true rfl) hl1 (fun lv15 (hl16 : qLs lv15 [some (.ref (0)), some (.int (a1)), some (.int (G_104 I R (a1) 0 ((0 : Int32)) ((I 0 10)).toNatClampNeg)), none, none]) => ?_)
      refine q_aload_n (show mE (mtv 103) 11 = some (.aload_n 0, 1, 0, 0) from rfl) (hl16 0 _ rfl) ?_
      refine q_getR (m := 12) th (show mE (mtv 103) 12 = some (.getfield 25, 3, 8, 2) from rfl) (by decide) rfl rfl ?_
      refine q_iload_n (show mE (mtv 103) 15 = some (.iload_n 1, 1, 0, 0) from rfl) (hl16 1 _ rfl) ?_
      refine q_aaload (n := 16) (t := 4) (m := 19) th (show mE (mtv 103) 16 = some (.aaload, 1, 0, 0) from rfl) (by decide) rfl (fun _ _ => rfl) (fun bb17 => ?_)
      refine q_getB th (show mE (mtv 103) 17 = some (.getfield 238, 3, 3, 2) from rfl) (qB bb17 (by decide)) rfl (fun z18 => ?_)
      refine q_if_eq (t := 27) (show mE (mtv 103) 20 = some (.ifCond .eq 7, 3, 0, 0) from rfl) rfl (fun c19 => ?_) (fun c19 => ?_)
      · refine q_throw (show mE (mtv 103) 27 = some (.new 94, 3, 1003, 0) from rfl) (by decide) ?_
        refine qKh_x (hp := 15) (c := (16, sDr 3 (lv_args 0 [.ref (0), .int (a1), .ref (117)]), [], h)) rfl (by decide) (fun _ _ => rfl) ?_
        refine q_iconst (show mE (mtv 102) 16 = some (.iconst 2, 1, 0, 0) from rfl) kI_2 ?_
        refine q_ireturn (show mE (mtv 102) 17 = some (.ireturn, 1, 0, 0) from rfl) ?_
        intro r20 g21
        have g21 : qGo 249 [.ref (85), .int (a1)] h r20 := g21
        refine qGo_w (Q := fun r2 => opE (.inl (some (.int ((2 : Int32))))) r2.1 r2.2 RK) g21 (fun _ => ?_)
        have hl22 : qLs (lv_args 0 [.ref (85), .int (a1)]) [some (.ref (85)), some (.int (a1)), none] := qLs_ar 1
        refine q_aload_n (show mE (mtv 249) 0 = some (.aload_n 0, 1, 0, 0) from rfl) (hl22 0 _ rfl) ?_
        refine q_aload_n (show mE (mtv 249) 1 = some (.aload_n 0, 1, 0, 0) from rfl) (hl22 0 _ rfl) ?_
        refine q_iload_n (show mE (mtv 249) 2 = some (.iload_n 1, 1, 0, 0) from rfl) (hl22 1 _ rfl) ?_
        refine q_virtualI (show mE (mtv 249) 3 = some (.invokevirtual 175, 3, 220, 9) from rfl) (by decide) rfl rfl rfl (fun _ => ?_)
        have hl23 : qLs (lv_args 0 [.ref (85), .int (a1)]) [some (.ref (85)), some (.int (a1))] := qLs_ar 0
        refine q_iload_n (show mE (mtv 220) 0 = some (.iload_n 1, 1, 0, 0) from rfl) (hl23 1 _ rfl) ?_
        refine q_iconst (show mE (mtv 220) 1 = some (.iconst 0, 1, 0, 0) from rfl) kI_0 ?_
        refine q_aload_n (show mE (mtv 220) 2 = some (.aload_n 0, 1, 0, 0) from rfl) (hl23 0 _ rfl) ?_
        refine q_getI th (show mE (mtv 220) 3 = some (.getfield 117, 3, 9, 35) from rfl) (by decide) rfl ?_
        have r24 : I 85 35 = I 0 9 := hK.nk.symm
        rw [r24]; clear r24
        refine q_iconst (show mE (mtv 220) 6 = some (.iconst 1, 1, 0, 0) from rfl) kI_1 ?_
        refine q_isub (show mE (mtv 220) 7 = some (.isub, 1, 0, 0) from rfl) ?_
        refine q_staticP (show mE (mtv 220) 8 = some (.invokestatic 157, 3, 211, 0) from rfl) (by decide) rfl rfl rfl (fun _ g => sp_211 g) ?_
        refine q_ireturn (show mE (mtv 220) 11 = some (.ireturn, 1, 0, 0) from rfl) ?_
        refine qK_v ?_
        refine q_ifb_ne (t := 13) (show mE (mtv 249) 6 = some (.ifCond .ne 7, 3, 0, 0) from rfl) rfl (fun c25 => ?_) (fun c25 => ?_)
        · clear c25
          refine q_aload_n (show mE (mtv 249) 13 = some (.aload_n 0, 1, 0, 0) from rfl) (hl22 0 _ rfl) ?_
          refine q_getR (m := 92) th (show mE (mtv 249) 14 = some (.getfield 28, 3, 9, 6) from rfl) (by decide) rfl rfl ?_
          refine q_iload_n (show mE (mtv 249) 17 = some (.iload_n 1, 1, 0, 0) from rfl) (hl22 1 _ rfl) ?_
          refine q_baload (n := 16) th (show mE (mtv 249) 18 = some (.baload, 1, 0, 0) from rfl) (by decide) rfl (fun bb28 => ?_)
          have r29 : I 92 ((a1).toNatClampNeg) = I (19 + (a1).toNatClampNeg) 2 := hK.kl _ (sIn_lt bb28)
          rw [r29]; clear r29
          refine q_if_eq (t := 31) (show mE (mtv 249) 19 = some (.ifCond .eq 12, 3, 0, 0) from rfl) rfl (fun c30 => ?_) (fun c30 => ?_)
          · clear c30
            refine q_iconst (show mE (mtv 249) 31 = some (.iconst 2, 1, 0, 0) from rfl) kI_2 ?_
            refine q_goto (t := 36) (show mE (mtv 249) 32 = some (.goto 4, 3, 0, 0) from rfl) rfl ?_
            refine q_putI th (show mE (mtv 249) 36 = some (.putfield 138, 3, 9, 42) from rfl) (by decide) rfl (fun h31 t32 => ?_)
            refine q_aload_n (show mE (mtv 249) 39 = some (.aload_n 0, 1, 0, 0) from rfl) (hl22 0 _ rfl) ?_
            refine q_getIe t32 (show mE (mtv 249) 40 = some (.getfield 138, 3, 9, 42) from rfl) (by decide) rfl (upI_s) ?_
            refine q_iff (t := 48) (show mE (mtv 249) 43 = some (.ifCond .le 5, 3, 0, 0) from rfl) (by decide) rfl ?_
            refine q_iconst (show mE (mtv 249) 46 = some (.iconst 0, 1, 0, 0) from rfl) kI_0 ?_
            refine q_ireturn (show mE (mtv 249) 47 = some (.ireturn, 1, 0, 0) from rfl) ?_
            exact ⟨(2 : Int32), (0 : Int32), _, _, _, rfl, rfl, t32, upI_s, (fun e => absurd e (by decide)), (RK_t (2 : Int32) hK)⟩
          · exact absurd c19 c30
        · exfalso
          have s26 := hK.bk
          unfold inR at s26
          have s27 := i32_sub1 (x := I 0 9) (by omega)
          simp only [s27, Int32.lt_iff_toInt_lt, Int32.le_iff_toInt_le, ← Int32.toInt_inj, kt_0, kt_1] at c3 c14 c19 c25
          first | omega | contradiction
      · refine q_iload_n (show mE (mtv 103) 23 = some (.iload_n 2, 1, 0, 0) from rfl) (hl16 2 _ rfl) ?_
        refine q_if_ne (t := 37) (show mE (mtv 103) 24 = some (.ifCond .ne 13, 3, 0, 0) from rfl) rfl (fun c33 => ?_) (fun c33 => ?_)
        · refine q_aload_n (show mE (mtv 103) 37 = some (.aload_n 0, 1, 0, 0) from rfl) (hl16 0 _ rfl) ?_
          refine q_iload_n (show mE (mtv 103) 38 = some (.iload_n 2, 1, 0, 0) from rfl) (hl16 2 _ rfl) ?_
          refine q_iload_n (show mE (mtv 103) 39 = some (.iload_n 1, 1, 0, 0) from rfl) (hl16 1 _ rfl) ?_
          refine q_iconst (show mE (mtv 103) 40 = some (.iconst (-1), 1, 0, 0) from rfl) kI_m1 ?_
          refine q_virtualE (show mE (mtv 103) 41 = some (.invokevirtual 227, 3, 83, 8) from rfl) (by decide) rfl rfl rfl (fun _ g => sp_83 th g) ?_
          rintro _ ⟨v38, j34, K39, h35, rfl, t36, e37⟩
          refine qK_v ?_
          have ag40 : agS j34 I := srS e37
          refine q_lstore_n (show mE (mtv 103) 44 = some (.lstore_n 3, 1, 0, 0) from rfl) (Nat.le_of_ble_eq_true rfl) hl16 (fun lv41 (hl42 : qLs lv41 [some (.ref (0)), some (.int (a1)), some (.int (G_104 I R (a1) 0 ((0 : Int32)) ((I 0 10)).toNatClampNeg)), some (.long (v38)), none]) => ?_)
          refine q_aload_n (show mE (mtv 103) 45 = some (.aload_n 0, 1, 0, 0) from rfl) (hl42 0 _ rfl) ?_
          refine q_lload_n (show mE (mtv 103) 46 = some (.lload_n 3, 1, 0, 0) from rfl) (hl42 3 _ rfl) ?_
          refine q_virtualI (show mE (mtv 103) 47 = some (.invokevirtual 231, 3, 96, 8) from rfl) (by decide) rfl rfl rfl (fun _ => ?_)
          have hl43 : qLs (lv_args 0 [.ref (0), .long (v38)]) [some (.ref (0)), some (.long (v38)), none] := qLs_ar 0
          refine q_lload_n (show mE (mtv 96) 0 = some (.lload_n 1, 1, 0, 0) from rfl) (hl43 1 _ rfl) ?_
          refine q_lconst (show mE (mtv 96) 1 = some (.lconst 0, 1, 0, 0) from rfl) kL_0 ?_
          refine q_lcmp (show mE (mtv 96) 2 = some (.lcmp, 1, 0, 0) from rfl) ?_
          refine q_ifl_ne (t := 17) (show mE (mtv 96) 3 = some (.ifCond .ne 14, 3, 0, 0) from rfl) rfl (fun c44 => ?_) (fun c44 => ?_)
          · refine q_return_ (show mE (mtv 96) 17 = some (.return_, 1, 0, 0) from rfl) ?_
            refine qK_n ?_
            refine q_aload_n (show mE (mtv 103) 50 = some (.aload_n 0, 1, 0, 0) from rfl) (hl42 0 _ rfl) ?_
            refine q_virtualI (show mE (mtv 103) 51 = some (.invokevirtual 151, 3, 57, 8) from rfl) (by decide) rfl rfl rfl (fun _ => ?_)
            have hl45 : qLs (lv_args 0 [.ref (0)]) [some (.ref (0))] := qLs_ar 0
            refine q_aload_n (show mE (mtv 57) 0 = some (.aload_n 0, 1, 0, 0) from rfl) (hl45 0 _ rfl) ?_
            refine q_getI t36 (show mE (mtv 57) 1 = some (.getfield 88, 3, 8, 9) from rfl) (by decide) rfl ?_
            refine q_bipush (show mE (mtv 57) 4 = some (.bipush 16, 2, 0, 0) from rfl) kB_16 ?_
            refine q_ic_lt (t := 20) (show mE (mtv 57) 6 = some (.if_icmp .lt 14, 3, 0, 0) from rfl) rfl (fun c46 => ?_) (fun c46 => ?_)
            · refine q_return_ (show mE (mtv 57) 20 = some (.return_, 1, 0, 0) from rfl) ?_
              refine qK_n ?_
              refine q_aload_n (show mE (mtv 103) 54 = some (.aload_n 0, 1, 0, 0) from rfl) (hl42 0 _ rfl) ?_
              refine q_iload_n (show mE (mtv 103) 55 = some (.iload_n 2, 1, 0, 0) from rfl) (hl42 2 _ rfl) ?_
              refine q_iload_n (show mE (mtv 103) 56 = some (.iload_n 1, 1, 0, 0) from rfl) (hl42 1 _ rfl) ?_
              refine q_iconst (show mE (mtv 103) 57 = some (.iconst 0, 1, 0, 0) from rfl) kI_0 ?_
              refine q_virtualE (show mE (mtv 103) 58 = some (.invokevirtual 254, 3, 98, 8) from rfl) (by decide) rfl rfl rfl (fun _ g => sp_98 t36 g) ?_
              rintro _ ⟨j47, h48, rfl, t49, e50⟩
              refine qK_n ?_
              refine q_aload_n (show mE (mtv 103) 61 = some (.aload_n 0, 1, 0, 0) from rfl) (hl42 0 _ rfl) ?_
              refine q_lload_n (show mE (mtv 103) 62 = some (.lload_n 3, 1, 0, 0) from rfl) (hl42 3 _ rfl) ?_
              refine q_iload_n (show mE (mtv 103) 63 = some (.iload_n 2, 1, 0, 0) from rfl) (hl42 2 _ rfl) ?_
              refine q_virtualI (show mE (mtv 103) 64 = some (.invokevirtual 235, 3, 97, 8) from rfl) (by decide) rfl rfl rfl (fun _ => ?_)
              have hl51 : qLs (lv_args 0 [.ref (0), .long (v38), .int (G_104 I R (a1) 0 ((0 : Int32)) ((I 0 10)).toNatClampNeg)]) [some (.ref (0)), some (.long (v38)), none, some (.int (G_104 I R (a1) 0 ((0 : Int32)) ((I 0 10)).toNatClampNeg)), none] := qLs_ar 1
              refine q_aload_n (show mE (mtv 97) 0 = some (.aload_n 0, 1, 0, 0) from rfl) (hl51 0 _ rfl) ?_
              refine q_lload_n (show mE (mtv 97) 1 = some (.lload_n 1, 1, 0, 0) from rfl) (hl51 1 _ rfl) ?_
              refine q_virtualI (show mE (mtv 97) 2 = some (.invokevirtual 154, 3, 58, 8) from rfl) (by decide) rfl rfl rfl (fun _ => ?_)
              have hl52 : qLs (lv_args 0 [.ref (0), .long (v38)]) [some (.ref (0)), some (.long (v38)), none, none] := qLs_ar 1
              refine q_aload_n (show mE (mtv 58) 0 = some (.aload_n 0, 1, 0, 0) from rfl) (hl52 0 _ rfl) ?_
              refine q_getI t49 (show mE (mtv 58) 1 = some (.getfield 88, 3, 8, 9) from rfl) (by decide) rfl ?_
              refine q_istore_n (show mE (mtv 58) 4 = some (.istore_n 3, 1, 0, 0) from rfl) (Nat.le_of_ble_eq_true rfl) hl52 (fun lv53 (hl54 : qLs lv53 [some (.ref (0)), some (.long (v38)), none, some (.int (j47 0 9))]) => ?_)
              refine q_aload_n (show mE (mtv 58) 5 = some (.aload_n 0, 1, 0, 0) from rfl) (hl54 0 _ rfl) ?_
              refine q_getR (m := 12) t49 (show mE (mtv 58) 6 = some (.getfield 25, 3, 8, 2) from rfl) (by decide) rfl rfl ?_
              refine q_iload_n (show mE (mtv 58) 9 = some (.iload_n 3, 1, 0, 0) from rfl) (hl54 3 _ rfl) ?_
              refine q_aaload (n := 16) (t := 4) (m := 19) t49 (show mE (mtv 58) 10 = some (.aaload, 1, 0, 0) from rfl) (by decide) rfl (fun _ _ => rfl) (fun bb55 => ?_)
              refine q_lload_n (show mE (mtv 58) 11 = some (.lload_n 1, 1, 0, 0) from rfl) (hl54 1 _ rfl) ?_
              refine q_putL t49 (show mE (mtv 58) 12 = some (.putfield 165, 3, 3, 0) from rfl) (qB bb55 (by decide)) rfl (fun h56 t57 => ?_)
              refine q_aload_n (show mE (mtv 58) 15 = some (.aload_n 0, 1, 0, 0) from rfl) (hl54 0 _ rfl) ?_
              refine q_getR (m := 12) t57 (show mE (mtv 58) 16 = some (.getfield 25, 3, 8, 2) from rfl) (by decide) rfl rfl ?_
              refine q_iload_n (show mE (mtv 58) 19 = some (.iload_n 3, 1, 0, 0) from rfl) (hl54 3 _ rfl) ?_
              refine q_aaload (n := 16) (t := 4) (m := 19) t57 (show mE (mtv 58) 20 = some (.aaload, 1, 0, 0) from rfl) (by decide) rfl (fun _ _ => rfl) (fun bb58 => ?_)
              refine q_aload_n (show mE (mtv 58) 21 = some (.aload_n 0, 1, 0, 0) from rfl) (hl54 0 _ rfl) ?_
              refine q_getR (m := 1) t57 (show mE (mtv 58) 22 = some (.getfield 10, 3, 8, 0) from rfl) (by decide) rfl rfl ?_
              refine q_getI t57 (show mE (mtv 58) 25 = some (.getfield 260, 3, 4, 4) from rfl) (by decide) rfl ?_
              refine q_putI t57 (show mE (mtv 58) 28 = some (.putfield 263, 3, 3, 1) from rfl) (qB bb58 (by decide)) rfl (fun h59 t60 => ?_)
              refine q_aload_n (show mE (mtv 58) 31 = some (.aload_n 0, 1, 0, 0) from rfl) (hl54 0 _ rfl) ?_
              refine q_getR (m := 12) t60 (show mE (mtv 58) 32 = some (.getfield 25, 3, 8, 2) from rfl) (by decide) rfl rfl ?_
              refine q_iload_n (show mE (mtv 58) 35 = some (.iload_n 3, 1, 0, 0) from rfl) (hl54 3 _ rfl) ?_
              refine q_aaload (n := 16) (t := 4) (m := 19) t60 (show mE (mtv 58) 36 = some (.aaload, 1, 0, 0) from rfl) (by decide) rfl (fun _ _ => rfl) (fun bb61 => ?_)
              refine q_iconst (show mE (mtv 58) 37 = some (.iconst 1, 1, 0, 0) from rfl) kI_1 ?_
              refine q_iload_n (show mE (mtv 58) 38 = some (.iload_n 3, 1, 0, 0) from rfl) (hl54 3 _ rfl) ?_
              refine q_ishl (show mE (mtv 58) 39 = some (.ishl, 1, 0, 0) from rfl) ?_
              refine q_putI t60 (show mE (mtv 58) 40 = some (.putfield 372, 3, 3, 3) from rfl) (qB bb61 (by decide)) rfl (fun h62 t63 => ?_)
              refine q_aload_n (show mE (mtv 58) 43 = some (.aload_n 0, 1, 0, 0) from rfl) (hl54 0 _ rfl) ?_
              refine q_iload_n (show mE (mtv 58) 44 = some (.iload_n 3, 1, 0, 0) from rfl) (hl54 3 _ rfl) ?_
              refine q_iconst (show mE (mtv 58) 45 = some (.iconst 1, 1, 0, 0) from rfl) kI_1 ?_
              refine q_iadd (show mE (mtv 58) 46 = some (.iadd, 1, 0, 0) from rfl) ?_
              refine q_putI t63 (show mE (mtv 58) 47 = some (.putfield 88, 3, 8, 9) from rfl) (by decide) rfl (fun h64 t65 => ?_)
              refine q_iload_n (show mE (mtv 58) 50 = some (.iload_n 3, 1, 0, 0) from rfl) (hl54 3 _ rfl) ?_
              refine q_ireturn (show mE (mtv 58) 51 = some (.ireturn, 1, 0, 0) from rfl) ?_
              refine qK_v ?_
              refine q_istore (show mE (mtv 97) 5 = some (.istore 4, 2, 0, 0) from rfl) (Nat.le_of_ble_eq_true rfl) hl51 (fun lv66 (hl67 : qLs lv66 [some (.ref (0)), some (.long (v38)), none, some (.int (G_104 I R (a1) 0 ((0 : Int32)) ((I 0 10)).toNatClampNeg)), some (.int (j47 0 9))]) => ?_)
              refine q_aload_n (show mE (mtv 97) 7 = some (.aload_n 0, 1, 0, 0) from rfl) (hl67 0 _ rfl) ?_
              refine q_iload_n (show mE (mtv 97) 8 = some (.iload_n 3, 1, 0, 0) from rfl) (hl67 3 _ rfl) ?_
              refine q_iload (show mE (mtv 97) 9 = some (.iload 4, 2, 0, 0) from rfl) (hl67 4 _ rfl) ?_
              refine q_iconst (show mE (mtv 97) 11 = some (.iconst 1, 1, 0, 0) from rfl) kI_1 ?_
              refine q_virtualE (show mE (mtv 97) 12 = some (.invokevirtual 254, 3, 98, 8) from rfl) (by decide) rfl rfl rfl (fun _ g => sp_98 t65 g) ?_
              rintro _ ⟨j68, h69, rfl, t70, e71⟩
              refine qK_n ?_
              refine q_iload (show mE (mtv 97) 15 = some (.iload 4, 2, 0, 0) from rfl) (hl67 4 _ rfl) ?_
              refine q_ireturn (show mE (mtv 97) 17 = some (.ireturn, 1, 0, 0) from rfl) ?_
              refine qK_v ?_
              refine q_ireturn (show mE (mtv 103) 67 = some (.ireturn, 1, 0, 0) from rfl) ?_
              refine qKh_v ?_
              refine q_i2l (show mE (mtv 102) 7 = some (.i2l, 1, 0, 0) from rfl) ?_
              refine q_lastore (n := 1) t70 (show mE (mtv 102) 8 = some (.lastore, 1, 0, 0) from rfl) (by decide) rfl (fun bb72 h73 t74 => ?_)
              refine q_goto (t := 24) (show mE (mtv 102) 9 = some (.goto 15, 3, 0, 0) from rfl) rfl ?_
              refine q_iconst (show mE (mtv 102) 24 = some (.iconst 0, 1, 0, 0) from rfl) kI_0 ?_
              refine q_ireturn (show mE (mtv 102) 25 = some (.ireturn, 1, 0, 0) from rfl) ?_
              intro r75 g76
              have g76 : qGo 249 [.ref (85), .int (a1)] h73 r75 := g76
              refine qGo_w (Q := fun r2 => opE (.inl (some (.int ((0 : Int32))))) r2.1 r2.2 RK) g76 (fun _ => ?_)
              have hl77 : qLs (lv_args 0 [.ref (85), .int (a1)]) [some (.ref (85)), some (.int (a1)), none] := qLs_ar 1
              refine q_aload_n (show mE (mtv 249) 0 = some (.aload_n 0, 1, 0, 0) from rfl) (hl77 0 _ rfl) ?_
              refine q_aload_n (show mE (mtv 249) 1 = some (.aload_n 0, 1, 0, 0) from rfl) (hl77 0 _ rfl) ?_
              refine q_iload_n (show mE (mtv 249) 2 = some (.iload_n 1, 1, 0, 0) from rfl) (hl77 1 _ rfl) ?_
              refine q_virtualI (show mE (mtv 249) 3 = some (.invokevirtual 175, 3, 220, 9) from rfl) (by decide) rfl rfl rfl (fun _ => ?_)
              have hl78 : qLs (lv_args 0 [.ref (85), .int (a1)]) [some (.ref (85)), some (.int (a1))] := qLs_ar 0
              refine q_iload_n (show mE (mtv 220) 0 = some (.iload_n 1, 1, 0, 0) from rfl) (hl78 1 _ rfl) ?_
              refine q_iconst (show mE (mtv 220) 1 = some (.iconst 0, 1, 0, 0) from rfl) kI_0 ?_
              refine q_aload_n (show mE (mtv 220) 2 = some (.aload_n 0, 1, 0, 0) from rfl) (hl78 0 _ rfl) ?_
              refine q_getI t74 (show mE (mtv 220) 3 = some (.getfield 117, 3, 9, 35) from rfl) (by decide) rfl ?_
              refine q_iconst (show mE (mtv 220) 6 = some (.iconst 1, 1, 0, 0) from rfl) kI_1 ?_
              refine q_isub (show mE (mtv 220) 7 = some (.isub, 1, 0, 0) from rfl) ?_
              refine q_staticP (show mE (mtv 220) 8 = some (.invokestatic 157, 3, 211, 0) from rfl) (by decide) rfl rfl rfl (fun _ g => sp_211 g) ?_
              refine q_ireturn (show mE (mtv 220) 11 = some (.ireturn, 1, 0, 0) from rfl) ?_
              refine qK_v ?_
              refine q_ifb_ne (t := 13) (show mE (mtv 249) 6 = some (.ifCond .ne 7, 3, 0, 0) from rfl) rfl (fun c79 => ?_) (fun c79 => ?_)
              · refine q_aload_n (show mE (mtv 249) 13 = some (.aload_n 0, 1, 0, 0) from rfl) (hl77 0 _ rfl) ?_
                refine q_getR (m := 92) t74 (show mE (mtv 249) 14 = some (.getfield 28, 3, 9, 6) from rfl) (by decide) rfl rfl ?_
                refine q_iload_n (show mE (mtv 249) 17 = some (.iload_n 1, 1, 0, 0) from rfl) (hl77 1 _ rfl) ?_
                refine q_baload (n := 16) t74 (show mE (mtv 249) 18 = some (.baload, 1, 0, 0) from rfl) (by decide) rfl (fun bb80 => ?_)
                refine q_if_eq (t := 31) (show mE (mtv 249) 19 = some (.ifCond .eq 12, 3, 0, 0) from rfl) rfl (fun c81 => ?_) (fun c81 => ?_)
                · refine q_iconst (show mE (mtv 249) 31 = some (.iconst 2, 1, 0, 0) from rfl) kI_2 ?_
                  refine q_goto (t := 36) (show mE (mtv 249) 32 = some (.goto 4, 3, 0, 0) from rfl) rfl ?_
                  refine q_putI t74 (show mE (mtv 249) 36 = some (.putfield 138, 3, 9, 42) from rfl) (by decide) rfl (fun h82 t83 => ?_)
                  refine q_aload_n (show mE (mtv 249) 39 = some (.aload_n 0, 1, 0, 0) from rfl) (hl77 0 _ rfl) ?_
                  refine q_getIe t83 (show mE (mtv 249) 40 = some (.getfield 138, 3, 9, 42) from rfl) (by decide) rfl (upI_s) ?_
                  refine q_iff (t := 48) (show mE (mtv 249) 43 = some (.ifCond .le 5, 3, 0, 0) from rfl) (by decide) rfl ?_
                  refine q_iconst (show mE (mtv 249) 46 = some (.iconst 0, 1, 0, 0) from rfl) kI_0 ?_
                  refine q_ireturn (show mE (mtv 249) 47 = some (.ireturn, 1, 0, 0) from rfl) ?_
                  exact (p1 c3 c14 bb17 z18 c19 c33 v38 j34 K39 e37 c44 c46 j47 e50 bb55 j68 e71 bb72 c79 c81).elim
                · refine q_aload_n (show mE (mtv 249) 22 = some (.aload_n 0, 1, 0, 0) from rfl) (hl77 0 _ rfl) ?_
                  refine q_getR (m := 88) t74 (show mE (mtv 249) 23 = some (.getfield 16, 3, 9, 2) from rfl) (by decide) rfl rfl ?_
                  refine q_iload_n (show mE (mtv 249) 26 = some (.iload_n 1, 1, 0, 0) from rfl) (hl77 1 _ rfl) ?_
                  refine q_iaload (n := 16) t74 (show mE (mtv 249) 27 = some (.iaload, 1, 0, 0) from rfl) (by decide) rfl (fun bb84 => ?_)
                  refine q_if_ne (t := 35) (show mE (mtv 249) 28 = some (.ifCond .ne 7, 3, 0, 0) from rfl) rfl (fun c85 => ?_) (fun c85 => ?_)
                  · refine q_iconst (show mE (mtv 249) 35 = some (.iconst 0, 1, 0, 0) from rfl) kI_0 ?_
                    refine q_putI t74 (show mE (mtv 249) 36 = some (.putfield 138, 3, 9, 42) from rfl) (by decide) rfl (fun h86 t87 => ?_)
                    refine q_aload_n (show mE (mtv 249) 39 = some (.aload_n 0, 1, 0, 0) from rfl) (hl77 0 _ rfl) ?_
                    refine q_getIe t87 (show mE (mtv 249) 40 = some (.getfield 138, 3, 9, 42) from rfl) (by decide) rfl (upI_s) ?_
                    refine q_ift (t := 48) (show mE (mtv 249) 43 = some (.ifCond .le 5, 3, 0, 0) from rfl) (by decide) rfl ?_
                    refine q_aload_n (show mE (mtv 249) 48 = some (.aload_n 0, 1, 0, 0) from rfl) (hl77 0 _ rfl) ?_
                    refine q_getR (m := 88) t87 (show mE (mtv 249) 49 = some (.getfield 16, 3, 9, 2) from rfl) (by decide) rfl rfl ?_
                    refine q_iload_n (show mE (mtv 249) 52 = some (.iload_n 1, 1, 0, 0) from rfl) (hl77 1 _ rfl) ?_
                    refine q_iaload (n := 16) t87 (show mE (mtv 249) 53 = some (.iaload, 1, 0, 0) from rfl) (by decide) rfl (fun bb88 => ?_)
                    have g89 : (upI j68 85 42 (0 : Int32)) 88 (a1).toNatClampNeg = j68 88 ((a1).toNatClampNeg) := upI_n (Or.inl (by decide))
                    rw [g89]; clear g89
                    refine q_istore_n (show mE (mtv 249) 54 = some (.istore_n 2, 1, 0, 0) from rfl) (Nat.le_of_ble_eq_true rfl) hl77 (fun lv90 (hl91 : qLs lv90 [some (.ref (85)), some (.int (a1)), some (.int (j68 88 ((a1).toNatClampNeg)))]) => ?_)
                    refine q_aload_n (show mE (mtv 249) 55 = some (.aload_n 0, 1, 0, 0) from rfl) (hl91 0 _ rfl) ?_
                    refine q_getR (m := 88) t87 (show mE (mtv 249) 56 = some (.getfield 16, 3, 9, 2) from rfl) (by decide) rfl rfl ?_
                    refine q_iload_n (show mE (mtv 249) 59 = some (.iload_n 1, 1, 0, 0) from rfl) (hl91 1 _ rfl) ?_
                    refine q_iconst (show mE (mtv 249) 60 = some (.iconst 0, 1, 0, 0) from rfl) kI_0 ?_
                    refine q_iastore (n := 16) t87 (show mE (mtv 249) 61 = some (.iastore, 1, 0, 0) from rfl) (by decide) rfl (fun bb92 h93 t94 => ?_)
                    refine q_aload_n (show mE (mtv 249) 62 = some (.aload_n 0, 1, 0, 0) from rfl) (hl91 0 _ rfl) ?_
                    refine q_aload_n (show mE (mtv 249) 63 = some (.aload_n 0, 1, 0, 0) from rfl) (hl91 0 _ rfl) ?_
                    refine q_iload_n (show mE (mtv 249) 64 = some (.iload_n 2, 1, 0, 0) from rfl) (hl91 2 _ rfl) ?_
                    refine q_iconst (show mE (mtv 249) 65 = some (.iconst (-1), 1, 0, 0) from rfl) kI_m1 ?_
                    refine q_virtualE (show mE (mtv 249) 66 = some (.invokevirtual 227, 3, 239, 9) from rfl) (by decide) rfl rfl rfl (fun _ g => sp_239 t94 g) ?_
                    rintro _ ⟨v99, j95, h96, rfl, t97, e98⟩
                    refine qK_v ?_
                    refine q_if_ne (t := 76) (show mE (mtv 249) 69 = some (.ifCond .ne 7, 3, 0, 0) from rfl) rfl (fun c100 => ?_) (fun c100 => ?_)
                    · refine q_aload_n (show mE (mtv 249) 76 = some (.aload_n 0, 1, 0, 0) from rfl) (hl91 0 _ rfl) ?_
                      refine q_getI t97 (show mE (mtv 249) 77 = some (.getfield 117, 3, 9, 35) from rfl) (by decide) rfl ?_
                      refine q_bipush (show mE (mtv 249) 80 = some (.bipush 16, 2, 0, 0) from rfl) kB_16 ?_
                      refine q_ic_ne (t := 89) (show mE (mtv 249) 82 = some (.if_icmp .ne 7, 3, 0, 0) from rfl) rfl (fun c101 => ?_) (fun c101 => ?_)
                      · refine q_iconst (show mE (mtv 249) 89 = some (.iconst 0, 1, 0, 0) from rfl) kI_0 ?_
                        refine q_putI t97 (show mE (mtv 249) 90 = some (.putfield 138, 3, 9, 42) from rfl) (by decide) rfl (fun h102 t103 => ?_)
                        refine q_aload_n (show mE (mtv 249) 93 = some (.aload_n 0, 1, 0, 0) from rfl) (hl91 0 _ rfl) ?_
                        refine q_getIe t103 (show mE (mtv 249) 94 = some (.getfield 138, 3, 9, 42) from rfl) (by decide) rfl (upI_s) ?_
                        refine q_iff (t := 106) (show mE (mtv 249) 97 = some (.ifCond .ne 9, 3, 0, 0) from rfl) (by decide) rfl ?_
                        refine q_aload_n (show mE (mtv 249) 100 = some (.aload_n 0, 1, 0, 0) from rfl) (hl91 0 _ rfl) ?_
                        refine q_iload_n (show mE (mtv 249) 101 = some (.iload_n 2, 1, 0, 0) from rfl) (hl91 2 _ rfl) ?_
                        refine q_virtualE (show mE (mtv 249) 102 = some (.invokevirtual 172, 3, 218, 9) from rfl) (by decide) rfl rfl rfl (fun _ g => sp_218 t103 g) ?_
                        rintro _ ⟨v108, j104, h105, rfl, t106, e107⟩
                        refine qK_v ?_
                        refine q_ireturn (show mE (mtv 249) 105 = some (.ireturn, 1, 0, 0) from rfl) ?_
                        exact ⟨(0 : Int32), v108, _, _, _, rfl, rfl, t106, ((p2 c3 c14 bb17 z18 c19 c33 v38 j34 K39 e37 c44 c46 j47 e50 bb55 j68 e71 bb72 c79 c81 c85 v99 j95 e98 c100 c101 v108 j104 e107)).1, (fun _ => (p2 c3 c14 bb17 z18 c19 c33 v38 j34 K39 e37 c44 c46 j47 e50 bb55 j68 e71 bb72 c79 c81 c85 v99 j95 e98 c100 c101 v108 j104 e107).2.1), (p2 c3 c14 bb17 z18 c19 c33 v38 j34 K39 e37 c44 c46 j47 e50 bb55 j68 e71 bb72 c79 c81 c85 v99 j95 e98 c100 c101 v108 j104 e107).2.2⟩
                      · refine q_iconst (show mE (mtv 249) 85 = some (.iconst 4, 1, 0, 0) from rfl) kI_4 ?_
                        refine q_goto (t := 90) (show mE (mtv 249) 86 = some (.goto 4, 3, 0, 0) from rfl) rfl ?_
                        refine q_putI t97 (show mE (mtv 249) 90 = some (.putfield 138, 3, 9, 42) from rfl) (by decide) rfl (fun h109 t110 => ?_)
                        refine q_aload_n (show mE (mtv 249) 93 = some (.aload_n 0, 1, 0, 0) from rfl) (hl91 0 _ rfl) ?_
                        refine q_getIe t110 (show mE (mtv 249) 94 = some (.getfield 138, 3, 9, 42) from rfl) (by decide) rfl (upI_s) ?_
                        refine q_ift (t := 106) (show mE (mtv 249) 97 = some (.ifCond .ne 9, 3, 0, 0) from rfl) (by decide) rfl ?_
                        refine q_aload_n (show mE (mtv 249) 106 = some (.aload_n 0, 1, 0, 0) from rfl) (hl91 0 _ rfl) ?_
                        refine q_getR (m := 88) t110 (show mE (mtv 249) 107 = some (.getfield 16, 3, 9, 2) from rfl) (by decide) rfl rfl ?_
                        refine q_iload_n (show mE (mtv 249) 110 = some (.iload_n 1, 1, 0, 0) from rfl) (hl91 1 _ rfl) ?_
                        refine q_iload_n (show mE (mtv 249) 111 = some (.iload_n 2, 1, 0, 0) from rfl) (hl91 2 _ rfl) ?_
                        refine q_iastore (n := 16) t110 (show mE (mtv 249) 112 = some (.iastore, 1, 0, 0) from rfl) (by decide) rfl (fun bb111 h112 t113 => ?_)
                        refine q_iconst (show mE (mtv 249) 113 = some (.iconst 0, 1, 0, 0) from rfl) kI_0 ?_
                        refine q_ireturn (show mE (mtv 249) 114 = some (.ireturn, 1, 0, 0) from rfl) ?_
                        exact (p3 c3 c14 bb17 z18 c19 c33 v38 j34 K39 e37 c44 c46 j47 e50 bb55 j68 e71 bb72 c79 c81 c85 v99 j95 e98 c100 c101).elim
                    · refine q_iconst (show mE (mtv 249) 72 = some (.iconst 3, 1, 0, 0) from rfl) kI_3 ?_
                      refine q_goto (t := 90) (show mE (mtv 249) 73 = some (.goto 17, 3, 0, 0) from rfl) rfl ?_
                      refine q_putI t97 (show mE (mtv 249) 90 = some (.putfield 138, 3, 9, 42) from rfl) (by decide) rfl (fun h114 t115 => ?_)
                      refine q_aload_n (show mE (mtv 249) 93 = some (.aload_n 0, 1, 0, 0) from rfl) (hl91 0 _ rfl) ?_
                      refine q_getIe t115 (show mE (mtv 249) 94 = some (.getfield 138, 3, 9, 42) from rfl) (by decide) rfl (upI_s) ?_
                      refine q_ift (t := 106) (show mE (mtv 249) 97 = some (.ifCond .ne 9, 3, 0, 0) from rfl) (by decide) rfl ?_
                      refine q_aload_n (show mE (mtv 249) 106 = some (.aload_n 0, 1, 0, 0) from rfl) (hl91 0 _ rfl) ?_
                      refine q_getR (m := 88) t115 (show mE (mtv 249) 107 = some (.getfield 16, 3, 9, 2) from rfl) (by decide) rfl rfl ?_
                      refine q_iload_n (show mE (mtv 249) 110 = some (.iload_n 1, 1, 0, 0) from rfl) (hl91 1 _ rfl) ?_
                      refine q_iload_n (show mE (mtv 249) 111 = some (.iload_n 2, 1, 0, 0) from rfl) (hl91 2 _ rfl) ?_
                      refine q_iastore (n := 16) t115 (show mE (mtv 249) 112 = some (.iastore, 1, 0, 0) from rfl) (by decide) rfl (fun bb116 h117 t118 => ?_)
                      refine q_iconst (show mE (mtv 249) 113 = some (.iconst 0, 1, 0, 0) from rfl) kI_0 ?_
                      refine q_ireturn (show mE (mtv 249) 114 = some (.ireturn, 1, 0, 0) from rfl) ?_
                      exact (p4 c3 c14 bb17 z18 c19 c33 v38 j34 K39 e37 c44 c46 j47 e50 bb55 j68 e71 bb72 c79 c81 c85 v99 j95 e98 c100).elim
                  · refine q_iconst (show mE (mtv 249) 31 = some (.iconst 2, 1, 0, 0) from rfl) kI_2 ?_
                    refine q_goto (t := 36) (show mE (mtv 249) 32 = some (.goto 4, 3, 0, 0) from rfl) rfl ?_
                    refine q_putI t74 (show mE (mtv 249) 36 = some (.putfield 138, 3, 9, 42) from rfl) (by decide) rfl (fun h119 t120 => ?_)
                    refine q_aload_n (show mE (mtv 249) 39 = some (.aload_n 0, 1, 0, 0) from rfl) (hl77 0 _ rfl) ?_
                    refine q_getIe t120 (show mE (mtv 249) 40 = some (.getfield 138, 3, 9, 42) from rfl) (by decide) rfl (upI_s) ?_
                    refine q_iff (t := 48) (show mE (mtv 249) 43 = some (.ifCond .le 5, 3, 0, 0) from rfl) (by decide) rfl ?_
                    refine q_iconst (show mE (mtv 249) 46 = some (.iconst 0, 1, 0, 0) from rfl) kI_0 ?_
                    refine q_ireturn (show mE (mtv 249) 47 = some (.ireturn, 1, 0, 0) from rfl) ?_
                    exact (p5 c3 c14 bb17 z18 c19 c33 v38 j34 K39 e37 c44 c46 j47 e50 bb55 j68 e71 bb72 c79 c81 c85).elim
              · refine q_iconst (show mE (mtv 249) 9 = some (.iconst 1, 1, 0, 0) from rfl) kI_1 ?_
                refine q_goto (t := 36) (show mE (mtv 249) 10 = some (.goto 26, 3, 0, 0) from rfl) rfl ?_
                refine q_putI t74 (show mE (mtv 249) 36 = some (.putfield 138, 3, 9, 42) from rfl) (by decide) rfl (fun h121 t122 => ?_)
                refine q_aload_n (show mE (mtv 249) 39 = some (.aload_n 0, 1, 0, 0) from rfl) (hl77 0 _ rfl) ?_
                refine q_getIe t122 (show mE (mtv 249) 40 = some (.getfield 138, 3, 9, 42) from rfl) (by decide) rfl (upI_s) ?_
                refine q_iff (t := 48) (show mE (mtv 249) 43 = some (.ifCond .le 5, 3, 0, 0) from rfl) (by decide) rfl ?_
                refine q_iconst (show mE (mtv 249) 46 = some (.iconst 0, 1, 0, 0) from rfl) kI_0 ?_
                refine q_ireturn (show mE (mtv 249) 47 = some (.ireturn, 1, 0, 0) from rfl) ?_
                exact (p6 c3 c14 bb17 z18 c19 c33 v38 j34 K39 e37 c44 c46 j47 e50 bb55 j68 e71 bb72 c79).elim
            · refine q_throw (show mE (mtv 57) 9 = some (.new 126, 3, 1001, 0) from rfl) (by decide) ?_
              refine qK_x ?_
              refine qKh_x (hp := 21) (c := (22, sDr 3 (lv_args 0 [.ref (0), .int (a1), .ref (117)]), [], h35)) rfl (by decide) (fun _ _ => rfl) ?_
              refine q_iconst (show mE (mtv 102) 22 = some (.iconst 4, 1, 0, 0) from rfl) kI_4 ?_
              refine q_ireturn (show mE (mtv 102) 23 = some (.ireturn, 1, 0, 0) from rfl) ?_
              intro r123 g124
              have g124 : qGo 249 [.ref (85), .int (a1)] h35 r123 := g124
              refine qGo_w (Q := fun r2 => opE (.inl (some (.int ((4 : Int32))))) r2.1 r2.2 RK) g124 (fun _ => ?_)
              have hl125 : qLs (lv_args 0 [.ref (85), .int (a1)]) [some (.ref (85)), some (.int (a1)), none] := qLs_ar 1
              refine q_aload_n (show mE (mtv 249) 0 = some (.aload_n 0, 1, 0, 0) from rfl) (hl125 0 _ rfl) ?_
              refine q_aload_n (show mE (mtv 249) 1 = some (.aload_n 0, 1, 0, 0) from rfl) (hl125 0 _ rfl) ?_
              refine q_iload_n (show mE (mtv 249) 2 = some (.iload_n 1, 1, 0, 0) from rfl) (hl125 1 _ rfl) ?_
              refine q_virtualI (show mE (mtv 249) 3 = some (.invokevirtual 175, 3, 220, 9) from rfl) (by decide) rfl rfl rfl (fun _ => ?_)
              have hl126 : qLs (lv_args 0 [.ref (85), .int (a1)]) [some (.ref (85)), some (.int (a1))] := qLs_ar 0
              refine q_iload_n (show mE (mtv 220) 0 = some (.iload_n 1, 1, 0, 0) from rfl) (hl126 1 _ rfl) ?_
              refine q_iconst (show mE (mtv 220) 1 = some (.iconst 0, 1, 0, 0) from rfl) kI_0 ?_
              refine q_aload_n (show mE (mtv 220) 2 = some (.aload_n 0, 1, 0, 0) from rfl) (hl126 0 _ rfl) ?_
              refine q_getI t36 (show mE (mtv 220) 3 = some (.getfield 117, 3, 9, 35) from rfl) (by decide) rfl ?_
              have r127 : j34 85 35 = I 85 35 := sc85 ag40 (by decide)
              rw [r127]; clear r127
              have r128 : I 85 35 = I 0 9 := hK.nk.symm
              rw [r128]; clear r128
              refine q_iconst (show mE (mtv 220) 6 = some (.iconst 1, 1, 0, 0) from rfl) kI_1 ?_
              refine q_isub (show mE (mtv 220) 7 = some (.isub, 1, 0, 0) from rfl) ?_
              refine q_staticP (show mE (mtv 220) 8 = some (.invokestatic 157, 3, 211, 0) from rfl) (by decide) rfl rfl rfl (fun _ g => sp_211 g) ?_
              refine q_ireturn (show mE (mtv 220) 11 = some (.ireturn, 1, 0, 0) from rfl) ?_
              refine qK_v ?_
              refine q_ifb_ne (t := 13) (show mE (mtv 249) 6 = some (.ifCond .ne 7, 3, 0, 0) from rfl) rfl (fun c129 => ?_) (fun c129 => ?_)
              · clear c129
                refine q_aload_n (show mE (mtv 249) 13 = some (.aload_n 0, 1, 0, 0) from rfl) (hl125 0 _ rfl) ?_
                refine q_getR (m := 92) t36 (show mE (mtv 249) 14 = some (.getfield 28, 3, 9, 6) from rfl) (by decide) rfl rfl ?_
                refine q_iload_n (show mE (mtv 249) 17 = some (.iload_n 1, 1, 0, 0) from rfl) (hl125 1 _ rfl) ?_
                refine q_baload (n := 16) t36 (show mE (mtv 249) 18 = some (.baload, 1, 0, 0) from rfl) (by decide) rfl (fun bb133 => ?_)
                have r134 : j34 92 ((a1).toNatClampNeg) = I 92 ((a1).toNatClampNeg) := scA ag40 (by decide) (by decide) (by decide) (by decide) (by decide)
                rw [r134]; clear r134
                have r135 : I 92 ((a1).toNatClampNeg) = I (19 + (a1).toNatClampNeg) 2 := hK.kl _ (sIn_lt bb133)
                rw [r135]; clear r135
                refine q_if_eq (t := 31) (show mE (mtv 249) 19 = some (.ifCond .eq 12, 3, 0, 0) from rfl) rfl (fun c136 => ?_) (fun c136 => ?_)
                · exact absurd c136 c19
                · clear c136
                  refine q_aload_n (show mE (mtv 249) 22 = some (.aload_n 0, 1, 0, 0) from rfl) (hl125 0 _ rfl) ?_
                  refine q_getR (m := 88) t36 (show mE (mtv 249) 23 = some (.getfield 16, 3, 9, 2) from rfl) (by decide) rfl rfl ?_
                  refine q_iload_n (show mE (mtv 249) 26 = some (.iload_n 1, 1, 0, 0) from rfl) (hl125 1 _ rfl) ?_
                  refine q_iaload (n := 16) t36 (show mE (mtv 249) 27 = some (.iaload, 1, 0, 0) from rfl) (by decide) rfl (fun bb137 => ?_)
                  have r138 : j34 88 ((a1).toNatClampNeg) = I 88 ((a1).toNatClampNeg) := scA ag40 (by decide) (by decide) (by decide) (by decide) (by decide)
                  rw [r138]; clear r138
                  refine q_if_ne (t := 35) (show mE (mtv 249) 28 = some (.ifCond .ne 7, 3, 0, 0) from rfl) rfl (fun c139 => ?_) (fun c139 => ?_)
                  · refine q_iconst (show mE (mtv 249) 35 = some (.iconst 0, 1, 0, 0) from rfl) kI_0 ?_
                    refine q_putI t36 (show mE (mtv 249) 36 = some (.putfield 138, 3, 9, 42) from rfl) (by decide) rfl (fun h140 t141 => ?_)
                    refine q_aload_n (show mE (mtv 249) 39 = some (.aload_n 0, 1, 0, 0) from rfl) (hl125 0 _ rfl) ?_
                    refine q_getIe t141 (show mE (mtv 249) 40 = some (.getfield 138, 3, 9, 42) from rfl) (by decide) rfl (upI_s) ?_
                    refine q_ift (t := 48) (show mE (mtv 249) 43 = some (.ifCond .le 5, 3, 0, 0) from rfl) (by decide) rfl ?_
                    refine q_aload_n (show mE (mtv 249) 48 = some (.aload_n 0, 1, 0, 0) from rfl) (hl125 0 _ rfl) ?_
                    refine q_getR (m := 88) t141 (show mE (mtv 249) 49 = some (.getfield 16, 3, 9, 2) from rfl) (by decide) rfl rfl ?_
                    refine q_iload_n (show mE (mtv 249) 52 = some (.iload_n 1, 1, 0, 0) from rfl) (hl125 1 _ rfl) ?_
                    refine q_iaload (n := 16) t141 (show mE (mtv 249) 53 = some (.iaload, 1, 0, 0) from rfl) (by decide) rfl (fun bb142 => ?_)
                    have g143 : (upI j34 85 42 (0 : Int32)) 88 (a1).toNatClampNeg = j34 88 ((a1).toNatClampNeg) := upI_n (Or.inl (by decide))
                    rw [g143]; clear g143
                    have r144 : j34 88 ((a1).toNatClampNeg) = I 88 ((a1).toNatClampNeg) := scA ag40 (by decide) (by decide) (by decide) (by decide) (by decide)
                    rw [r144]; clear r144
                    refine q_istore_n (show mE (mtv 249) 54 = some (.istore_n 2, 1, 0, 0) from rfl) (Nat.le_of_ble_eq_true rfl) hl125 (fun lv145 (hl146 : qLs lv145 [some (.ref (85)), some (.int (a1)), some (.int (I 88 ((a1).toNatClampNeg)))]) => ?_)
                    refine q_aload_n (show mE (mtv 249) 55 = some (.aload_n 0, 1, 0, 0) from rfl) (hl146 0 _ rfl) ?_
                    refine q_getR (m := 88) t141 (show mE (mtv 249) 56 = some (.getfield 16, 3, 9, 2) from rfl) (by decide) rfl rfl ?_
                    refine q_iload_n (show mE (mtv 249) 59 = some (.iload_n 1, 1, 0, 0) from rfl) (hl146 1 _ rfl) ?_
                    refine q_iconst (show mE (mtv 249) 60 = some (.iconst 0, 1, 0, 0) from rfl) kI_0 ?_
                    refine q_iastore (n := 16) t141 (show mE (mtv 249) 61 = some (.iastore, 1, 0, 0) from rfl) (by decide) rfl (fun bb147 h148 t149 => ?_)
                    refine q_aload_n (show mE (mtv 249) 62 = some (.aload_n 0, 1, 0, 0) from rfl) (hl146 0 _ rfl) ?_
                    refine q_aload_n (show mE (mtv 249) 63 = some (.aload_n 0, 1, 0, 0) from rfl) (hl146 0 _ rfl) ?_
                    refine q_iload_n (show mE (mtv 249) 64 = some (.iload_n 2, 1, 0, 0) from rfl) (hl146 2 _ rfl) ?_
                    refine q_iconst (show mE (mtv 249) 65 = some (.iconst (-1), 1, 0, 0) from rfl) kI_m1 ?_
                    refine q_virtualE (show mE (mtv 249) 66 = some (.invokevirtual 227, 3, 239, 9) from rfl) (by decide) rfl rfl rfl (fun _ g => sp_239 t149 g) ?_
                    rintro _ ⟨v154, j150, h151, rfl, t152, e153⟩
                    refine qK_v ?_
                    refine q_if_ne (t := 76) (show mE (mtv 249) 69 = some (.ifCond .ne 7, 3, 0, 0) from rfl) rfl (fun c155 => ?_) (fun c155 => ?_)
                    · refine q_aload_n (show mE (mtv 249) 76 = some (.aload_n 0, 1, 0, 0) from rfl) (hl146 0 _ rfl) ?_
                      refine q_getI t152 (show mE (mtv 249) 77 = some (.getfield 117, 3, 9, 35) from rfl) (by decide) rfl ?_
                      refine q_bipush (show mE (mtv 249) 80 = some (.bipush 16, 2, 0, 0) from rfl) kB_16 ?_
                      refine q_ic_ne (t := 89) (show mE (mtv 249) 82 = some (.if_icmp .ne 7, 3, 0, 0) from rfl) rfl (fun c156 => ?_) (fun c156 => ?_)
                      · refine q_iconst (show mE (mtv 249) 89 = some (.iconst 0, 1, 0, 0) from rfl) kI_0 ?_
                        refine q_putI t152 (show mE (mtv 249) 90 = some (.putfield 138, 3, 9, 42) from rfl) (by decide) rfl (fun h157 t158 => ?_)
                        refine q_aload_n (show mE (mtv 249) 93 = some (.aload_n 0, 1, 0, 0) from rfl) (hl146 0 _ rfl) ?_
                        refine q_getIe t158 (show mE (mtv 249) 94 = some (.getfield 138, 3, 9, 42) from rfl) (by decide) rfl (upI_s) ?_
                        refine q_iff (t := 106) (show mE (mtv 249) 97 = some (.ifCond .ne 9, 3, 0, 0) from rfl) (by decide) rfl ?_
                        refine q_aload_n (show mE (mtv 249) 100 = some (.aload_n 0, 1, 0, 0) from rfl) (hl146 0 _ rfl) ?_
                        refine q_iload_n (show mE (mtv 249) 101 = some (.iload_n 2, 1, 0, 0) from rfl) (hl146 2 _ rfl) ?_
                        refine q_virtualE (show mE (mtv 249) 102 = some (.invokevirtual 172, 3, 218, 9) from rfl) (by decide) rfl rfl rfl (fun _ g => sp_218 t158 g) ?_
                        rintro _ ⟨v163, j159, h160, rfl, t161, e162⟩
                        refine qK_v ?_
                        refine q_ireturn (show mE (mtv 249) 105 = some (.ireturn, 1, 0, 0) from rfl) ?_
                        exact ⟨(4 : Int32), v163, _, _, _, rfl, rfl, t161, (p7 c3 c14 bb17 z18 c19 c33 v38 j34 K39 e37 c44 c46 c139 v154 j150 e153 c155 c156 v163 j159 e162).1, (fun e => absurd e (by decide)), (p7 c3 c14 bb17 z18 c19 c33 v38 j34 K39 e37 c44 c46 c139 v154 j150 e153 c155 c156 v163 j159 e162).2⟩
                      · refine q_iconst (show mE (mtv 249) 85 = some (.iconst 4, 1, 0, 0) from rfl) kI_4 ?_
                        refine q_goto (t := 90) (show mE (mtv 249) 86 = some (.goto 4, 3, 0, 0) from rfl) rfl ?_
                        refine q_putI t152 (show mE (mtv 249) 90 = some (.putfield 138, 3, 9, 42) from rfl) (by decide) rfl (fun h164 t165 => ?_)
                        refine q_aload_n (show mE (mtv 249) 93 = some (.aload_n 0, 1, 0, 0) from rfl) (hl146 0 _ rfl) ?_
                        refine q_getIe t165 (show mE (mtv 249) 94 = some (.getfield 138, 3, 9, 42) from rfl) (by decide) rfl (upI_s) ?_
                        refine q_ift (t := 106) (show mE (mtv 249) 97 = some (.ifCond .ne 9, 3, 0, 0) from rfl) (by decide) rfl ?_
                        refine q_aload_n (show mE (mtv 249) 106 = some (.aload_n 0, 1, 0, 0) from rfl) (hl146 0 _ rfl) ?_
                        refine q_getR (m := 88) t165 (show mE (mtv 249) 107 = some (.getfield 16, 3, 9, 2) from rfl) (by decide) rfl rfl ?_
                        refine q_iload_n (show mE (mtv 249) 110 = some (.iload_n 1, 1, 0, 0) from rfl) (hl146 1 _ rfl) ?_
                        refine q_iload_n (show mE (mtv 249) 111 = some (.iload_n 2, 1, 0, 0) from rfl) (hl146 2 _ rfl) ?_
                        refine q_iastore (n := 16) t165 (show mE (mtv 249) 112 = some (.iastore, 1, 0, 0) from rfl) (by decide) rfl (fun bb166 h167 t168 => ?_)
                        refine q_iconst (show mE (mtv 249) 113 = some (.iconst 0, 1, 0, 0) from rfl) kI_0 ?_
                        refine q_ireturn (show mE (mtv 249) 114 = some (.ireturn, 1, 0, 0) from rfl) ?_
                        exact ⟨(4 : Int32), (0 : Int32), _, _, _, rfl, rfl, t168, (upI_n (Or.inl (by decide))).trans (upI_s), (fun e => absurd e (by decide)), p8 c3 c14 bb17 z18 c19 c33 v38 j34 K39 e37 c44 c46 c139 v154 j150 e153 c155 c156⟩
                    · refine q_iconst (show mE (mtv 249) 72 = some (.iconst 3, 1, 0, 0) from rfl) kI_3 ?_
                      refine q_goto (t := 90) (show mE (mtv 249) 73 = some (.goto 17, 3, 0, 0) from rfl) rfl ?_
                      refine q_putI t152 (show mE (mtv 249) 90 = some (.putfield 138, 3, 9, 42) from rfl) (by decide) rfl (fun h169 t170 => ?_)
                      refine q_aload_n (show mE (mtv 249) 93 = some (.aload_n 0, 1, 0, 0) from rfl) (hl146 0 _ rfl) ?_
                      refine q_getIe t170 (show mE (mtv 249) 94 = some (.getfield 138, 3, 9, 42) from rfl) (by decide) rfl (upI_s) ?_
                      refine q_ift (t := 106) (show mE (mtv 249) 97 = some (.ifCond .ne 9, 3, 0, 0) from rfl) (by decide) rfl ?_
                      refine q_aload_n (show mE (mtv 249) 106 = some (.aload_n 0, 1, 0, 0) from rfl) (hl146 0 _ rfl) ?_
                      refine q_getR (m := 88) t170 (show mE (mtv 249) 107 = some (.getfield 16, 3, 9, 2) from rfl) (by decide) rfl rfl ?_
                      refine q_iload_n (show mE (mtv 249) 110 = some (.iload_n 1, 1, 0, 0) from rfl) (hl146 1 _ rfl) ?_
                      refine q_iload_n (show mE (mtv 249) 111 = some (.iload_n 2, 1, 0, 0) from rfl) (hl146 2 _ rfl) ?_
                      refine q_iastore (n := 16) t170 (show mE (mtv 249) 112 = some (.iastore, 1, 0, 0) from rfl) (by decide) rfl (fun bb171 h172 t173 => ?_)
                      refine q_iconst (show mE (mtv 249) 113 = some (.iconst 0, 1, 0, 0) from rfl) kI_0 ?_
                      refine q_ireturn (show mE (mtv 249) 114 = some (.ireturn, 1, 0, 0) from rfl) ?_
                      exact (p9 c3 c14 bb17 z18 c19 c33 v38 j34 K39 e37 c44 c46 c139 v154 j150 e153 c155).elim
                  · refine q_iconst (show mE (mtv 249) 31 = some (.iconst 2, 1, 0, 0) from rfl) kI_2 ?_
                    refine q_goto (t := 36) (show mE (mtv 249) 32 = some (.goto 4, 3, 0, 0) from rfl) rfl ?_
                    refine q_putI t36 (show mE (mtv 249) 36 = some (.putfield 138, 3, 9, 42) from rfl) (by decide) rfl (fun h174 t175 => ?_)
                    refine q_aload_n (show mE (mtv 249) 39 = some (.aload_n 0, 1, 0, 0) from rfl) (hl125 0 _ rfl) ?_
                    refine q_getIe t175 (show mE (mtv 249) 40 = some (.getfield 138, 3, 9, 42) from rfl) (by decide) rfl (upI_s) ?_
                    refine q_iff (t := 48) (show mE (mtv 249) 43 = some (.ifCond .le 5, 3, 0, 0) from rfl) (by decide) rfl ?_
                    refine q_iconst (show mE (mtv 249) 46 = some (.iconst 0, 1, 0, 0) from rfl) kI_0 ?_
                    refine q_ireturn (show mE (mtv 249) 47 = some (.ireturn, 1, 0, 0) from rfl) ?_
                    exact (p10 c3 c14 bb17 z18 c19 c33 v38 j34 K39 e37 c44 c46 c139).elim
              · exfalso
                have s130 := hK.bk
                unfold inR at s130
                have s131 := i32_sub1 (x := I 0 9) (by omega)
                have s132 := hK.bd
                unfold inR at s132
                simp only [s131, Int32.lt_iff_toInt_lt, Int32.le_iff_toInt_le, ← Int32.toInt_inj, kt_0, kt_1, kt_16] at c3 c14 c19 c33 c44 c46 c129
                first | omega | contradiction
          · refine q_throw (show mE (mtv 96) 6 = some (.new 360, 3, 1004, 0) from rfl) (by decide) ?_
            refine qK_x ?_
            refine qKh_x (hp := 18) (c := (19, sDr 3 (lv_args 0 [.ref (0), .int (a1), .ref (117)]), [], h35)) rfl (by decide) (fun _ _ => rfl) ?_
            refine q_iconst (show mE (mtv 102) 19 = some (.iconst 3, 1, 0, 0) from rfl) kI_3 ?_
            refine q_ireturn (show mE (mtv 102) 20 = some (.ireturn, 1, 0, 0) from rfl) ?_
            intro r176 g177
            have g177 : qGo 249 [.ref (85), .int (a1)] h35 r176 := g177
            refine qGo_w (Q := fun r2 => opE (.inl (some (.int ((3 : Int32))))) r2.1 r2.2 RK) g177 (fun _ => ?_)
            have hl178 : qLs (lv_args 0 [.ref (85), .int (a1)]) [some (.ref (85)), some (.int (a1)), none] := qLs_ar 1
            refine q_aload_n (show mE (mtv 249) 0 = some (.aload_n 0, 1, 0, 0) from rfl) (hl178 0 _ rfl) ?_
            refine q_aload_n (show mE (mtv 249) 1 = some (.aload_n 0, 1, 0, 0) from rfl) (hl178 0 _ rfl) ?_
            refine q_iload_n (show mE (mtv 249) 2 = some (.iload_n 1, 1, 0, 0) from rfl) (hl178 1 _ rfl) ?_
            refine q_virtualI (show mE (mtv 249) 3 = some (.invokevirtual 175, 3, 220, 9) from rfl) (by decide) rfl rfl rfl (fun _ => ?_)
            have hl179 : qLs (lv_args 0 [.ref (85), .int (a1)]) [some (.ref (85)), some (.int (a1))] := qLs_ar 0
            refine q_iload_n (show mE (mtv 220) 0 = some (.iload_n 1, 1, 0, 0) from rfl) (hl179 1 _ rfl) ?_
            refine q_iconst (show mE (mtv 220) 1 = some (.iconst 0, 1, 0, 0) from rfl) kI_0 ?_
            refine q_aload_n (show mE (mtv 220) 2 = some (.aload_n 0, 1, 0, 0) from rfl) (hl179 0 _ rfl) ?_
            refine q_getI t36 (show mE (mtv 220) 3 = some (.getfield 117, 3, 9, 35) from rfl) (by decide) rfl ?_
            have r180 : j34 85 35 = I 85 35 := sc85 ag40 (by decide)
            rw [r180]; clear r180
            have r181 : I 85 35 = I 0 9 := hK.nk.symm
            rw [r181]; clear r181
            refine q_iconst (show mE (mtv 220) 6 = some (.iconst 1, 1, 0, 0) from rfl) kI_1 ?_
            refine q_isub (show mE (mtv 220) 7 = some (.isub, 1, 0, 0) from rfl) ?_
            refine q_staticP (show mE (mtv 220) 8 = some (.invokestatic 157, 3, 211, 0) from rfl) (by decide) rfl rfl rfl (fun _ g => sp_211 g) ?_
            refine q_ireturn (show mE (mtv 220) 11 = some (.ireturn, 1, 0, 0) from rfl) ?_
            refine qK_v ?_
            refine q_ifb_ne (t := 13) (show mE (mtv 249) 6 = some (.ifCond .ne 7, 3, 0, 0) from rfl) rfl (fun c182 => ?_) (fun c182 => ?_)
            · clear c182
              refine q_aload_n (show mE (mtv 249) 13 = some (.aload_n 0, 1, 0, 0) from rfl) (hl178 0 _ rfl) ?_
              refine q_getR (m := 92) t36 (show mE (mtv 249) 14 = some (.getfield 28, 3, 9, 6) from rfl) (by decide) rfl rfl ?_
              refine q_iload_n (show mE (mtv 249) 17 = some (.iload_n 1, 1, 0, 0) from rfl) (hl178 1 _ rfl) ?_
              refine q_baload (n := 16) t36 (show mE (mtv 249) 18 = some (.baload, 1, 0, 0) from rfl) (by decide) rfl (fun bb186 => ?_)
              have r187 : j34 92 ((a1).toNatClampNeg) = I 92 ((a1).toNatClampNeg) := scA ag40 (by decide) (by decide) (by decide) (by decide) (by decide)
              rw [r187]; clear r187
              have r188 : I 92 ((a1).toNatClampNeg) = I (19 + (a1).toNatClampNeg) 2 := hK.kl _ (sIn_lt bb186)
              rw [r188]; clear r188
              refine q_if_eq (t := 31) (show mE (mtv 249) 19 = some (.ifCond .eq 12, 3, 0, 0) from rfl) rfl (fun c189 => ?_) (fun c189 => ?_)
              · exact absurd c189 c19
              · clear c189
                refine q_aload_n (show mE (mtv 249) 22 = some (.aload_n 0, 1, 0, 0) from rfl) (hl178 0 _ rfl) ?_
                refine q_getR (m := 88) t36 (show mE (mtv 249) 23 = some (.getfield 16, 3, 9, 2) from rfl) (by decide) rfl rfl ?_
                refine q_iload_n (show mE (mtv 249) 26 = some (.iload_n 1, 1, 0, 0) from rfl) (hl178 1 _ rfl) ?_
                refine q_iaload (n := 16) t36 (show mE (mtv 249) 27 = some (.iaload, 1, 0, 0) from rfl) (by decide) rfl (fun bb190 => ?_)
                have r191 : j34 88 ((a1).toNatClampNeg) = I 88 ((a1).toNatClampNeg) := scA ag40 (by decide) (by decide) (by decide) (by decide) (by decide)
                rw [r191]; clear r191
                refine q_if_ne (t := 35) (show mE (mtv 249) 28 = some (.ifCond .ne 7, 3, 0, 0) from rfl) rfl (fun c192 => ?_) (fun c192 => ?_)
                · refine q_iconst (show mE (mtv 249) 35 = some (.iconst 0, 1, 0, 0) from rfl) kI_0 ?_
                  refine q_putI t36 (show mE (mtv 249) 36 = some (.putfield 138, 3, 9, 42) from rfl) (by decide) rfl (fun h193 t194 => ?_)
                  refine q_aload_n (show mE (mtv 249) 39 = some (.aload_n 0, 1, 0, 0) from rfl) (hl178 0 _ rfl) ?_
                  refine q_getIe t194 (show mE (mtv 249) 40 = some (.getfield 138, 3, 9, 42) from rfl) (by decide) rfl (upI_s) ?_
                  refine q_ift (t := 48) (show mE (mtv 249) 43 = some (.ifCond .le 5, 3, 0, 0) from rfl) (by decide) rfl ?_
                  refine q_aload_n (show mE (mtv 249) 48 = some (.aload_n 0, 1, 0, 0) from rfl) (hl178 0 _ rfl) ?_
                  refine q_getR (m := 88) t194 (show mE (mtv 249) 49 = some (.getfield 16, 3, 9, 2) from rfl) (by decide) rfl rfl ?_
                  refine q_iload_n (show mE (mtv 249) 52 = some (.iload_n 1, 1, 0, 0) from rfl) (hl178 1 _ rfl) ?_
                  refine q_iaload (n := 16) t194 (show mE (mtv 249) 53 = some (.iaload, 1, 0, 0) from rfl) (by decide) rfl (fun bb195 => ?_)
                  have g196 : (upI j34 85 42 (0 : Int32)) 88 (a1).toNatClampNeg = j34 88 ((a1).toNatClampNeg) := upI_n (Or.inl (by decide))
                  rw [g196]; clear g196
                  have r197 : j34 88 ((a1).toNatClampNeg) = I 88 ((a1).toNatClampNeg) := scA ag40 (by decide) (by decide) (by decide) (by decide) (by decide)
                  rw [r197]; clear r197
                  refine q_istore_n (show mE (mtv 249) 54 = some (.istore_n 2, 1, 0, 0) from rfl) (Nat.le_of_ble_eq_true rfl) hl178 (fun lv198 (hl199 : qLs lv198 [some (.ref (85)), some (.int (a1)), some (.int (I 88 ((a1).toNatClampNeg)))]) => ?_)
                  refine q_aload_n (show mE (mtv 249) 55 = some (.aload_n 0, 1, 0, 0) from rfl) (hl199 0 _ rfl) ?_
                  refine q_getR (m := 88) t194 (show mE (mtv 249) 56 = some (.getfield 16, 3, 9, 2) from rfl) (by decide) rfl rfl ?_
                  refine q_iload_n (show mE (mtv 249) 59 = some (.iload_n 1, 1, 0, 0) from rfl) (hl199 1 _ rfl) ?_
                  refine q_iconst (show mE (mtv 249) 60 = some (.iconst 0, 1, 0, 0) from rfl) kI_0 ?_
                  refine q_iastore (n := 16) t194 (show mE (mtv 249) 61 = some (.iastore, 1, 0, 0) from rfl) (by decide) rfl (fun bb200 h201 t202 => ?_)
                  refine q_aload_n (show mE (mtv 249) 62 = some (.aload_n 0, 1, 0, 0) from rfl) (hl199 0 _ rfl) ?_
                  refine q_aload_n (show mE (mtv 249) 63 = some (.aload_n 0, 1, 0, 0) from rfl) (hl199 0 _ rfl) ?_
                  refine q_iload_n (show mE (mtv 249) 64 = some (.iload_n 2, 1, 0, 0) from rfl) (hl199 2 _ rfl) ?_
                  refine q_iconst (show mE (mtv 249) 65 = some (.iconst (-1), 1, 0, 0) from rfl) kI_m1 ?_
                  refine q_virtualE (show mE (mtv 249) 66 = some (.invokevirtual 227, 3, 239, 9) from rfl) (by decide) rfl rfl rfl (fun _ g => sp_239 t202 g) ?_
                  rintro _ ⟨v207, j203, h204, rfl, t205, e206⟩
                  refine qK_v ?_
                  refine q_if_ne (t := 76) (show mE (mtv 249) 69 = some (.ifCond .ne 7, 3, 0, 0) from rfl) rfl (fun c208 => ?_) (fun c208 => ?_)
                  · refine q_aload_n (show mE (mtv 249) 76 = some (.aload_n 0, 1, 0, 0) from rfl) (hl199 0 _ rfl) ?_
                    refine q_getI t205 (show mE (mtv 249) 77 = some (.getfield 117, 3, 9, 35) from rfl) (by decide) rfl ?_
                    refine q_bipush (show mE (mtv 249) 80 = some (.bipush 16, 2, 0, 0) from rfl) kB_16 ?_
                    refine q_ic_ne (t := 89) (show mE (mtv 249) 82 = some (.if_icmp .ne 7, 3, 0, 0) from rfl) rfl (fun c209 => ?_) (fun c209 => ?_)
                    · refine q_iconst (show mE (mtv 249) 89 = some (.iconst 0, 1, 0, 0) from rfl) kI_0 ?_
                      refine q_putI t205 (show mE (mtv 249) 90 = some (.putfield 138, 3, 9, 42) from rfl) (by decide) rfl (fun h210 t211 => ?_)
                      refine q_aload_n (show mE (mtv 249) 93 = some (.aload_n 0, 1, 0, 0) from rfl) (hl199 0 _ rfl) ?_
                      refine q_getIe t211 (show mE (mtv 249) 94 = some (.getfield 138, 3, 9, 42) from rfl) (by decide) rfl (upI_s) ?_
                      refine q_iff (t := 106) (show mE (mtv 249) 97 = some (.ifCond .ne 9, 3, 0, 0) from rfl) (by decide) rfl ?_
                      refine q_aload_n (show mE (mtv 249) 100 = some (.aload_n 0, 1, 0, 0) from rfl) (hl199 0 _ rfl) ?_
                      refine q_iload_n (show mE (mtv 249) 101 = some (.iload_n 2, 1, 0, 0) from rfl) (hl199 2 _ rfl) ?_
                      refine q_virtualE (show mE (mtv 249) 102 = some (.invokevirtual 172, 3, 218, 9) from rfl) (by decide) rfl rfl rfl (fun _ g => sp_218 t211 g) ?_
                      rintro _ ⟨v216, j212, h213, rfl, t214, e215⟩
                      refine qK_v ?_
                      refine q_ireturn (show mE (mtv 249) 105 = some (.ireturn, 1, 0, 0) from rfl) ?_
                      exact ⟨(3 : Int32), v216, _, _, _, rfl, rfl, t214, (p11 c3 c14 bb17 z18 c19 c33 v38 j34 K39 e37 c44 c192 v207 j203 e206 c208 c209 v216 j212 e215).1, (fun e => absurd e (by decide)), (p11 c3 c14 bb17 z18 c19 c33 v38 j34 K39 e37 c44 c192 v207 j203 e206 c208 c209 v216 j212 e215).2⟩
                    · refine q_iconst (show mE (mtv 249) 85 = some (.iconst 4, 1, 0, 0) from rfl) kI_4 ?_
                      refine q_goto (t := 90) (show mE (mtv 249) 86 = some (.goto 4, 3, 0, 0) from rfl) rfl ?_
                      refine q_putI t205 (show mE (mtv 249) 90 = some (.putfield 138, 3, 9, 42) from rfl) (by decide) rfl (fun h217 t218 => ?_)
                      refine q_aload_n (show mE (mtv 249) 93 = some (.aload_n 0, 1, 0, 0) from rfl) (hl199 0 _ rfl) ?_
                      refine q_getIe t218 (show mE (mtv 249) 94 = some (.getfield 138, 3, 9, 42) from rfl) (by decide) rfl (upI_s) ?_
                      refine q_ift (t := 106) (show mE (mtv 249) 97 = some (.ifCond .ne 9, 3, 0, 0) from rfl) (by decide) rfl ?_
                      refine q_aload_n (show mE (mtv 249) 106 = some (.aload_n 0, 1, 0, 0) from rfl) (hl199 0 _ rfl) ?_
                      refine q_getR (m := 88) t218 (show mE (mtv 249) 107 = some (.getfield 16, 3, 9, 2) from rfl) (by decide) rfl rfl ?_
                      refine q_iload_n (show mE (mtv 249) 110 = some (.iload_n 1, 1, 0, 0) from rfl) (hl199 1 _ rfl) ?_
                      refine q_iload_n (show mE (mtv 249) 111 = some (.iload_n 2, 1, 0, 0) from rfl) (hl199 2 _ rfl) ?_
                      refine q_iastore (n := 16) t218 (show mE (mtv 249) 112 = some (.iastore, 1, 0, 0) from rfl) (by decide) rfl (fun bb219 h220 t221 => ?_)
                      refine q_iconst (show mE (mtv 249) 113 = some (.iconst 0, 1, 0, 0) from rfl) kI_0 ?_
                      refine q_ireturn (show mE (mtv 249) 114 = some (.ireturn, 1, 0, 0) from rfl) ?_
                      exact (p12 c3 c14 bb17 z18 c19 c33 v38 j34 K39 e37 c44 c192 v207 j203 e206 c208 c209).elim
                  · refine q_iconst (show mE (mtv 249) 72 = some (.iconst 3, 1, 0, 0) from rfl) kI_3 ?_
                    refine q_goto (t := 90) (show mE (mtv 249) 73 = some (.goto 17, 3, 0, 0) from rfl) rfl ?_
                    refine q_putI t205 (show mE (mtv 249) 90 = some (.putfield 138, 3, 9, 42) from rfl) (by decide) rfl (fun h222 t223 => ?_)
                    refine q_aload_n (show mE (mtv 249) 93 = some (.aload_n 0, 1, 0, 0) from rfl) (hl199 0 _ rfl) ?_
                    refine q_getIe t223 (show mE (mtv 249) 94 = some (.getfield 138, 3, 9, 42) from rfl) (by decide) rfl (upI_s) ?_
                    refine q_ift (t := 106) (show mE (mtv 249) 97 = some (.ifCond .ne 9, 3, 0, 0) from rfl) (by decide) rfl ?_
                    refine q_aload_n (show mE (mtv 249) 106 = some (.aload_n 0, 1, 0, 0) from rfl) (hl199 0 _ rfl) ?_
                    refine q_getR (m := 88) t223 (show mE (mtv 249) 107 = some (.getfield 16, 3, 9, 2) from rfl) (by decide) rfl rfl ?_
                    refine q_iload_n (show mE (mtv 249) 110 = some (.iload_n 1, 1, 0, 0) from rfl) (hl199 1 _ rfl) ?_
                    refine q_iload_n (show mE (mtv 249) 111 = some (.iload_n 2, 1, 0, 0) from rfl) (hl199 2 _ rfl) ?_
                    refine q_iastore (n := 16) t223 (show mE (mtv 249) 112 = some (.iastore, 1, 0, 0) from rfl) (by decide) rfl (fun bb224 h225 t226 => ?_)
                    refine q_iconst (show mE (mtv 249) 113 = some (.iconst 0, 1, 0, 0) from rfl) kI_0 ?_
                    refine q_ireturn (show mE (mtv 249) 114 = some (.ireturn, 1, 0, 0) from rfl) ?_
                    exact ⟨(3 : Int32), (0 : Int32), _, _, _, rfl, rfl, t226, (upI_n (Or.inl (by decide))).trans (upI_s), (fun e => absurd e (by decide)), p13 c3 c14 bb17 z18 c19 c33 v38 j34 K39 e37 c44 c192 v207 j203 e206 c208⟩
                · refine q_iconst (show mE (mtv 249) 31 = some (.iconst 2, 1, 0, 0) from rfl) kI_2 ?_
                  refine q_goto (t := 36) (show mE (mtv 249) 32 = some (.goto 4, 3, 0, 0) from rfl) rfl ?_
                  refine q_putI t36 (show mE (mtv 249) 36 = some (.putfield 138, 3, 9, 42) from rfl) (by decide) rfl (fun h227 t228 => ?_)
                  refine q_aload_n (show mE (mtv 249) 39 = some (.aload_n 0, 1, 0, 0) from rfl) (hl178 0 _ rfl) ?_
                  refine q_getIe t228 (show mE (mtv 249) 40 = some (.getfield 138, 3, 9, 42) from rfl) (by decide) rfl (upI_s) ?_
                  refine q_iff (t := 48) (show mE (mtv 249) 43 = some (.ifCond .le 5, 3, 0, 0) from rfl) (by decide) rfl ?_
                  refine q_iconst (show mE (mtv 249) 46 = some (.iconst 0, 1, 0, 0) from rfl) kI_0 ?_
                  refine q_ireturn (show mE (mtv 249) 47 = some (.ireturn, 1, 0, 0) from rfl) ?_
                  exact (p14 c3 c14 bb17 z18 c19 c33 v38 j34 K39 e37 c44 c192).elim
            · exfalso
              have s183 := hK.bk
              unfold inR at s183
              have s184 := i32_sub1 (x := I 0 9) (by omega)
              have s185 := hK.bd
              unfold inR at s185
              simp only [s184, Int32.lt_iff_toInt_lt, Int32.le_iff_toInt_le, ← Int32.toInt_inj, kt_0, kt_1] at c3 c14 c19 c33 c44 c182
              first | omega | contradiction
        · refine q_throw (show mE (mtv 103) 27 = some (.new 94, 3, 1003, 0) from rfl) (by decide) ?_
          refine qKh_x (hp := 15) (c := (16, sDr 3 (lv_args 0 [.ref (0), .int (a1), .ref (117)]), [], h)) rfl (by decide) (fun _ _ => rfl) ?_
          refine q_iconst (show mE (mtv 102) 16 = some (.iconst 2, 1, 0, 0) from rfl) kI_2 ?_
          refine q_ireturn (show mE (mtv 102) 17 = some (.ireturn, 1, 0, 0) from rfl) ?_
          intro r229 g230
          have g230 : qGo 249 [.ref (85), .int (a1)] h r229 := g230
          refine qGo_w (Q := fun r2 => opE (.inl (some (.int ((2 : Int32))))) r2.1 r2.2 RK) g230 (fun _ => ?_)
          have hl231 : qLs (lv_args 0 [.ref (85), .int (a1)]) [some (.ref (85)), some (.int (a1)), none] := qLs_ar 1
          refine q_aload_n (show mE (mtv 249) 0 = some (.aload_n 0, 1, 0, 0) from rfl) (hl231 0 _ rfl) ?_
          refine q_aload_n (show mE (mtv 249) 1 = some (.aload_n 0, 1, 0, 0) from rfl) (hl231 0 _ rfl) ?_
          refine q_iload_n (show mE (mtv 249) 2 = some (.iload_n 1, 1, 0, 0) from rfl) (hl231 1 _ rfl) ?_
          refine q_virtualI (show mE (mtv 249) 3 = some (.invokevirtual 175, 3, 220, 9) from rfl) (by decide) rfl rfl rfl (fun _ => ?_)
          have hl232 : qLs (lv_args 0 [.ref (85), .int (a1)]) [some (.ref (85)), some (.int (a1))] := qLs_ar 0
          refine q_iload_n (show mE (mtv 220) 0 = some (.iload_n 1, 1, 0, 0) from rfl) (hl232 1 _ rfl) ?_
          refine q_iconst (show mE (mtv 220) 1 = some (.iconst 0, 1, 0, 0) from rfl) kI_0 ?_
          refine q_aload_n (show mE (mtv 220) 2 = some (.aload_n 0, 1, 0, 0) from rfl) (hl232 0 _ rfl) ?_
          refine q_getI th (show mE (mtv 220) 3 = some (.getfield 117, 3, 9, 35) from rfl) (by decide) rfl ?_
          have r233 : I 85 35 = I 0 9 := hK.nk.symm
          rw [r233]; clear r233
          refine q_iconst (show mE (mtv 220) 6 = some (.iconst 1, 1, 0, 0) from rfl) kI_1 ?_
          refine q_isub (show mE (mtv 220) 7 = some (.isub, 1, 0, 0) from rfl) ?_
          refine q_staticP (show mE (mtv 220) 8 = some (.invokestatic 157, 3, 211, 0) from rfl) (by decide) rfl rfl rfl (fun _ g => sp_211 g) ?_
          refine q_ireturn (show mE (mtv 220) 11 = some (.ireturn, 1, 0, 0) from rfl) ?_
          refine qK_v ?_
          refine q_ifb_ne (t := 13) (show mE (mtv 249) 6 = some (.ifCond .ne 7, 3, 0, 0) from rfl) rfl (fun c234 => ?_) (fun c234 => ?_)
          · clear c234
            refine q_aload_n (show mE (mtv 249) 13 = some (.aload_n 0, 1, 0, 0) from rfl) (hl231 0 _ rfl) ?_
            refine q_getR (m := 92) th (show mE (mtv 249) 14 = some (.getfield 28, 3, 9, 6) from rfl) (by decide) rfl rfl ?_
            refine q_iload_n (show mE (mtv 249) 17 = some (.iload_n 1, 1, 0, 0) from rfl) (hl231 1 _ rfl) ?_
            refine q_baload (n := 16) th (show mE (mtv 249) 18 = some (.baload, 1, 0, 0) from rfl) (by decide) rfl (fun bb238 => ?_)
            have r239 : I 92 ((a1).toNatClampNeg) = I (19 + (a1).toNatClampNeg) 2 := hK.kl _ (sIn_lt bb238)
            rw [r239]; clear r239
            refine q_if_eq (t := 31) (show mE (mtv 249) 19 = some (.ifCond .eq 12, 3, 0, 0) from rfl) rfl (fun c240 => ?_) (fun c240 => ?_)
            · exact absurd c240 c19
            · clear c240
              refine q_aload_n (show mE (mtv 249) 22 = some (.aload_n 0, 1, 0, 0) from rfl) (hl231 0 _ rfl) ?_
              refine q_getR (m := 88) th (show mE (mtv 249) 23 = some (.getfield 16, 3, 9, 2) from rfl) (by decide) rfl rfl ?_
              refine q_iload_n (show mE (mtv 249) 26 = some (.iload_n 1, 1, 0, 0) from rfl) (hl231 1 _ rfl) ?_
              refine q_iaload (n := 16) th (show mE (mtv 249) 27 = some (.iaload, 1, 0, 0) from rfl) (by decide) rfl (fun bb241 => ?_)
              refine q_if_ne (t := 35) (show mE (mtv 249) 28 = some (.ifCond .ne 7, 3, 0, 0) from rfl) rfl (fun c242 => ?_) (fun c242 => ?_)
              · refine q_iconst (show mE (mtv 249) 35 = some (.iconst 0, 1, 0, 0) from rfl) kI_0 ?_
                refine q_putI th (show mE (mtv 249) 36 = some (.putfield 138, 3, 9, 42) from rfl) (by decide) rfl (fun h243 t244 => ?_)
                refine q_aload_n (show mE (mtv 249) 39 = some (.aload_n 0, 1, 0, 0) from rfl) (hl231 0 _ rfl) ?_
                refine q_getIe t244 (show mE (mtv 249) 40 = some (.getfield 138, 3, 9, 42) from rfl) (by decide) rfl (upI_s) ?_
                refine q_ift (t := 48) (show mE (mtv 249) 43 = some (.ifCond .le 5, 3, 0, 0) from rfl) (by decide) rfl ?_
                refine q_aload_n (show mE (mtv 249) 48 = some (.aload_n 0, 1, 0, 0) from rfl) (hl231 0 _ rfl) ?_
                refine q_getR (m := 88) t244 (show mE (mtv 249) 49 = some (.getfield 16, 3, 9, 2) from rfl) (by decide) rfl rfl ?_
                refine q_iload_n (show mE (mtv 249) 52 = some (.iload_n 1, 1, 0, 0) from rfl) (hl231 1 _ rfl) ?_
                refine q_iaload (n := 16) t244 (show mE (mtv 249) 53 = some (.iaload, 1, 0, 0) from rfl) (by decide) rfl (fun bb245 => ?_)
                have g246 : (upI I 85 42 (0 : Int32)) 88 (a1).toNatClampNeg = I 88 ((a1).toNatClampNeg) := upI_n (Or.inl (by decide))
                rw [g246]; clear g246
                refine q_istore_n (show mE (mtv 249) 54 = some (.istore_n 2, 1, 0, 0) from rfl) (Nat.le_of_ble_eq_true rfl) hl231 (fun lv247 (hl248 : qLs lv247 [some (.ref (85)), some (.int (a1)), some (.int (I 88 ((a1).toNatClampNeg)))]) => ?_)
                refine q_aload_n (show mE (mtv 249) 55 = some (.aload_n 0, 1, 0, 0) from rfl) (hl248 0 _ rfl) ?_
                refine q_getR (m := 88) t244 (show mE (mtv 249) 56 = some (.getfield 16, 3, 9, 2) from rfl) (by decide) rfl rfl ?_
                refine q_iload_n (show mE (mtv 249) 59 = some (.iload_n 1, 1, 0, 0) from rfl) (hl248 1 _ rfl) ?_
                refine q_iconst (show mE (mtv 249) 60 = some (.iconst 0, 1, 0, 0) from rfl) kI_0 ?_
                refine q_iastore (n := 16) t244 (show mE (mtv 249) 61 = some (.iastore, 1, 0, 0) from rfl) (by decide) rfl (fun bb249 h250 t251 => ?_)
                refine q_aload_n (show mE (mtv 249) 62 = some (.aload_n 0, 1, 0, 0) from rfl) (hl248 0 _ rfl) ?_
                refine q_aload_n (show mE (mtv 249) 63 = some (.aload_n 0, 1, 0, 0) from rfl) (hl248 0 _ rfl) ?_
                refine q_iload_n (show mE (mtv 249) 64 = some (.iload_n 2, 1, 0, 0) from rfl) (hl248 2 _ rfl) ?_
                refine q_iconst (show mE (mtv 249) 65 = some (.iconst (-1), 1, 0, 0) from rfl) kI_m1 ?_
                refine q_virtualE (show mE (mtv 249) 66 = some (.invokevirtual 227, 3, 239, 9) from rfl) (by decide) rfl rfl rfl (fun _ g => sp_239 t251 g) ?_
                rintro _ ⟨v256, j252, h253, rfl, t254, e255⟩
                refine qK_v ?_
                refine q_if_ne (t := 76) (show mE (mtv 249) 69 = some (.ifCond .ne 7, 3, 0, 0) from rfl) rfl (fun c257 => ?_) (fun c257 => ?_)
                · refine q_aload_n (show mE (mtv 249) 76 = some (.aload_n 0, 1, 0, 0) from rfl) (hl248 0 _ rfl) ?_
                  refine q_getI t254 (show mE (mtv 249) 77 = some (.getfield 117, 3, 9, 35) from rfl) (by decide) rfl ?_
                  refine q_bipush (show mE (mtv 249) 80 = some (.bipush 16, 2, 0, 0) from rfl) kB_16 ?_
                  refine q_ic_ne (t := 89) (show mE (mtv 249) 82 = some (.if_icmp .ne 7, 3, 0, 0) from rfl) rfl (fun c258 => ?_) (fun c258 => ?_)
                  · refine q_iconst (show mE (mtv 249) 89 = some (.iconst 0, 1, 0, 0) from rfl) kI_0 ?_
                    refine q_putI t254 (show mE (mtv 249) 90 = some (.putfield 138, 3, 9, 42) from rfl) (by decide) rfl (fun h259 t260 => ?_)
                    refine q_aload_n (show mE (mtv 249) 93 = some (.aload_n 0, 1, 0, 0) from rfl) (hl248 0 _ rfl) ?_
                    refine q_getIe t260 (show mE (mtv 249) 94 = some (.getfield 138, 3, 9, 42) from rfl) (by decide) rfl (upI_s) ?_
                    refine q_iff (t := 106) (show mE (mtv 249) 97 = some (.ifCond .ne 9, 3, 0, 0) from rfl) (by decide) rfl ?_
                    refine q_aload_n (show mE (mtv 249) 100 = some (.aload_n 0, 1, 0, 0) from rfl) (hl248 0 _ rfl) ?_
                    refine q_iload_n (show mE (mtv 249) 101 = some (.iload_n 2, 1, 0, 0) from rfl) (hl248 2 _ rfl) ?_
                    refine q_virtualE (show mE (mtv 249) 102 = some (.invokevirtual 172, 3, 218, 9) from rfl) (by decide) rfl rfl rfl (fun _ g => sp_218 t260 g) ?_
                    rintro _ ⟨v265, j261, h262, rfl, t263, e264⟩
                    refine qK_v ?_
                    refine q_ireturn (show mE (mtv 249) 105 = some (.ireturn, 1, 0, 0) from rfl) ?_
                    exact ⟨(2 : Int32), v265, _, _, _, rfl, rfl, t263, (p15 c3 c14 bb17 z18 c19 c33 c242 v256 j252 e255 c257 c258 v265 j261 e264).1, (fun e => absurd e (by decide)), (p15 c3 c14 bb17 z18 c19 c33 c242 v256 j252 e255 c257 c258 v265 j261 e264).2⟩
                  · refine q_iconst (show mE (mtv 249) 85 = some (.iconst 4, 1, 0, 0) from rfl) kI_4 ?_
                    refine q_goto (t := 90) (show mE (mtv 249) 86 = some (.goto 4, 3, 0, 0) from rfl) rfl ?_
                    refine q_putI t254 (show mE (mtv 249) 90 = some (.putfield 138, 3, 9, 42) from rfl) (by decide) rfl (fun h266 t267 => ?_)
                    refine q_aload_n (show mE (mtv 249) 93 = some (.aload_n 0, 1, 0, 0) from rfl) (hl248 0 _ rfl) ?_
                    refine q_getIe t267 (show mE (mtv 249) 94 = some (.getfield 138, 3, 9, 42) from rfl) (by decide) rfl (upI_s) ?_
                    refine q_ift (t := 106) (show mE (mtv 249) 97 = some (.ifCond .ne 9, 3, 0, 0) from rfl) (by decide) rfl ?_
                    refine q_aload_n (show mE (mtv 249) 106 = some (.aload_n 0, 1, 0, 0) from rfl) (hl248 0 _ rfl) ?_
                    refine q_getR (m := 88) t267 (show mE (mtv 249) 107 = some (.getfield 16, 3, 9, 2) from rfl) (by decide) rfl rfl ?_
                    refine q_iload_n (show mE (mtv 249) 110 = some (.iload_n 1, 1, 0, 0) from rfl) (hl248 1 _ rfl) ?_
                    refine q_iload_n (show mE (mtv 249) 111 = some (.iload_n 2, 1, 0, 0) from rfl) (hl248 2 _ rfl) ?_
                    refine q_iastore (n := 16) t267 (show mE (mtv 249) 112 = some (.iastore, 1, 0, 0) from rfl) (by decide) rfl (fun bb268 h269 t270 => ?_)
                    refine q_iconst (show mE (mtv 249) 113 = some (.iconst 0, 1, 0, 0) from rfl) kI_0 ?_
                    refine q_ireturn (show mE (mtv 249) 114 = some (.ireturn, 1, 0, 0) from rfl) ?_
                    exact (p16 c3 c14 bb17 z18 c19 c33 c242 v256 j252 e255 c257 c258).elim
                · refine q_iconst (show mE (mtv 249) 72 = some (.iconst 3, 1, 0, 0) from rfl) kI_3 ?_
                  refine q_goto (t := 90) (show mE (mtv 249) 73 = some (.goto 17, 3, 0, 0) from rfl) rfl ?_
                  refine q_putI t254 (show mE (mtv 249) 90 = some (.putfield 138, 3, 9, 42) from rfl) (by decide) rfl (fun h271 t272 => ?_)
                  refine q_aload_n (show mE (mtv 249) 93 = some (.aload_n 0, 1, 0, 0) from rfl) (hl248 0 _ rfl) ?_
                  refine q_getIe t272 (show mE (mtv 249) 94 = some (.getfield 138, 3, 9, 42) from rfl) (by decide) rfl (upI_s) ?_
                  refine q_ift (t := 106) (show mE (mtv 249) 97 = some (.ifCond .ne 9, 3, 0, 0) from rfl) (by decide) rfl ?_
                  refine q_aload_n (show mE (mtv 249) 106 = some (.aload_n 0, 1, 0, 0) from rfl) (hl248 0 _ rfl) ?_
                  refine q_getR (m := 88) t272 (show mE (mtv 249) 107 = some (.getfield 16, 3, 9, 2) from rfl) (by decide) rfl rfl ?_
                  refine q_iload_n (show mE (mtv 249) 110 = some (.iload_n 1, 1, 0, 0) from rfl) (hl248 1 _ rfl) ?_
                  refine q_iload_n (show mE (mtv 249) 111 = some (.iload_n 2, 1, 0, 0) from rfl) (hl248 2 _ rfl) ?_
                  refine q_iastore (n := 16) t272 (show mE (mtv 249) 112 = some (.iastore, 1, 0, 0) from rfl) (by decide) rfl (fun bb273 h274 t275 => ?_)
                  refine q_iconst (show mE (mtv 249) 113 = some (.iconst 0, 1, 0, 0) from rfl) kI_0 ?_
                  refine q_ireturn (show mE (mtv 249) 114 = some (.ireturn, 1, 0, 0) from rfl) ?_
                  exact (p17 c3 c14 bb17 z18 c19 c33 c242 v256 j252 e255 c257).elim
              · refine q_iconst (show mE (mtv 249) 31 = some (.iconst 2, 1, 0, 0) from rfl) kI_2 ?_
                refine q_goto (t := 36) (show mE (mtv 249) 32 = some (.goto 4, 3, 0, 0) from rfl) rfl ?_
                refine q_putI th (show mE (mtv 249) 36 = some (.putfield 138, 3, 9, 42) from rfl) (by decide) rfl (fun h276 t277 => ?_)
                refine q_aload_n (show mE (mtv 249) 39 = some (.aload_n 0, 1, 0, 0) from rfl) (hl231 0 _ rfl) ?_
                refine q_getIe t277 (show mE (mtv 249) 40 = some (.getfield 138, 3, 9, 42) from rfl) (by decide) rfl (upI_s) ?_
                refine q_iff (t := 48) (show mE (mtv 249) 43 = some (.ifCond .le 5, 3, 0, 0) from rfl) (by decide) rfl ?_
                refine q_iconst (show mE (mtv 249) 46 = some (.iconst 0, 1, 0, 0) from rfl) kI_0 ?_
                refine q_ireturn (show mE (mtv 249) 47 = some (.ireturn, 1, 0, 0) from rfl) ?_
                exact ⟨(2 : Int32), (0 : Int32), _, _, _, rfl, rfl, t277, upI_s, (fun e => absurd e (by decide)), (RK_t (2 : Int32) hK)⟩
          · exfalso
            have s235 := hK.bk
            unfold inR at s235
            have s236 := i32_sub1 (x := I 0 9) (by omega)
            have s237 := hK.bd
            unfold inR at s237
            simp only [s236, Int32.lt_iff_toInt_lt, Int32.le_iff_toInt_le, ← Int32.toInt_inj, kt_0, kt_1] at c3 c14 c19 c33 c234
            first | omega | contradiction
    · refine q_throw (show mE (mtv 61) 12 = some (.new 338, 3, 1002, 0) from rfl) (by decide) ?_
      refine qK_x ?_
      refine qKh_x (hp := 12) (c := (13, sDr 3 (lv_args 0 [.ref (0), .int (a1), .ref (117)]), [], h)) rfl (by decide) (fun _ _ => rfl) ?_
      refine q_iconst (show mE (mtv 102) 13 = some (.iconst 1, 1, 0, 0) from rfl) kI_1 ?_
      refine q_ireturn (show mE (mtv 102) 14 = some (.ireturn, 1, 0, 0) from rfl) ?_
      intro r278 g279
      have g279 : qGo 249 [.ref (85), .int (a1)] h r278 := g279
      refine qGo_w (Q := fun r2 => opE (.inl (some (.int ((1 : Int32))))) r2.1 r2.2 RK) g279 (fun _ => ?_)
      have hl280 : qLs (lv_args 0 [.ref (85), .int (a1)]) [some (.ref (85)), some (.int (a1)), none] := qLs_ar 1
      refine q_aload_n (show mE (mtv 249) 0 = some (.aload_n 0, 1, 0, 0) from rfl) (hl280 0 _ rfl) ?_
      refine q_aload_n (show mE (mtv 249) 1 = some (.aload_n 0, 1, 0, 0) from rfl) (hl280 0 _ rfl) ?_
      refine q_iload_n (show mE (mtv 249) 2 = some (.iload_n 1, 1, 0, 0) from rfl) (hl280 1 _ rfl) ?_
      refine q_virtualI (show mE (mtv 249) 3 = some (.invokevirtual 175, 3, 220, 9) from rfl) (by decide) rfl rfl rfl (fun _ => ?_)
      have hl281 : qLs (lv_args 0 [.ref (85), .int (a1)]) [some (.ref (85)), some (.int (a1))] := qLs_ar 0
      refine q_iload_n (show mE (mtv 220) 0 = some (.iload_n 1, 1, 0, 0) from rfl) (hl281 1 _ rfl) ?_
      refine q_iconst (show mE (mtv 220) 1 = some (.iconst 0, 1, 0, 0) from rfl) kI_0 ?_
      refine q_aload_n (show mE (mtv 220) 2 = some (.aload_n 0, 1, 0, 0) from rfl) (hl281 0 _ rfl) ?_
      refine q_getI th (show mE (mtv 220) 3 = some (.getfield 117, 3, 9, 35) from rfl) (by decide) rfl ?_
      have r282 : I 85 35 = I 0 9 := hK.nk.symm
      rw [r282]; clear r282
      refine q_iconst (show mE (mtv 220) 6 = some (.iconst 1, 1, 0, 0) from rfl) kI_1 ?_
      refine q_isub (show mE (mtv 220) 7 = some (.isub, 1, 0, 0) from rfl) ?_
      refine q_staticP (show mE (mtv 220) 8 = some (.invokestatic 157, 3, 211, 0) from rfl) (by decide) rfl rfl rfl (fun _ g => sp_211 g) ?_
      refine q_ireturn (show mE (mtv 220) 11 = some (.ireturn, 1, 0, 0) from rfl) ?_
      refine qK_v ?_
      refine q_ifb_ne (t := 13) (show mE (mtv 249) 6 = some (.ifCond .ne 7, 3, 0, 0) from rfl) rfl (fun c283 => ?_) (fun c283 => ?_)
      · exfalso
        have s284 := hK.bk
        unfold inR at s284
        have s285 := i32_sub1 (x := I 0 9) (by omega)
        simp only [s285, Int32.lt_iff_toInt_lt, Int32.le_iff_toInt_le, ← Int32.toInt_inj, kt_0, kt_1] at c3 c14 c283
        first | omega | contradiction
      · clear c283
        refine q_iconst (show mE (mtv 249) 9 = some (.iconst 1, 1, 0, 0) from rfl) kI_1 ?_
        refine q_goto (t := 36) (show mE (mtv 249) 10 = some (.goto 26, 3, 0, 0) from rfl) rfl ?_
        refine q_putI th (show mE (mtv 249) 36 = some (.putfield 138, 3, 9, 42) from rfl) (by decide) rfl (fun h286 t287 => ?_)
        refine q_aload_n (show mE (mtv 249) 39 = some (.aload_n 0, 1, 0, 0) from rfl) (hl280 0 _ rfl) ?_
        refine q_getIe t287 (show mE (mtv 249) 40 = some (.getfield 138, 3, 9, 42) from rfl) (by decide) rfl (upI_s) ?_
        refine q_iff (t := 48) (show mE (mtv 249) 43 = some (.ifCond .le 5, 3, 0, 0) from rfl) (by decide) rfl ?_
        refine q_iconst (show mE (mtv 249) 46 = some (.iconst 0, 1, 0, 0) from rfl) kI_0 ?_
        refine q_ireturn (show mE (mtv 249) 47 = some (.ireturn, 1, 0, 0) from rfl) ?_
        exact ⟨(1 : Int32), (0 : Int32), _, _, _, rfl, rfl, t287, upI_s, (fun e => absurd e (by decide)), (RK_t (1 : Int32) hK)⟩
theorem ok_15 {h : sH} {I : Nat → Nat → Int32} {L : Nat → Nat → Int64} {R : Nat → Nat} (th : qH h I L R) (hK : RK I L R) (hG : RG I) {a1 : Int32} {r : sR} (gW : qGo 102 [.ref (0), .int (a1), .ref (117)] h r) : ∀ r2 : sR, qGo 249 [.ref (85), .int (a1)] r.2 r2 → opE r.1 r2.1 r2.2 RK := qp_15 th hK hG gW
  (fun c3 c14 _ _ c19 c33 v38 j34 K39 e37 c44 c46 j47 e50 _ j68 e71 _ c79 c81 => by
    obtain ⟨k, hk, rfl⟩ := hK.gk c3 c14
    have hkb := hK.mi.kb
    rw [ofN_clamp (show k < 2147483648 by omega)] at c19
    rw [repl_D hK hk] at e37 e50 e71 c33
    have q47 := repl_47 hK hk e37 e50
    rw [q47 0 9 (by decide) (by omega), hK.k1, ofN_clamp (show nkI I < 2147483648 by omega), q47 1 4 (by decide) (by omega)] at e71
    have hn : nkI I < 16 := by
      rw [e37.1 0 9 (by decide), hK.k1] at c46
      exact (oN_lt (b := 16) (by omega) (by decide)).mp c46
    obtain ⟨_, _, _, _, _, u⟩ := repl_pre hK hk hn e37 e50 e71
    rw [ofN_clamp (show k < 2147483648 by omega), u 92 k (by omega), hK.kl k (by omega)] at c81
    exact c19 c81)
  (fun c3 c14 _ _ c19 c33 v38 j34 K39 e37 c44 c46 j47 e50 _ j68 e71 _ c79 c81 c85 v99 j95 e98 c100 c101 v108 j104 e107 => by
    obtain ⟨k, hk, rfl⟩ := hK.gk c3 c14
    have hkb := hK.mi.kb
    rw [ofN_clamp (show k < 2147483648 by omega)] at c19
    rw [repl_D hK hk] at e37 e50 e71 c33
    have q47 := repl_47 hK hk e37 e50
    rw [q47 0 9 (by decide) (by omega), hK.k1, ofN_clamp (show nkI I < 2147483648 by omega), q47 1 4 (by decide) (by omega)] at e71
    have hn : nkI I < 16 := by
      rw [e37.1 0 9 (by decide), hK.k1] at c46
      exact (oN_lt (b := 16) (by omega) (by decide)).mp c46
    obtain ⟨_, _, _, _, _, u⟩ := repl_pre hK hk hn e37 e50 e71
    rw [ofN_clamp (show k < 2147483648 by omega), u 88 k (by omega)] at e98
    rw [ofN_clamp (show k < 2147483648 by omega), u 88 k (by omega)] at e107
    rw [q47 0 9 (by decide) (by omega), hK.k1, ofN_clamp (show nkI I < 2147483648 by omega)]
    obtain ⟨_, w, t, r⟩ := repl_new hK hG hk hn c44 e37 e50 e71 e98 e107
    exact ⟨t, upL_s.trans (congrArg Int32.toInt64 w.symm), RK_L r⟩)
  (fun c3 c14 _ _ c19 c33 v38 j34 K39 e37 c44 c46 j47 e50 _ j68 e71 _ c79 c81 c85 v99 j95 e98 c100 c101 => by
    obtain ⟨k, hk, rfl⟩ := hK.gk c3 c14
    have hkb := hK.mi.kb
    rw [ofN_clamp (show k < 2147483648 by omega)] at c19
    rw [repl_D hK hk] at e37 e50 e71 c33
    have q47 := repl_47 hK hk e37 e50
    rw [q47 0 9 (by decide) (by omega), hK.k1, ofN_clamp (show nkI I < 2147483648 by omega), q47 1 4 (by decide) (by omega)] at e71
    have hn : nkI I < 16 := by
      rw [e37.1 0 9 (by decide), hK.k1] at c46
      exact (oN_lt (b := 16) (by omega) (by decide)).mp c46
    obtain ⟨_, _, _, _, _, u⟩ := repl_pre hK hk hn e37 e50 e71
    rw [ofN_clamp (show k < 2147483648 by omega), u 88 k (by omega)] at e98
    obtain ⟨_, _, k3, _⟩ := repl_E hK hG hk (repl_U u 0) e37 e98
    rw [k3 85 35 (by unfold scr; omega), upI_ne (by omega), upI_ne (by omega), u 85 35 (by omega), hK.mi.k] at c101
    have := (oN_inj (b := 16) (by omega) (by omega)).mp c101
    omega)
  (fun c3 c14 _ _ c19 c33 v38 j34 K39 e37 c44 c46 j47 e50 _ j68 e71 _ c79 c81 c85 v99 j95 e98 c100 => by
    obtain ⟨k, hk, rfl⟩ := hK.gk c3 c14
    have hkb := hK.mi.kb
    rw [ofN_clamp (show k < 2147483648 by omega)] at c19
    rw [repl_D hK hk] at e37 e50 e71 c33
    have q47 := repl_47 hK hk e37 e50
    rw [q47 0 9 (by decide) (by omega), hK.k1, ofN_clamp (show nkI I < 2147483648 by omega), q47 1 4 (by decide) (by omega)] at e71
    have hn : nkI I < 16 := by
      rw [e37.1 0 9 (by decide), hK.k1] at c46
      exact (oN_lt (b := 16) (by omega) (by decide)).mp c46
    obtain ⟨_, _, _, _, _, u⟩ := repl_pre hK hk hn e37 e50 e71
    rw [ofN_clamp (show k < 2147483648 by omega), u 88 k (by omega)] at e98
    obtain ⟨_, _, _, k4⟩ := repl_E hK hG hk (repl_U u 0) e37 e98
    rcases k4 with ⟨z, _⟩ | ⟨_, z, _⟩
    · exact c44 z
    · rw [c100] at z; exact absurd z (by decide))
  (fun c3 c14 _ _ c19 c33 v38 j34 K39 e37 c44 c46 j47 e50 _ j68 e71 _ c79 c81 c85 => by
    obtain ⟨k, hk, rfl⟩ := hK.gk c3 c14
    have hkb := hK.mi.kb
    rw [ofN_clamp (show k < 2147483648 by omega)] at c19
    rw [repl_D hK hk] at e37 e50 e71 c33
    have q47 := repl_47 hK hk e37 e50
    rw [q47 0 9 (by decide) (by omega), hK.k1, ofN_clamp (show nkI I < 2147483648 by omega), q47 1 4 (by decide) (by omega)] at e71
    have hn : nkI I < 16 := by
      rw [e37.1 0 9 (by decide), hK.k1] at c46
      exact (oN_lt (b := 16) (by omega) (by decide)).mp c46
    obtain ⟨_, _, _, _, _, u⟩ := repl_pre hK hk hn e37 e50 e71
    rw [ofN_clamp (show k < 2147483648 by omega), u 88 k (by omega)] at c85
    exact c33 c85)
  (fun c3 c14 _ _ c19 c33 v38 j34 K39 e37 c44 c46 j47 e50 _ j68 e71 _ c79 => by
    obtain ⟨k, hk, rfl⟩ := hK.gk c3 c14
    have hkb := hK.mi.kb
    rw [ofN_clamp (show k < 2147483648 by omega)] at c19
    rw [repl_D hK hk] at e37 e50 e71 c33
    have q47 := repl_47 hK hk e37 e50
    rw [q47 0 9 (by decide) (by omega), hK.k1, ofN_clamp (show nkI I < 2147483648 by omega), q47 1 4 (by decide) (by omega)] at e71
    have hn : nkI I < 16 := by
      rw [e37.1 0 9 (by decide), hK.k1] at c46
      exact (oN_lt (b := 16) (by omega) (by decide)).mp c46
    obtain ⟨_, _, _, _, _, u⟩ := repl_pre hK hk hn e37 e50 e71
    refine c79 ?_
    rw [u 85 35 (by omega), hK.mi.k]
    exact in_rng hk (by omega))
  (fun c3 c14 _ _ c19 c33 v38 j34 K39 e37 c44 c46 c139 v154 j150 e153 c155 c156 v163 j159 e162 => by
    obtain ⟨k, hk, rfl⟩ := hK.gk c3 c14
    have hkb := hK.mi.kb
    rw [ofN_clamp (show k < 2147483648 by omega)] at c19
    rw [repl_D hK hk] at e37 c33
    rw [ofN_clamp (show k < 2147483648 by omega)] at e153
    obtain ⟨q1, _, _⟩ := repl_no (x := 0) hK hG hk e37 e153
    rw [e37.1 0 9 (by decide), hK.k1] at c46
    have := mt (oN_lt (b := 16) (by omega) (by decide)).mpr c46
    refine absurd ?_ c156
    rw [q1, hK.mi.k, show nkI I = 16 by omega]; rfl)
  (fun c3 c14 _ _ c19 c33 v38 j34 K39 e37 c44 c46 c139 v154 j150 e153 c155 c156 => by
    obtain ⟨k, hk, rfl⟩ := hK.gk c3 c14
    have hkb := hK.mi.kb
    rw [ofN_clamp (show k < 2147483648 by omega)] at c19
    rw [repl_D hK hk] at e37 c33
    rw [ofN_clamp (show k < 2147483648 by omega)] at e153
    rw [ofN_clamp (show k < 2147483648 by omega)]
    exact (repl_no hK hG hk e37 e153).2.2)
  (fun c3 c14 _ _ c19 c33 v38 j34 K39 e37 c44 c46 c139 v154 j150 e153 c155 => by
    obtain ⟨k, hk, rfl⟩ := hK.gk c3 c14
    have hkb := hK.mi.kb
    rw [ofN_clamp (show k < 2147483648 by omega)] at c19
    rw [repl_D hK hk] at e37 c33
    rw [ofN_clamp (show k < 2147483648 by omega)] at e153
    rcases (repl_no (x := 0) hK hG hk e37 e153).2.1 with ⟨z, _⟩ | ⟨_, z⟩
    · exact c44 z
    · rw [c155] at z; exact absurd z (by decide))
  (fun c3 c14 _ _ c19 c33 v38 j34 K39 e37 c44 c46 c139 => by
    obtain ⟨k, hk, rfl⟩ := hK.gk c3 c14
    have hkb := hK.mi.kb
    rw [ofN_clamp (show k < 2147483648 by omega)] at c19
    rw [repl_D hK hk] at e37 c33
    rw [ofN_clamp (show k < 2147483648 by omega)] at c139
    exact c33 c139)
  (fun c3 c14 _ _ c19 c33 v38 j34 K39 e37 c44 c192 v207 j203 e206 c208 c209 v216 j212 e215 => by
    obtain ⟨k, hk, rfl⟩ := hK.gk c3 c14
    have hkb := hK.mi.kb
    rw [ofN_clamp (show k < 2147483648 by omega)] at c19
    rw [repl_D hK hk] at e37 c33
    rw [ofN_clamp (show k < 2147483648 by omega)] at e206
    rcases (repl_no (x := 0) hK hG hk e37 e206).2.1 with ⟨_, z⟩ | ⟨z, _⟩
    · exact absurd z c208
    · exact absurd c44 z)
  (fun c3 c14 _ _ c19 c33 v38 j34 K39 e37 c44 c192 v207 j203 e206 c208 c209 => by
    obtain ⟨k, hk, rfl⟩ := hK.gk c3 c14
    have hkb := hK.mi.kb
    rw [ofN_clamp (show k < 2147483648 by omega)] at c19
    rw [repl_D hK hk] at e37 c33
    rw [ofN_clamp (show k < 2147483648 by omega)] at e206
    rcases (repl_no (x := 0) hK hG hk e37 e206).2.1 with ⟨_, z⟩ | ⟨z, _⟩
    · exact absurd z c208
    · exact absurd c44 z)
  (fun c3 c14 _ _ c19 c33 v38 j34 K39 e37 c44 c192 v207 j203 e206 c208 => by
    obtain ⟨k, hk, rfl⟩ := hK.gk c3 c14
    have hkb := hK.mi.kb
    rw [ofN_clamp (show k < 2147483648 by omega)] at c19
    rw [repl_D hK hk] at e37 c33
    rw [ofN_clamp (show k < 2147483648 by omega)] at e206
    rw [ofN_clamp (show k < 2147483648 by omega)]
    exact (repl_no hK hG hk e37 e206).2.2)
  (fun c3 c14 _ _ c19 c33 v38 j34 K39 e37 c44 c192 => by
    obtain ⟨k, hk, rfl⟩ := hK.gk c3 c14
    have hkb := hK.mi.kb
    rw [ofN_clamp (show k < 2147483648 by omega)] at c19
    rw [repl_D hK hk] at e37 c33
    rw [ofN_clamp (show k < 2147483648 by omega)] at c192
    exact c33 c192)
  (fun c3 c14 _ _ c19 c33 c242 v256 j252 e255 c257 c258 v265 j261 e264 => by
    obtain ⟨k, hk, rfl⟩ := hK.gk c3 c14
    have hkb := hK.mi.kb
    rw [ofN_clamp (show k < 2147483648 by omega)] at c19
    rw [repl_D hK hk] at c33
    rw [ofN_clamp (show k < 2147483648 by omega)] at c242
    exact absurd c33 c242)
  (fun c3 c14 _ _ c19 c33 c242 v256 j252 e255 c257 c258 => by
    obtain ⟨k, hk, rfl⟩ := hK.gk c3 c14
    have hkb := hK.mi.kb
    rw [ofN_clamp (show k < 2147483648 by omega)] at c19
    rw [repl_D hK hk] at c33
    rw [ofN_clamp (show k < 2147483648 by omega)] at c242
    exact absurd c33 c242)
  (fun c3 c14 _ _ c19 c33 c242 v256 j252 e255 c257 => by
    obtain ⟨k, hk, rfl⟩ := hK.gk c3 c14
    have hkb := hK.mi.kb
    rw [ofN_clamp (show k < 2147483648 by omega)] at c19
    rw [repl_D hK hk] at c33
    rw [ofN_clamp (show k < 2147483648 by omega)] at c242
    exact absurd c33 c242)
end
