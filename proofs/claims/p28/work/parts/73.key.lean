/-! part 73: the relation of keys and doors: a new key, a wish -/
theorem tb_1shl {k j : Nat} (hk : k < 32) : tb ((1 : Int32) <<< (Int32.ofNat k &&& 31)) j = decide (j = k) := by
  rw [tb_shl, shD_nat hk]
/-- a new key, on both sides -/
theorem RK_key {I J : Nat → Nat → Int32} {L K : Nat → Nat → Int64} {R : Nat → Nat} (h : RK I L R) (g14 : I 85 43 = I 1 4) (hn : nkI I < 16) {t : Nat → Nat} (ht : ∀ c, c < ncI I → t c < mdI I) (hnear : nearM I t) {D : Int32} (hD : ∀ d, tb D d = true → d < ndI I ∧ (I 85 43 &&& I 97 d) = 0) {v : Int64} (hv : isCuts v t (ncI I))
    (e : ∀ a b, ¬ scr a b → ¬ ((a = 0 ∧ b = 9) ∨ (a = 85 ∧ b = 35) ∨ a = 86 ∨ a = 88 ∨ a = 95 ∨ (19 ≤ a ∧ a ≤ 34 ∧ b = 1) ∨ (19 ≤ a ∧ a ≤ 34 ∧ b = 3) ∨ (35 ≤ a ∧ a ≤ 44 ∧ b = 1)) → J a b = I a b)
    (eL1 : K 1 5 = L 1 5) (eL15 : ∀ b, K 15 b = L 15 b)
    (c1 : J 85 35 = Int32.ofNat (nkI I + 1)) (c2 : J 0 9 = Int32.ofNat (nkI I + 1))
    (c3 : ∀ c, c < ncI I → J 86 (6 * nkI I + c) = Int32.ofNat (t c)) (c4 : ∀ k c, k < nkI I → c < ncI I → J 86 (6 * k + c) = I 86 (6 * k + c))
    (c5 : ∀ k, k < 16 → J 88 k = if k = nkI I then D else I 88 k)
    (c6 : J 95 (nkI I) = I 85 43) (c7 : ∀ k, k < nkI I → J 95 k = I 95 k)
    (c8 : K (19 + nkI I) 0 = v) (c9 : ∀ k, k < nkI I → K (19 + k) 0 = L (19 + k) 0)
    (d1 : J (19 + nkI I) 1 = I 85 43) (d2 : ∀ k, k < nkI I → J (19 + k) 1 = I (19 + k) 1)
    (d3 : ∀ j, j < 32 → tb (J (19 + nkI I) 3) j = decide (j = nkI I)) (d4 : ∀ k, k < nkI I → J (19 + k) 3 = I (19 + k) 3)
    (d5 : ∀ d k, d < 10 → tb (J (R d) 1) k = if k = nkI I then tb D d else tb (I (R d) 1) k) : RK J K R := by
  have hm := h.mi
  have n6 := hm.c6
  have m6 := hm.m6
  have hdb := hm.db
  have q_nk : nkI J = nkI I + 1 := by
    show (J 85 35).toNatClampNeg = _
    rw [c1]; exact ofN_clamp (by omega)
  have q_nc : ncI J = ncI I := by unfold ncI; rw [e 85 31 (by unfold scr; omega) (by omega)]
  have q_md : mdI J = mdI I := by unfold mdI; rw [e 85 32 (by unfold scr; omega) (by omega)]
  have q_nd : ndI J = ndI I := by unfold ndI; rw [e 85 36 (by unfold scr; omega) (by omega)]
  have q_ca : ∀ a b, cA J a b = cA I a b := fun a b => by unfold cA; rw [e 85 33 (by unfold scr; omega) (by omega)]
  have e96 : ∀ b, J 96 b = I 96 b := fun b => e 96 b (by unfold scr; omega) (by omega)
  have e97 : ∀ b, J 97 b = I 97 b := fun b => e 97 b (by unfold scr; omega) (by omega)
  have dpN : ∀ c, c < ncI I → dpM J (nkI I) c = t c := fun c hc => by
    have := ht c hc
    unfold dpM
    rw [c3 c hc, ofN_clamp (by omega)]
  have dpO : ∀ k c, k < nkI I → c < ncI I → dpM J k c = dpM I k c := fun k c hk hc => by unfold dpM; rw [c4 k c hk hc]
  have c95 : ∀ k, k < nkI I + 1 → J 95 k = if k = nkI I then I 85 43 else I 95 k := fun k hk => by
    by_cases g : k = nkI I
    · rw [if_pos g, g, c6]
    · rw [if_neg g, c7 k (by omega)]
  refine RK_up_key h (fun a b q1 q2 => e a b q1 (by omega)) eL1 eL15 (MI_up_key hm (fun a b q1 q2 => e a b q1 (by omega)) ?_ ?_ ?_ ?_ ?_ ?_ ?_ ?_ ?_) ?_ ?_ ?_ ?_ ?_ ?_ ?_
  · rw [c1, q_nk]
  · rw [q_nk]; omega
  · intro k c hk hc
    rw [q_nk] at hk
    rw [q_nc] at hc
    rw [q_md]
    by_cases g : k = nkI I
    · subst g
      exact ⟨t c, ht c hc, c3 c hc⟩
    · rw [c4 k c (by omega) hc]
      exact hm.dep k c (by omega) hc
  · intro k c hk hc
    rw [q_nk] at hk
    rw [q_nc] at hc
    rw [q_ca]
    by_cases g : k = nkI I
    · subst g
      rw [dpN (c + 1) hc, dpN c (by omega)]
      exact hnear (c + 1) (by omega) hc
    · rw [dpO k (c + 1) (by omega) hc, dpO k c (by omega) (by omega)]
      exact hm.near k c (by omega) hc
  · intro k hk
    rw [q_nk] at hk
    rw [q_nk, e96]
    by_cases g : k = nkI I
    · subst g
      exact ⟨nkI I, by omega, hm.ru _ (Nat.le_refl _) hn⟩
    · obtain ⟨z, z1, z2⟩ := hm.rb k (by omega)
      exact ⟨z, by omega, z2⟩
  · intro k hk h16
    rw [q_nk] at hk
    rw [e96]
    exact hm.ru k (by omega) h16
  · intro d k hk hb
    rw [c5 k hk] at hb
    rw [q_nk, q_nd]
    by_cases g : k = nkI I
    · rw [if_pos g] at hb
      exact ⟨by omega, (hD d hb).1⟩
    · rw [if_neg g] at hb
      have := hm.wu d k hk hb
      exact ⟨by omega, this.2⟩
  · intro d k hk hb
    rw [c5 k hk] at hb
    rw [e97]
    by_cases g : k = nkI I
    · rw [if_pos g] at hb
      rw [g, c6]
      exact (hD d hb).2
    · rw [if_neg g] at hb
      have hw := (hm.wu d k hk hb).1
      rw [c7 k hw]
      exact hm.wf d k hk hb
  · intro k hk h16
    rw [q_nk] at hk
    rw [e 89 k (by unfold scr; omega) (by omega)]
    exact hm.hu k (by omega) h16
  · rw [c2, c1]
  · intro k hk
    rw [q_nk] at hk
    rw [q_nc]
    by_cases g : k = nkI I
    · subst g
      rw [c8]
      exact isCuts_cg hv (fun c hc => (dpN c hc).symm)
    · rw [c9 k (by omega)]
      exact isCuts_cg (h.kc k (by omega)) (fun c hc => (dpO k c (by omega) hc).symm)
  · intro k hk
    rw [q_nk] at hk
    by_cases g : k = nkI I
    · subst g; rw [c6, d1]
    · rw [c7 k (by omega), d2 k (by omega)]; exact h.kp k (by omega)
  · intro k hk hh
    rw [q_nk] at hk
    have e89 : J 89 k = I 89 k := e 89 k (by unfold scr; omega) (by omega)
    have e90 : J 90 k = I 90 k := e 90 k (by unfold scr; omega) (by omega)
    have e5 : J (19 + k) 5 = I (19 + k) 5 := e (19 + k) 5 (by unfold scr; omega) (by omega)
    rw [e89] at hh
    rw [e90, e5]
    by_cases g : k = nkI I
    · exact absurd (hm.hu k (by omega) (by omega)) hh
    · exact h.kd k (by omega) hh
  · intro k j hk hj
    rw [q_nk] at hk
    rw [q_nk, e96, e96]
    have un : I 96 (nkI I) = Int32.ofNat (nkI I) := hm.ru _ (Nat.le_refl _) hn
    have old : ∀ i, i < nkI I → ¬ I 96 i = Int32.ofNat (nkI I) := fun i hi z => by
      obtain ⟨y, y1, y2⟩ := hm.rb i hi
      rw [y2] at z
      have := (oN_inj (by omega) (by omega)).mp z
      omega
    by_cases g : k = nkI I
    · subst g
      rw [d3 j hj, decide_eq_true_eq, un]
      constructor
      · intro z; subst z; exact ⟨by omega, un⟩
      · rintro ⟨z1, z2⟩
        apply Classical.byContradiction
        intro z
        exact old j (by omega) z2
    · rw [d4 k (by omega), h.kr k j (by omega) hj]
      constructor
      · rintro ⟨z1, z2⟩; exact ⟨by omega, z2⟩
      · rintro ⟨z1, z2⟩
        refine ⟨?_, z2⟩
        apply Classical.byContradiction
        intro z
        have : j = nkI I := by omega
        subst this
        exact old k (by omega) (z2.symm.trans un)
  · intro d k hd hk
    rw [d5 d k hd, c5 k hk]
    by_cases g : k = nkI I
    · rw [if_pos g, if_pos g]
    · rw [if_neg g, if_neg g]; exact h.wi d k hd hk
  · intro d k hd hk
    rw [d5 d k hd, if_neg (by omega)]
    exact h.w0 d k hd hk
/-- a wish more or less -/
theorem RK_wish {I J : Nat → Nat → Int32} {L K : Nat → Nat → Int64} {R : Nat → Nat} (h : RK I L R) {d0 k0 : Nat} {b : Bool} (hd : d0 < ndI I) (hk : k0 < nkI I) (hf : b = true → (I 95 k0 &&& I 97 d0) = 0)
    (e : ∀ a b, ¬ scr a b → ¬ (a = 88 ∨ (35 ≤ a ∧ a ≤ 44 ∧ b = 1)) → J a b = I a b) (eL0 : ∀ k, k < 16 → K (19 + k) 0 = L (19 + k) 0) (eL1 : K 1 5 = L 1 5) (eL15 : ∀ b, K 15 b = L 15 b)
    (c1 : ∀ k d, k < 16 → tb (J 88 k) d = if k = k0 ∧ d = d0 then b else tb (I 88 k) d) (c2 : ∀ d k, d < 10 → tb (J (R d) 1) k = if k = k0 ∧ d = d0 then b else tb (I (R d) 1) k) : RK J K R := by
  have hm := h.mi
  have hkb := hm.kb
  have q_nk : nkI J = nkI I := by unfold nkI; rw [e 85 35 (by unfold scr; omega) (by omega)]
  have q_nd : ndI J = ndI I := by unfold ndI; rw [e 85 36 (by unfold scr; omega) (by omega)]
  have e95 : ∀ b, J 95 b = I 95 b := fun b => e 95 b (by unfold scr; omega) (by omega)
  have e97 : ∀ b, J 97 b = I 97 b := fun b => e 97 b (by unfold scr; omega) (by omega)
  refine RK_up_wish h e eL0 eL1 eL15 (MI_up_wish hm e ?_ ?_) ?_ ?_
  · intro d k hk16 hb
    rw [c1 k d hk16] at hb
    rw [q_nk, q_nd]
    by_cases g : k = k0 ∧ d = d0
    · rw [g.1, g.2]; exact ⟨hk, hd⟩
    · rw [if_neg g] at hb; exact hm.wu d k hk16 hb
  · intro d k hk16 hb
    rw [c1 k d hk16] at hb
    rw [e95, e97]
    by_cases g : k = k0 ∧ d = d0
    · rw [if_pos g] at hb
      rw [g.1, g.2]; exact hf hb
    · rw [if_neg g] at hb; exact hm.wf d k hk16 hb
  · intro d k hd' hk16
    rw [c2 d k hd', c1 k d hk16]
    by_cases g : k = k0 ∧ d = d0
    · rw [if_pos g, if_pos g]
    · rw [if_neg g, if_neg g]; exact h.wi d k hd' hk16
  · intro d k hd' hk16
    rw [c2 d k hd', if_neg (by omega)]
    exact h.w0 d k hd' hk16
