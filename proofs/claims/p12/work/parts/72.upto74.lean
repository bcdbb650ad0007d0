/-! some parts, joined -/
section
/-! part 72: the relation of keys and doors when cells change (printed by wip/q/rkup.py) -/
theorem MI_up_0 {I J : Nat → Nat → Int32} (hm : MI I) (e : ∀ a b, ¬ scr a b → J a b = I a b) : MI J := by
  have e86 : ∀ b, J 86 b = I 86 b := fun b => e 86 b (by unfold scr; omega)
  have e87 : ∀ b, J 87 b = I 87 b := fun b => e 87 b (by unfold scr; omega)
  have e88 : ∀ b, J 88 b = I 88 b := fun b => e 88 b (by unfold scr; omega)
  have e89 : ∀ b, J 89 b = I 89 b := fun b => e 89 b (by unfold scr; omega)
  have e90 : ∀ b, J 90 b = I 90 b := fun b => e 90 b (by unfold scr; omega)
  have e92 : ∀ b, J 92 b = I 92 b := fun b => e 92 b (by unfold scr; omega)
  have e95 : ∀ b, J 95 b = I 95 b := fun b => e 95 b (by unfold scr; omega)
  have e96 : ∀ b, J 96 b = I 96 b := fun b => e 96 b (by unfold scr; omega)
  have e97 : ∀ b, J 97 b = I 97 b := fun b => e 97 b (by unfold scr; omega)
  have e98 : ∀ b, J 98 b = I 98 b := fun b => e 98 b (by unfold scr; omega)
  have e104 : ∀ b, J 104 b = I 104 b := fun b => e 104 b (by unfold scr; omega)
  have e105 : ∀ b, J 105 b = I 105 b := fun b => e 105 b (by unfold scr; omega)
  have q_nk : nkI J = nkI I := by unfold nkI; rw [e 85 35 (by unfold scr; omega)]
  have q_nd : ndI J = ndI I := by unfold ndI; rw [e 85 36 (by unfold scr; omega)]
  have q_nc : ncI J = ncI I := by unfold ncI; rw [e 85 31 (by unfold scr; omega)]
  have q_md : mdI J = mdI I := by unfold mdI; rw [e 85 32 (by unfold scr; omega)]
  have q_sz : szI J = szI I := by unfold szI; rw [e 85 34 (by unfold scr; omega)]
  have q_nb : nbI J = nbI I := by unfold nbI; rw [e 85 46 (by unfold scr; omega)]
  have q_ca : cA J = cA I := by funext d e2; unfold cA; rw [e 85 33 (by unfold scr; omega)]
  have q_dp : dpM J = dpM I := by funext k c; unfold dpM; rw [e86]
  refine ⟨?_, ?_, ?_, ?_, ?_, ?_, ?_, ?_, ?_, ?_, ?_, ?_, ?_, ?_, ?_, ?_, ?_, ?_, ?_, ?_, ?_, ?_, ?_, ?_, ?_, ?_, ?_⟩
  · rw [e 85 35 (by unfold scr; omega), q_nk]; exact hm.k
  · simp only [e86, e87, e88, e89, e90, e92, e95, e96, e97, e98, e104, e105, q_nk, q_nd, q_nc, q_md, q_sz, q_nb, q_ca, q_dp]; exact hm.kb
  · rw [e 85 36 (by unfold scr; omega), q_nd]; exact hm.d
  · simp only [e86, e87, e88, e89, e90, e92, e95, e96, e97, e98, e104, e105, q_nk, q_nd, q_nc, q_md, q_sz, q_nb, q_ca, q_dp]; exact hm.db
  · rw [e 85 31 (by unfold scr; omega), q_nc]; exact hm.c
  · simp only [e86, e87, e88, e89, e90, e92, e95, e96, e97, e98, e104, e105, q_nk, q_nd, q_nc, q_md, q_sz, q_nb, q_ca, q_dp]; exact hm.c3
  · simp only [e86, e87, e88, e89, e90, e92, e95, e96, e97, e98, e104, e105, q_nk, q_nd, q_nc, q_md, q_sz, q_nb, q_ca, q_dp]; exact hm.c6
  · rw [e 85 32 (by unfold scr; omega), q_md]; exact hm.m
  · simp only [e86, e87, e88, e89, e90, e92, e95, e96, e97, e98, e104, e105, q_nk, q_nd, q_nc, q_md, q_sz, q_nb, q_ca, q_dp]; exact hm.m2
  · simp only [e86, e87, e88, e89, e90, e92, e95, e96, e97, e98, e104, e105, q_nk, q_nd, q_nc, q_md, q_sz, q_nb, q_ca, q_dp]; exact hm.m6
  · rw [e 85 34 (by unfold scr; omega), q_sz]; exact hm.s
  · simp only [e86, e87, e88, e89, e90, e92, e95, e96, e97, e98, e104, e105, q_nk, q_nd, q_nc, q_md, q_sz, q_nb, q_ca, q_dp]; exact hm.sc
  · rw [e 85 46 (by unfold scr; omega), q_nb]; exact hm.b
  · simp only [e86, e87, e88, e89, e90, e92, e95, e96, e97, e98, e104, e105, q_nk, q_nd, q_nc, q_md, q_sz, q_nb, q_ca, q_dp]; exact hm.bb
  · rw [e 85 33 (by unfold scr; omega)]; exact hm.ap
  · simp only [e86, e87, e88, e89, e90, e92, e95, e96, e97, e98, e104, e105, q_nk, q_nd, q_nc, q_md, q_sz, q_nb, q_ca, q_dp]; exact hm.dep
  · simp only [e86, e87, e88, e89, e90, e92, e95, e96, e97, e98, e104, e105, q_nk, q_nd, q_nc, q_md, q_sz, q_nb, q_ca, q_dp]; exact hm.near
  · simp only [e86, e87, e88, e89, e90, e92, e95, e96, e97, e98, e104, e105, q_nk, q_nd, q_nc, q_md, q_sz, q_nb, q_ca, q_dp]; exact hm.told
  · simp only [e86, e87, e88, e89, e90, e92, e95, e96, e97, e98, e104, e105, q_nk, q_nd, q_nc, q_md, q_sz, q_nb, q_ca, q_dp]; exact hm.toldn
  · simp only [e86, e87, e88, e89, e90, e92, e95, e96, e97, e98, e104, e105, q_nk, q_nd, q_nc, q_md, q_sz, q_nb, q_ca, q_dp]; exact hm.bs
  · simp only [e86, e87, e88, e89, e90, e92, e95, e96, e97, e98, e104, e105, q_nk, q_nd, q_nc, q_md, q_sz, q_nb, q_ca, q_dp]; exact hm.bd
  · simp only [e86, e87, e88, e89, e90, e92, e95, e96, e97, e98, e104, e105, q_nk, q_nd, q_nc, q_md, q_sz, q_nb, q_ca, q_dp]; exact hm.bp
  · simp only [e86, e87, e88, e89, e90, e92, e95, e96, e97, e98, e104, e105, q_nk, q_nd, q_nc, q_md, q_sz, q_nb, q_ca, q_dp]; exact hm.rb
  · simp only [e86, e87, e88, e89, e90, e92, e95, e96, e97, e98, e104, e105, q_nk, q_nd, q_nc, q_md, q_sz, q_nb, q_ca, q_dp]; exact hm.ru
  · simp only [e86, e87, e88, e89, e90, e92, e95, e96, e97, e98, e104, e105, q_nk, q_nd, q_nc, q_md, q_sz, q_nb, q_ca, q_dp]; exact hm.wu
  · simp only [e86, e87, e88, e89, e90, e92, e95, e96, e97, e98, e104, e105, q_nk, q_nd, q_nc, q_md, q_sz, q_nb, q_ca, q_dp]; exact hm.wf
  · simp only [e86, e87, e88, e89, e90, e92, e95, e96, e97, e98, e104, e105, q_nk, q_nd, q_nc, q_md, q_sz, q_nb, q_ca, q_dp]; exact hm.hu
theorem RK_up_0 {I J : Nat → Nat → Int32} {L K : Nat → Nat → Int64} {R : Nat → Nat} (h : RK I L R) (e : ∀ a b, ¬ scr a b → J a b = I a b) (eL0 : ∀ k, k < 16 → K (19 + k) 0 = L (19 + k) 0) (eL1 : K 1 5 = L 1 5) (eL15 : ∀ b, K 15 b = L 15 b) (m : MI J) : RK J K R := by
  have e86 : ∀ b, J 86 b = I 86 b := fun b => e 86 b (by unfold scr; omega)
  have e87 : ∀ b, J 87 b = I 87 b := fun b => e 87 b (by unfold scr; omega)
  have e88 : ∀ b, J 88 b = I 88 b := fun b => e 88 b (by unfold scr; omega)
  have e89 : ∀ b, J 89 b = I 89 b := fun b => e 89 b (by unfold scr; omega)
  have e90 : ∀ b, J 90 b = I 90 b := fun b => e 90 b (by unfold scr; omega)
  have e92 : ∀ b, J 92 b = I 92 b := fun b => e 92 b (by unfold scr; omega)
  have e95 : ∀ b, J 95 b = I 95 b := fun b => e 95 b (by unfold scr; omega)
  have e96 : ∀ b, J 96 b = I 96 b := fun b => e 96 b (by unfold scr; omega)
  have e97 : ∀ b, J 97 b = I 97 b := fun b => e 97 b (by unfold scr; omega)
  have e98 : ∀ b, J 98 b = I 98 b := fun b => e 98 b (by unfold scr; omega)
  have e104 : ∀ b, J 104 b = I 104 b := fun b => e 104 b (by unfold scr; omega)
  have e105 : ∀ b, J 105 b = I 105 b := fun b => e 105 b (by unfold scr; omega)
  have q_nk : nkI J = nkI I := by unfold nkI; rw [e 85 35 (by unfold scr; omega)]
  have q_nd : ndI J = ndI I := by unfold ndI; rw [e 85 36 (by unfold scr; omega)]
  have q_nc : ncI J = ncI I := by unfold ncI; rw [e 85 31 (by unfold scr; omega)]
  have q_md : mdI J = mdI I := by unfold mdI; rw [e 85 32 (by unfold scr; omega)]
  have q_sz : szI J = szI I := by unfold szI; rw [e 85 34 (by unfold scr; omega)]
  have q_nb : nbI J = nbI I := by unfold nbI; rw [e 85 46 (by unfold scr; omega)]
  have q_dp : dpM J = dpM I := by funext k c; unfold dpM; rw [e86]
  have hkb := h.mi.kb
  have f1 : ∀ k, k < 16 → J (19 + k) 1 = I (19 + k) 1 := fun k hk => e (19 + k) 1 (by unfold scr; omega)
  have f2 : ∀ k, k < 16 → J (19 + k) 2 = I (19 + k) 2 := fun k hk => e (19 + k) 2 (by unfold scr; omega)
  have f3 : ∀ k, k < 16 → J (19 + k) 3 = I (19 + k) 3 := fun k hk => e (19 + k) 3 (by unfold scr; omega)
  have f4 : ∀ k, k < 16 → J (19 + k) 4 = I (19 + k) 4 := fun k hk => e (19 + k) 4 (by unfold scr; omega)
  have f5 : ∀ k, k < 16 → J (19 + k) 5 = I (19 + k) 5 := fun k hk => e (19 + k) 5 (by unfold scr; omega)
  have g0 : ∀ d, d < 10 → J (R d) 0 = I (R d) 0 := fun d hd => by
    have := h.rr d hd
    exact e (R d) 0 (by unfold scr; omega)
  have g1 : ∀ d, d < 10 → J (R d) 1 = I (R d) 1 := fun d hd => by
    have := h.rr d hd
    exact e (R d) 1 (by unfold scr; omega)
  have g2 : ∀ d, d < 10 → J (R d) 2 = I (R d) 2 := fun d hd => by
    have := h.rr d hd
    exact e (R d) 2 (by unfold scr; omega)
  refine ⟨m, ?_, ?_, ?_, ?_, ?_, ?_, ?_, ?_, ?_, ?_, ?_, ?_, ?_, ?_, ?_, ?_, ?_, ?_, ?_, ?_, ?_, ?_⟩
  · exact by rw [e 1 1 (by unfold scr; omega), e 85 31 (by unfold scr; omega)]; exact h.ch
  · exact by rw [e 1 2 (by unfold scr; omega), e 85 32 (by unfold scr; omega)]; exact h.dp
  · exact by rw [e 1 3 (by unfold scr; omega), e 85 33 (by unfold scr; omega)]; exact h.ap
  · exact by rw [e 1 6 (by unfold scr; omega), e 85 34 (by unfold scr; omega)]; exact h.sz
  · exact by rw [e 0 9 (by unfold scr; omega), e 85 35 (by unfold scr; omega)]; exact h.nk
  · exact by rw [e 0 10 (by unfold scr; omega), e 85 36 (by unfold scr; omega)]; exact h.nd
  · exact by rw [e 0 17 (by unfold scr; omega), e 85 44 (by unfold scr; omega)]; exact h.ct
  · exact by rw [e 0 12 (by unfold scr; omega), e 85 46 (by unfold scr; omega)]; exact h.nb
  · exact fun k hk => by
      rw [q_nk] at hk
      rw [eL0 k (by omega), q_dp, q_nc]; exact h.kc k hk
  · exact fun k hk => by
      rw [q_nk] at hk
      rw [e95, f1 k (by omega)]; exact h.kp k hk
  · exact fun k hk => by rw [e92, f2 k hk]; exact h.kl k hk
  · exact fun k hk => by rw [e89, f4 k hk]; exact h.kh k hk
  · exact fun k hk => by
      rw [q_nk] at hk
      rw [e89, e90, f5 k (by omega)]; exact h.kd k hk
  · exact fun k j hk hj => by
      rw [q_nk] at hk
      rw [f3 k (by omega), q_nk, e96, e96]; exact h.kr k j hk hj
  · exact fun d k hd hk => by rw [g1 d hd, e88]; exact h.wi d k hd hk
  · exact fun d k hd hk => by rw [g1 d hd]; exact h.w0 d k hd hk
  · exact fun d hd => by rw [e97, g0 d hd]; exact h.wa d hd
  · exact fun d hd => by rw [e98, g2 d hd]; exact h.bu d hd
  · exact h.rr
  · exact h.ri
  · exact by rw [eL1, q_sz]; simp only [e87]; exact h.to
  · exact fun b hb => by
      rw [q_nb] at hb
      rw [eL15]; simp only [e104, e105]; exact h.bl b hb
theorem MI_up_door {I J : Nat → Nat → Int32} (hm : MI I) (e : ∀ a b, ¬ scr a b → ¬ ((a = 0 ∧ b = 10) ∨ (a = 85 ∧ b = 36)) → J a b = I a b)
    (n_d : J 85 36 = Int32.ofNat (ndI J))
    (n_db : ndI J ≤ 10)
    (n_wu : ∀ d k, k < 16 → tb (J 88 k) d = true → k < nkI J ∧ d < ndI J) : MI J := by
  have e86 : ∀ b, J 86 b = I 86 b := fun b => e 86 b (by unfold scr; omega) (by omega)
  have e87 : ∀ b, J 87 b = I 87 b := fun b => e 87 b (by unfold scr; omega) (by omega)
  have e88 : ∀ b, J 88 b = I 88 b := fun b => e 88 b (by unfold scr; omega) (by omega)
  have e89 : ∀ b, J 89 b = I 89 b := fun b => e 89 b (by unfold scr; omega) (by omega)
  have e90 : ∀ b, J 90 b = I 90 b := fun b => e 90 b (by unfold scr; omega) (by omega)
  have e92 : ∀ b, J 92 b = I 92 b := fun b => e 92 b (by unfold scr; omega) (by omega)
  have e95 : ∀ b, J 95 b = I 95 b := fun b => e 95 b (by unfold scr; omega) (by omega)
  have e96 : ∀ b, J 96 b = I 96 b := fun b => e 96 b (by unfold scr; omega) (by omega)
  have e97 : ∀ b, J 97 b = I 97 b := fun b => e 97 b (by unfold scr; omega) (by omega)
  have e98 : ∀ b, J 98 b = I 98 b := fun b => e 98 b (by unfold scr; omega) (by omega)
  have e104 : ∀ b, J 104 b = I 104 b := fun b => e 104 b (by unfold scr; omega) (by omega)
  have e105 : ∀ b, J 105 b = I 105 b := fun b => e 105 b (by unfold scr; omega) (by omega)
  have q_nk : nkI J = nkI I := by unfold nkI; rw [e 85 35 (by unfold scr; omega) (by omega)]
  have q_nc : ncI J = ncI I := by unfold ncI; rw [e 85 31 (by unfold scr; omega) (by omega)]
  have q_md : mdI J = mdI I := by unfold mdI; rw [e 85 32 (by unfold scr; omega) (by omega)]
  have q_sz : szI J = szI I := by unfold szI; rw [e 85 34 (by unfold scr; omega) (by omega)]
  have q_nb : nbI J = nbI I := by unfold nbI; rw [e 85 46 (by unfold scr; omega) (by omega)]
  have q_ca : cA J = cA I := by funext d e2; unfold cA; rw [e 85 33 (by unfold scr; omega) (by omega)]
  have q_dp : dpM J = dpM I := by funext k c; unfold dpM; rw [e86]
  refine ⟨?_, ?_, ?_, ?_, ?_, ?_, ?_, ?_, ?_, ?_, ?_, ?_, ?_, ?_, ?_, ?_, ?_, ?_, ?_, ?_, ?_, ?_, ?_, ?_, ?_, ?_, ?_⟩
  · rw [e 85 35 (by unfold scr; omega) (by omega), q_nk]; exact hm.k
  · simp only [e86, e87, e88, e89, e90, e92, e95, e96, e97, e98, e104, e105, q_nk, q_nc, q_md, q_sz, q_nb, q_ca, q_dp]; exact hm.kb
  · exact n_d
  · exact n_db
  · rw [e 85 31 (by unfold scr; omega) (by omega), q_nc]; exact hm.c
  · simp only [e86, e87, e88, e89, e90, e92, e95, e96, e97, e98, e104, e105, q_nk, q_nc, q_md, q_sz, q_nb, q_ca, q_dp]; exact hm.c3
  · simp only [e86, e87, e88, e89, e90, e92, e95, e96, e97, e98, e104, e105, q_nk, q_nc, q_md, q_sz, q_nb, q_ca, q_dp]; exact hm.c6
  · rw [e 85 32 (by unfold scr; omega) (by omega), q_md]; exact hm.m
  · simp only [e86, e87, e88, e89, e90, e92, e95, e96, e97, e98, e104, e105, q_nk, q_nc, q_md, q_sz, q_nb, q_ca, q_dp]; exact hm.m2
  · simp only [e86, e87, e88, e89, e90, e92, e95, e96, e97, e98, e104, e105, q_nk, q_nc, q_md, q_sz, q_nb, q_ca, q_dp]; exact hm.m6
  · rw [e 85 34 (by unfold scr; omega) (by omega), q_sz]; exact hm.s
  · simp only [e86, e87, e88, e89, e90, e92, e95, e96, e97, e98, e104, e105, q_nk, q_nc, q_md, q_sz, q_nb, q_ca, q_dp]; exact hm.sc
  · rw [e 85 46 (by unfold scr; omega) (by omega), q_nb]; exact hm.b
  · simp only [e86, e87, e88, e89, e90, e92, e95, e96, e97, e98, e104, e105, q_nk, q_nc, q_md, q_sz, q_nb, q_ca, q_dp]; exact hm.bb
  · rw [e 85 33 (by unfold scr; omega) (by omega)]; exact hm.ap
  · simp only [e86, e87, e88, e89, e90, e92, e95, e96, e97, e98, e104, e105, q_nk, q_nc, q_md, q_sz, q_nb, q_ca, q_dp]; exact hm.dep
  · simp only [e86, e87, e88, e89, e90, e92, e95, e96, e97, e98, e104, e105, q_nk, q_nc, q_md, q_sz, q_nb, q_ca, q_dp]; exact hm.near
  · simp only [e86, e87, e88, e89, e90, e92, e95, e96, e97, e98, e104, e105, q_nk, q_nc, q_md, q_sz, q_nb, q_ca, q_dp]; exact hm.told
  · simp only [e86, e87, e88, e89, e90, e92, e95, e96, e97, e98, e104, e105, q_nk, q_nc, q_md, q_sz, q_nb, q_ca, q_dp]; exact hm.toldn
  · simp only [e86, e87, e88, e89, e90, e92, e95, e96, e97, e98, e104, e105, q_nk, q_nc, q_md, q_sz, q_nb, q_ca, q_dp]; exact hm.bs
  · simp only [e86, e87, e88, e89, e90, e92, e95, e96, e97, e98, e104, e105, q_nk, q_nc, q_md, q_sz, q_nb, q_ca, q_dp]; exact hm.bd
  · simp only [e86, e87, e88, e89, e90, e92, e95, e96, e97, e98, e104, e105, q_nk, q_nc, q_md, q_sz, q_nb, q_ca, q_dp]; exact hm.bp
  · simp only [e86, e87, e88, e89, e90, e92, e95, e96, e97, e98, e104, e105, q_nk, q_nc, q_md, q_sz, q_nb, q_ca, q_dp]; exact hm.rb
  · simp only [e86, e87, e88, e89, e90, e92, e95, e96, e97, e98, e104, e105, q_nk, q_nc, q_md, q_sz, q_nb, q_ca, q_dp]; exact hm.ru
  · exact n_wu
  · simp only [e86, e87, e88, e89, e90, e92, e95, e96, e97, e98, e104, e105, q_nk, q_nc, q_md, q_sz, q_nb, q_ca, q_dp]; exact hm.wf
  · simp only [e86, e87, e88, e89, e90, e92, e95, e96, e97, e98, e104, e105, q_nk, q_nc, q_md, q_sz, q_nb, q_ca, q_dp]; exact hm.hu
theorem RK_up_door {I J : Nat → Nat → Int32} {L K : Nat → Nat → Int64} {R : Nat → Nat} (h : RK I L R) (e : ∀ a b, ¬ scr a b → ¬ ((a = 0 ∧ b = 10) ∨ (a = 85 ∧ b = 36)) → J a b = I a b) (eL0 : ∀ k, k < 16 → K (19 + k) 0 = L (19 + k) 0) (eL1 : K 1 5 = L 1 5) (eL15 : ∀ b, K 15 b = L 15 b) (m : MI J)
    (n_nd : J 0 10 = J 85 36) : RK J K R := by
  have e86 : ∀ b, J 86 b = I 86 b := fun b => e 86 b (by unfold scr; omega) (by omega)
  have e87 : ∀ b, J 87 b = I 87 b := fun b => e 87 b (by unfold scr; omega) (by omega)
  have e88 : ∀ b, J 88 b = I 88 b := fun b => e 88 b (by unfold scr; omega) (by omega)
  have e89 : ∀ b, J 89 b = I 89 b := fun b => e 89 b (by unfold scr; omega) (by omega)
  have e90 : ∀ b, J 90 b = I 90 b := fun b => e 90 b (by unfold scr; omega) (by omega)
  have e92 : ∀ b, J 92 b = I 92 b := fun b => e 92 b (by unfold scr; omega) (by omega)
  have e95 : ∀ b, J 95 b = I 95 b := fun b => e 95 b (by unfold scr; omega) (by omega)
  have e96 : ∀ b, J 96 b = I 96 b := fun b => e 96 b (by unfold scr; omega) (by omega)
  have e97 : ∀ b, J 97 b = I 97 b := fun b => e 97 b (by unfold scr; omega) (by omega)
  have e98 : ∀ b, J 98 b = I 98 b := fun b => e 98 b (by unfold scr; omega) (by omega)
  have e104 : ∀ b, J 104 b = I 104 b := fun b => e 104 b (by unfold scr; omega) (by omega)
  have e105 : ∀ b, J 105 b = I 105 b := fun b => e 105 b (by unfold scr; omega) (by omega)
  have q_nk : nkI J = nkI I := by unfold nkI; rw [e 85 35 (by unfold scr; omega) (by omega)]
  have q_nc : ncI J = ncI I := by unfold ncI; rw [e 85 31 (by unfold scr; omega) (by omega)]
  have q_md : mdI J = mdI I := by unfold mdI; rw [e 85 32 (by unfold scr; omega) (by omega)]
  have q_sz : szI J = szI I := by unfold szI; rw [e 85 34 (by unfold scr; omega) (by omega)]
  have q_nb : nbI J = nbI I := by unfold nbI; rw [e 85 46 (by unfold scr; omega) (by omega)]
  have q_dp : dpM J = dpM I := by funext k c; unfold dpM; rw [e86]
  have hkb := h.mi.kb
  have f1 : ∀ k, k < 16 → J (19 + k) 1 = I (19 + k) 1 := fun k hk => e (19 + k) 1 (by unfold scr; omega) (by omega)
  have f2 : ∀ k, k < 16 → J (19 + k) 2 = I (19 + k) 2 := fun k hk => e (19 + k) 2 (by unfold scr; omega) (by omega)
  have f3 : ∀ k, k < 16 → J (19 + k) 3 = I (19 + k) 3 := fun k hk => e (19 + k) 3 (by unfold scr; omega) (by omega)
  have f4 : ∀ k, k < 16 → J (19 + k) 4 = I (19 + k) 4 := fun k hk => e (19 + k) 4 (by unfold scr; omega) (by omega)
  have f5 : ∀ k, k < 16 → J (19 + k) 5 = I (19 + k) 5 := fun k hk => e (19 + k) 5 (by unfold scr; omega) (by omega)
  have g0 : ∀ d, d < 10 → J (R d) 0 = I (R d) 0 := fun d hd => by
    have := h.rr d hd
    exact e (R d) 0 (by unfold scr; omega) (by omega)
  have g1 : ∀ d, d < 10 → J (R d) 1 = I (R d) 1 := fun d hd => by
    have := h.rr d hd
    exact e (R d) 1 (by unfold scr; omega) (by omega)
  have g2 : ∀ d, d < 10 → J (R d) 2 = I (R d) 2 := fun d hd => by
    have := h.rr d hd
    exact e (R d) 2 (by unfold scr; omega) (by omega)
  refine ⟨m, ?_, ?_, ?_, ?_, ?_, ?_, ?_, ?_, ?_, ?_, ?_, ?_, ?_, ?_, ?_, ?_, ?_, ?_, ?_, ?_, ?_, ?_⟩
  · exact by rw [e 1 1 (by unfold scr; omega) (by omega), e 85 31 (by unfold scr; omega) (by omega)]; exact h.ch
  · exact by rw [e 1 2 (by unfold scr; omega) (by omega), e 85 32 (by unfold scr; omega) (by omega)]; exact h.dp
  · exact by rw [e 1 3 (by unfold scr; omega) (by omega), e 85 33 (by unfold scr; omega) (by omega)]; exact h.ap
  · exact by rw [e 1 6 (by unfold scr; omega) (by omega), e 85 34 (by unfold scr; omega) (by omega)]; exact h.sz
  · exact by rw [e 0 9 (by unfold scr; omega) (by omega), e 85 35 (by unfold scr; omega) (by omega)]; exact h.nk
  · exact n_nd
  · exact by rw [e 0 17 (by unfold scr; omega) (by omega), e 85 44 (by unfold scr; omega) (by omega)]; exact h.ct
  · exact by rw [e 0 12 (by unfold scr; omega) (by omega), e 85 46 (by unfold scr; omega) (by omega)]; exact h.nb
  · exact fun k hk => by
      rw [q_nk] at hk
      rw [eL0 k (by omega), q_dp, q_nc]; exact h.kc k hk
  · exact fun k hk => by
      rw [q_nk] at hk
      rw [e95, f1 k (by omega)]; exact h.kp k hk
  · exact fun k hk => by rw [e92, f2 k hk]; exact h.kl k hk
  · exact fun k hk => by rw [e89, f4 k hk]; exact h.kh k hk
  · exact fun k hk => by
      rw [q_nk] at hk
      rw [e89, e90, f5 k (by omega)]; exact h.kd k hk
  · exact fun k j hk hj => by
      rw [q_nk] at hk
      rw [f3 k (by omega), q_nk, e96, e96]; exact h.kr k j hk hj
  · exact fun d k hd hk => by rw [g1 d hd, e88]; exact h.wi d k hd hk
  · exact fun d k hd hk => by rw [g1 d hd]; exact h.w0 d k hd hk
  · exact fun d hd => by rw [e97, g0 d hd]; exact h.wa d hd
  · exact fun d hd => by rw [e98, g2 d hd]; exact h.bu d hd
  · exact h.rr
  · exact h.ri
  · exact by rw [eL1, q_sz]; simp only [e87]; exact h.to
  · exact fun b hb => by
      rw [q_nb] at hb
      rw [eL15]; simp only [e104, e105]; exact h.bl b hb
theorem MI_up_wish {I J : Nat → Nat → Int32} (hm : MI I) (e : ∀ a b, ¬ scr a b → ¬ (a = 88 ∨ (35 ≤ a ∧ a ≤ 44 ∧ b = 1)) → J a b = I a b)
    (n_wu : ∀ d k, k < 16 → tb (J 88 k) d = true → k < nkI J ∧ d < ndI J)
    (n_wf : ∀ d k, k < 16 → tb (J 88 k) d = true → (J 95 k &&& J 97 d) = 0) : MI J := by
  have e86 : ∀ b, J 86 b = I 86 b := fun b => e 86 b (by unfold scr; omega) (by omega)
  have e87 : ∀ b, J 87 b = I 87 b := fun b => e 87 b (by unfold scr; omega) (by omega)
  have e89 : ∀ b, J 89 b = I 89 b := fun b => e 89 b (by unfold scr; omega) (by omega)
  have e90 : ∀ b, J 90 b = I 90 b := fun b => e 90 b (by unfold scr; omega) (by omega)
  have e92 : ∀ b, J 92 b = I 92 b := fun b => e 92 b (by unfold scr; omega) (by omega)
  have e95 : ∀ b, J 95 b = I 95 b := fun b => e 95 b (by unfold scr; omega) (by omega)
  have e96 : ∀ b, J 96 b = I 96 b := fun b => e 96 b (by unfold scr; omega) (by omega)
  have e97 : ∀ b, J 97 b = I 97 b := fun b => e 97 b (by unfold scr; omega) (by omega)
  have e98 : ∀ b, J 98 b = I 98 b := fun b => e 98 b (by unfold scr; omega) (by omega)
  have e104 : ∀ b, J 104 b = I 104 b := fun b => e 104 b (by unfold scr; omega) (by omega)
  have e105 : ∀ b, J 105 b = I 105 b := fun b => e 105 b (by unfold scr; omega) (by omega)
  have q_nk : nkI J = nkI I := by unfold nkI; rw [e 85 35 (by unfold scr; omega) (by omega)]
  have q_nd : ndI J = ndI I := by unfold ndI; rw [e 85 36 (by unfold scr; omega) (by omega)]
  have q_nc : ncI J = ncI I := by unfold ncI; rw [e 85 31 (by unfold scr; omega) (by omega)]
  have q_md : mdI J = mdI I := by unfold mdI; rw [e 85 32 (by unfold scr; omega) (by omega)]
  have q_sz : szI J = szI I := by unfold szI; rw [e 85 34 (by unfold scr; omega) (by omega)]
  have q_nb : nbI J = nbI I := by unfold nbI; rw [e 85 46 (by unfold scr; omega) (by omega)]
  have q_ca : cA J = cA I := by funext d e2; unfold cA; rw [e 85 33 (by unfold scr; omega) (by omega)]
  have q_dp : dpM J = dpM I := by funext k c; unfold dpM; rw [e86]
  refine ⟨?_, ?_, ?_, ?_, ?_, ?_, ?_, ?_, ?_, ?_, ?_, ?_, ?_, ?_, ?_, ?_, ?_, ?_, ?_, ?_, ?_, ?_, ?_, ?_, ?_, ?_, ?_⟩
  · rw [e 85 35 (by unfold scr; omega) (by omega), q_nk]; exact hm.k
  · simp only [e86, e87, e89, e90, e92, e95, e96, e97, e98, e104, e105, q_nk, q_nd, q_nc, q_md, q_sz, q_nb, q_ca, q_dp]; exact hm.kb
  · rw [e 85 36 (by unfold scr; omega) (by omega), q_nd]; exact hm.d
  · simp only [e86, e87, e89, e90, e92, e95, e96, e97, e98, e104, e105, q_nk, q_nd, q_nc, q_md, q_sz, q_nb, q_ca, q_dp]; exact hm.db
  · rw [e 85 31 (by unfold scr; omega) (by omega), q_nc]; exact hm.c
  · simp only [e86, e87, e89, e90, e92, e95, e96, e97, e98, e104, e105, q_nk, q_nd, q_nc, q_md, q_sz, q_nb, q_ca, q_dp]; exact hm.c3
  · simp only [e86, e87, e89, e90, e92, e95, e96, e97, e98, e104, e105, q_nk, q_nd, q_nc, q_md, q_sz, q_nb, q_ca, q_dp]; exact hm.c6
  · rw [e 85 32 (by unfold scr; omega) (by omega), q_md]; exact hm.m
  · simp only [e86, e87, e89, e90, e92, e95, e96, e97, e98, e104, e105, q_nk, q_nd, q_nc, q_md, q_sz, q_nb, q_ca, q_dp]; exact hm.m2
  · simp only [e86, e87, e89, e90, e92, e95, e96, e97, e98, e104, e105, q_nk, q_nd, q_nc, q_md, q_sz, q_nb, q_ca, q_dp]; exact hm.m6
  · rw [e 85 34 (by unfold scr; omega) (by omega), q_sz]; exact hm.s
  · simp only [e86, e87, e89, e90, e92, e95, e96, e97, e98, e104, e105, q_nk, q_nd, q_nc, q_md, q_sz, q_nb, q_ca, q_dp]; exact hm.sc
  · rw [e 85 46 (by unfold scr; omega) (by omega), q_nb]; exact hm.b
  · simp only [e86, e87, e89, e90, e92, e95, e96, e97, e98, e104, e105, q_nk, q_nd, q_nc, q_md, q_sz, q_nb, q_ca, q_dp]; exact hm.bb
  · rw [e 85 33 (by unfold scr; omega) (by omega)]; exact hm.ap
  · simp only [e86, e87, e89, e90, e92, e95, e96, e97, e98, e104, e105, q_nk, q_nd, q_nc, q_md, q_sz, q_nb, q_ca, q_dp]; exact hm.dep
  · simp only [e86, e87, e89, e90, e92, e95, e96, e97, e98, e104, e105, q_nk, q_nd, q_nc, q_md, q_sz, q_nb, q_ca, q_dp]; exact hm.near
  · simp only [e86, e87, e89, e90, e92, e95, e96, e97, e98, e104, e105, q_nk, q_nd, q_nc, q_md, q_sz, q_nb, q_ca, q_dp]; exact hm.told
  · simp only [e86, e87, e89, e90, e92, e95, e96, e97, e98, e104, e105, q_nk, q_nd, q_nc, q_md, q_sz, q_nb, q_ca, q_dp]; exact hm.toldn
  · simp only [e86, e87, e89, e90, e92, e95, e96, e97, e98, e104, e105, q_nk, q_nd, q_nc, q_md, q_sz, q_nb, q_ca, q_dp]; exact hm.bs
  · simp only [e86, e87, e89, e90, e92, e95, e96, e97, e98, e104, e105, q_nk, q_nd, q_nc, q_md, q_sz, q_nb, q_ca, q_dp]; exact hm.bd
  · simp only [e86, e87, e89, e90, e92, e95, e96, e97, e98, e104, e105, q_nk, q_nd, q_nc, q_md, q_sz, q_nb, q_ca, q_dp]; exact hm.bp
  · simp only [e86, e87, e89, e90, e92, e95, e96, e97, e98, e104, e105, q_nk, q_nd, q_nc, q_md, q_sz, q_nb, q_ca, q_dp]; exact hm.rb
  · simp only [e86, e87, e89, e90, e92, e95, e96, e97, e98, e104, e105, q_nk, q_nd, q_nc, q_md, q_sz, q_nb, q_ca, q_dp]; exact hm.ru
  · exact n_wu
  · exact n_wf
  · simp only [e86, e87, e89, e90, e92, e95, e96, e97, e98, e104, e105, q_nk, q_nd, q_nc, q_md, q_sz, q_nb, q_ca, q_dp]; exact hm.hu
theorem RK_up_wish {I J : Nat → Nat → Int32} {L K : Nat → Nat → Int64} {R : Nat → Nat} (h : RK I L R) (e : ∀ a b, ¬ scr a b → ¬ (a = 88 ∨ (35 ≤ a ∧ a ≤ 44 ∧ b = 1)) → J a b = I a b) (eL0 : ∀ k, k < 16 → K (19 + k) 0 = L (19 + k) 0) (eL1 : K 1 5 = L 1 5) (eL15 : ∀ b, K 15 b = L 15 b) (m : MI J)
    (n_wi : ∀ d k, d < 10 → k < 16 → tb (J (R d) 1) k = tb (J 88 k) d)
    (n_w0 : ∀ d k, d < 10 → 16 ≤ k → tb (J (R d) 1) k = false) : RK J K R := by
  have e86 : ∀ b, J 86 b = I 86 b := fun b => e 86 b (by unfold scr; omega) (by omega)
  have e87 : ∀ b, J 87 b = I 87 b := fun b => e 87 b (by unfold scr; omega) (by omega)
  have e89 : ∀ b, J 89 b = I 89 b := fun b => e 89 b (by unfold scr; omega) (by omega)
  have e90 : ∀ b, J 90 b = I 90 b := fun b => e 90 b (by unfold scr; omega) (by omega)
  have e92 : ∀ b, J 92 b = I 92 b := fun b => e 92 b (by unfold scr; omega) (by omega)
  have e95 : ∀ b, J 95 b = I 95 b := fun b => e 95 b (by unfold scr; omega) (by omega)
  have e96 : ∀ b, J 96 b = I 96 b := fun b => e 96 b (by unfold scr; omega) (by omega)
  have e97 : ∀ b, J 97 b = I 97 b := fun b => e 97 b (by unfold scr; omega) (by omega)
  have e98 : ∀ b, J 98 b = I 98 b := fun b => e 98 b (by unfold scr; omega) (by omega)
  have e104 : ∀ b, J 104 b = I 104 b := fun b => e 104 b (by unfold scr; omega) (by omega)
  have e105 : ∀ b, J 105 b = I 105 b := fun b => e 105 b (by unfold scr; omega) (by omega)
  have q_nk : nkI J = nkI I := by unfold nkI; rw [e 85 35 (by unfold scr; omega) (by omega)]
  have q_nd : ndI J = ndI I := by unfold ndI; rw [e 85 36 (by unfold scr; omega) (by omega)]
  have q_nc : ncI J = ncI I := by unfold ncI; rw [e 85 31 (by unfold scr; omega) (by omega)]
  have q_md : mdI J = mdI I := by unfold mdI; rw [e 85 32 (by unfold scr; omega) (by omega)]
  have q_sz : szI J = szI I := by unfold szI; rw [e 85 34 (by unfold scr; omega) (by omega)]
  have q_nb : nbI J = nbI I := by unfold nbI; rw [e 85 46 (by unfold scr; omega) (by omega)]
  have q_dp : dpM J = dpM I := by funext k c; unfold dpM; rw [e86]
  have hkb := h.mi.kb
  have f1 : ∀ k, k < 16 → J (19 + k) 1 = I (19 + k) 1 := fun k hk => e (19 + k) 1 (by unfold scr; omega) (by omega)
  have f2 : ∀ k, k < 16 → J (19 + k) 2 = I (19 + k) 2 := fun k hk => e (19 + k) 2 (by unfold scr; omega) (by omega)
  have f3 : ∀ k, k < 16 → J (19 + k) 3 = I (19 + k) 3 := fun k hk => e (19 + k) 3 (by unfold scr; omega) (by omega)
  have f4 : ∀ k, k < 16 → J (19 + k) 4 = I (19 + k) 4 := fun k hk => e (19 + k) 4 (by unfold scr; omega) (by omega)
  have f5 : ∀ k, k < 16 → J (19 + k) 5 = I (19 + k) 5 := fun k hk => e (19 + k) 5 (by unfold scr; omega) (by omega)
  have g0 : ∀ d, d < 10 → J (R d) 0 = I (R d) 0 := fun d hd => by
    have := h.rr d hd
    exact e (R d) 0 (by unfold scr; omega) (by omega)
  have g2 : ∀ d, d < 10 → J (R d) 2 = I (R d) 2 := fun d hd => by
    have := h.rr d hd
    exact e (R d) 2 (by unfold scr; omega) (by omega)
  refine ⟨m, ?_, ?_, ?_, ?_, ?_, ?_, ?_, ?_, ?_, ?_, ?_, ?_, ?_, ?_, ?_, ?_, ?_, ?_, ?_, ?_, ?_, ?_⟩
  · exact by rw [e 1 1 (by unfold scr; omega) (by omega), e 85 31 (by unfold scr; omega) (by omega)]; exact h.ch
  · exact by rw [e 1 2 (by unfold scr; omega) (by omega), e 85 32 (by unfold scr; omega) (by omega)]; exact h.dp
  · exact by rw [e 1 3 (by unfold scr; omega) (by omega), e 85 33 (by unfold scr; omega) (by omega)]; exact h.ap
  · exact by rw [e 1 6 (by unfold scr; omega) (by omega), e 85 34 (by unfold scr; omega) (by omega)]; exact h.sz
  · exact by rw [e 0 9 (by unfold scr; omega) (by omega), e 85 35 (by unfold scr; omega) (by omega)]; exact h.nk
  · exact by rw [e 0 10 (by unfold scr; omega) (by omega), e 85 36 (by unfold scr; omega) (by omega)]; exact h.nd
  · exact by rw [e 0 17 (by unfold scr; omega) (by omega), e 85 44 (by unfold scr; omega) (by omega)]; exact h.ct
  · exact by rw [e 0 12 (by unfold scr; omega) (by omega), e 85 46 (by unfold scr; omega) (by omega)]; exact h.nb
  · exact fun k hk => by
      rw [q_nk] at hk
      rw [eL0 k (by omega), q_dp, q_nc]; exact h.kc k hk
  · exact fun k hk => by
      rw [q_nk] at hk
      rw [e95, f1 k (by omega)]; exact h.kp k hk
  · exact fun k hk => by rw [e92, f2 k hk]; exact h.kl k hk
  · exact fun k hk => by rw [e89, f4 k hk]; exact h.kh k hk
  · exact fun k hk => by
      rw [q_nk] at hk
      rw [e89, e90, f5 k (by omega)]; exact h.kd k hk
  · exact fun k j hk hj => by
      rw [q_nk] at hk
      rw [f3 k (by omega), q_nk, e96, e96]; exact h.kr k j hk hj
  · exact n_wi
  · exact n_w0
  · exact fun d hd => by rw [e97, g0 d hd]; exact h.wa d hd
  · exact fun d hd => by rw [e98, g2 d hd]; exact h.bu d hd
  · exact h.rr
  · exact h.ri
  · exact by rw [eL1, q_sz]; simp only [e87]; exact h.to
  · exact fun b hb => by
      rw [q_nb] at hb
      rw [eL15]; simp only [e104, e105]; exact h.bl b hb
theorem MI_up_lose {I J : Nat → Nat → Int32} (hm : MI I) (e : ∀ a b, ¬ scr a b → ¬ (a = 92 ∨ (19 ≤ a ∧ a ≤ 34 ∧ b = 2)) → J a b = I a b) : MI J := by
  have e86 : ∀ b, J 86 b = I 86 b := fun b => e 86 b (by unfold scr; omega) (by omega)
  have e87 : ∀ b, J 87 b = I 87 b := fun b => e 87 b (by unfold scr; omega) (by omega)
  have e88 : ∀ b, J 88 b = I 88 b := fun b => e 88 b (by unfold scr; omega) (by omega)
  have e89 : ∀ b, J 89 b = I 89 b := fun b => e 89 b (by unfold scr; omega) (by omega)
  have e90 : ∀ b, J 90 b = I 90 b := fun b => e 90 b (by unfold scr; omega) (by omega)
  have e95 : ∀ b, J 95 b = I 95 b := fun b => e 95 b (by unfold scr; omega) (by omega)
  have e96 : ∀ b, J 96 b = I 96 b := fun b => e 96 b (by unfold scr; omega) (by omega)
  have e97 : ∀ b, J 97 b = I 97 b := fun b => e 97 b (by unfold scr; omega) (by omega)
  have e98 : ∀ b, J 98 b = I 98 b := fun b => e 98 b (by unfold scr; omega) (by omega)
  have e104 : ∀ b, J 104 b = I 104 b := fun b => e 104 b (by unfold scr; omega) (by omega)
  have e105 : ∀ b, J 105 b = I 105 b := fun b => e 105 b (by unfold scr; omega) (by omega)
  have q_nk : nkI J = nkI I := by unfold nkI; rw [e 85 35 (by unfold scr; omega) (by omega)]
  have q_nd : ndI J = ndI I := by unfold ndI; rw [e 85 36 (by unfold scr; omega) (by omega)]
  have q_nc : ncI J = ncI I := by unfold ncI; rw [e 85 31 (by unfold scr; omega) (by omega)]
  have q_md : mdI J = mdI I := by unfold mdI; rw [e 85 32 (by unfold scr; omega) (by omega)]
  have q_sz : szI J = szI I := by unfold szI; rw [e 85 34 (by unfold scr; omega) (by omega)]
  have q_nb : nbI J = nbI I := by unfold nbI; rw [e 85 46 (by unfold scr; omega) (by omega)]
  have q_ca : cA J = cA I := by funext d e2; unfold cA; rw [e 85 33 (by unfold scr; omega) (by omega)]
  have q_dp : dpM J = dpM I := by funext k c; unfold dpM; rw [e86]
  refine ⟨?_, ?_, ?_, ?_, ?_, ?_, ?_, ?_, ?_, ?_, ?_, ?_, ?_, ?_, ?_, ?_, ?_, ?_, ?_, ?_, ?_, ?_, ?_, ?_, ?_, ?_, ?_⟩
  · rw [e 85 35 (by unfold scr; omega) (by omega), q_nk]; exact hm.k
  · simp only [e86, e87, e88, e89, e90, e95, e96, e97, e98, e104, e105, q_nk, q_nd, q_nc, q_md, q_sz, q_nb, q_ca, q_dp]; exact hm.kb
  · rw [e 85 36 (by unfold scr; omega) (by omega), q_nd]; exact hm.d
  · simp only [e86, e87, e88, e89, e90, e95, e96, e97, e98, e104, e105, q_nk, q_nd, q_nc, q_md, q_sz, q_nb, q_ca, q_dp]; exact hm.db
  · rw [e 85 31 (by unfold scr; omega) (by omega), q_nc]; exact hm.c
  · simp only [e86, e87, e88, e89, e90, e95, e96, e97, e98, e104, e105, q_nk, q_nd, q_nc, q_md, q_sz, q_nb, q_ca, q_dp]; exact hm.c3
  · simp only [e86, e87, e88, e89, e90, e95, e96, e97, e98, e104, e105, q_nk, q_nd, q_nc, q_md, q_sz, q_nb, q_ca, q_dp]; exact hm.c6
  · rw [e 85 32 (by unfold scr; omega) (by omega), q_md]; exact hm.m
  · simp only [e86, e87, e88, e89, e90, e95, e96, e97, e98, e104, e105, q_nk, q_nd, q_nc, q_md, q_sz, q_nb, q_ca, q_dp]; exact hm.m2
  · simp only [e86, e87, e88, e89, e90, e95, e96, e97, e98, e104, e105, q_nk, q_nd, q_nc, q_md, q_sz, q_nb, q_ca, q_dp]; exact hm.m6
  · rw [e 85 34 (by unfold scr; omega) (by omega), q_sz]; exact hm.s
  · simp only [e86, e87, e88, e89, e90, e95, e96, e97, e98, e104, e105, q_nk, q_nd, q_nc, q_md, q_sz, q_nb, q_ca, q_dp]; exact hm.sc
  · rw [e 85 46 (by unfold scr; omega) (by omega), q_nb]; exact hm.b
  · simp only [e86, e87, e88, e89, e90, e95, e96, e97, e98, e104, e105, q_nk, q_nd, q_nc, q_md, q_sz, q_nb, q_ca, q_dp]; exact hm.bb
  · rw [e 85 33 (by unfold scr; omega) (by omega)]; exact hm.ap
  · simp only [e86, e87, e88, e89, e90, e95, e96, e97, e98, e104, e105, q_nk, q_nd, q_nc, q_md, q_sz, q_nb, q_ca, q_dp]; exact hm.dep
  · simp only [e86, e87, e88, e89, e90, e95, e96, e97, e98, e104, e105, q_nk, q_nd, q_nc, q_md, q_sz, q_nb, q_ca, q_dp]; exact hm.near
  · simp only [e86, e87, e88, e89, e90, e95, e96, e97, e98, e104, e105, q_nk, q_nd, q_nc, q_md, q_sz, q_nb, q_ca, q_dp]; exact hm.told
  · simp only [e86, e87, e88, e89, e90, e95, e96, e97, e98, e104, e105, q_nk, q_nd, q_nc, q_md, q_sz, q_nb, q_ca, q_dp]; exact hm.toldn
  · simp only [e86, e87, e88, e89, e90, e95, e96, e97, e98, e104, e105, q_nk, q_nd, q_nc, q_md, q_sz, q_nb, q_ca, q_dp]; exact hm.bs
  · simp only [e86, e87, e88, e89, e90, e95, e96, e97, e98, e104, e105, q_nk, q_nd, q_nc, q_md, q_sz, q_nb, q_ca, q_dp]; exact hm.bd
  · simp only [e86, e87, e88, e89, e90, e95, e96, e97, e98, e104, e105, q_nk, q_nd, q_nc, q_md, q_sz, q_nb, q_ca, q_dp]; exact hm.bp
  · simp only [e86, e87, e88, e89, e90, e95, e96, e97, e98, e104, e105, q_nk, q_nd, q_nc, q_md, q_sz, q_nb, q_ca, q_dp]; exact hm.rb
  · simp only [e86, e87, e88, e89, e90, e95, e96, e97, e98, e104, e105, q_nk, q_nd, q_nc, q_md, q_sz, q_nb, q_ca, q_dp]; exact hm.ru
  · simp only [e86, e87, e88, e89, e90, e95, e96, e97, e98, e104, e105, q_nk, q_nd, q_nc, q_md, q_sz, q_nb, q_ca, q_dp]; exact hm.wu
  · simp only [e86, e87, e88, e89, e90, e95, e96, e97, e98, e104, e105, q_nk, q_nd, q_nc, q_md, q_sz, q_nb, q_ca, q_dp]; exact hm.wf
  · simp only [e86, e87, e88, e89, e90, e95, e96, e97, e98, e104, e105, q_nk, q_nd, q_nc, q_md, q_sz, q_nb, q_ca, q_dp]; exact hm.hu
theorem RK_up_lose {I J : Nat → Nat → Int32} {L K : Nat → Nat → Int64} {R : Nat → Nat} (h : RK I L R) (e : ∀ a b, ¬ scr a b → ¬ (a = 92 ∨ (19 ≤ a ∧ a ≤ 34 ∧ b = 2)) → J a b = I a b) (eL0 : ∀ k, k < 16 → K (19 + k) 0 = L (19 + k) 0) (eL1 : K 1 5 = L 1 5) (eL15 : ∀ b, K 15 b = L 15 b) (m : MI J)
    (n_kl : ∀ k, k < 16 → J 92 k = J (19 + k) 2) : RK J K R := by
  have e86 : ∀ b, J 86 b = I 86 b := fun b => e 86 b (by unfold scr; omega) (by omega)
  have e87 : ∀ b, J 87 b = I 87 b := fun b => e 87 b (by unfold scr; omega) (by omega)
  have e88 : ∀ b, J 88 b = I 88 b := fun b => e 88 b (by unfold scr; omega) (by omega)
  have e89 : ∀ b, J 89 b = I 89 b := fun b => e 89 b (by unfold scr; omega) (by omega)
  have e90 : ∀ b, J 90 b = I 90 b := fun b => e 90 b (by unfold scr; omega) (by omega)
  have e95 : ∀ b, J 95 b = I 95 b := fun b => e 95 b (by unfold scr; omega) (by omega)
  have e96 : ∀ b, J 96 b = I 96 b := fun b => e 96 b (by unfold scr; omega) (by omega)
  have e97 : ∀ b, J 97 b = I 97 b := fun b => e 97 b (by unfold scr; omega) (by omega)
  have e98 : ∀ b, J 98 b = I 98 b := fun b => e 98 b (by unfold scr; omega) (by omega)
  have e104 : ∀ b, J 104 b = I 104 b := fun b => e 104 b (by unfold scr; omega) (by omega)
  have e105 : ∀ b, J 105 b = I 105 b := fun b => e 105 b (by unfold scr; omega) (by omega)
  have q_nk : nkI J = nkI I := by unfold nkI; rw [e 85 35 (by unfold scr; omega) (by omega)]
  have q_nd : ndI J = ndI I := by unfold ndI; rw [e 85 36 (by unfold scr; omega) (by omega)]
  have q_nc : ncI J = ncI I := by unfold ncI; rw [e 85 31 (by unfold scr; omega) (by omega)]
  have q_md : mdI J = mdI I := by unfold mdI; rw [e 85 32 (by unfold scr; omega) (by omega)]
  have q_sz : szI J = szI I := by unfold szI; rw [e 85 34 (by unfold scr; omega) (by omega)]
  have q_nb : nbI J = nbI I := by unfold nbI; rw [e 85 46 (by unfold scr; omega) (by omega)]
  have q_dp : dpM J = dpM I := by funext k c; unfold dpM; rw [e86]
  have hkb := h.mi.kb
  have f1 : ∀ k, k < 16 → J (19 + k) 1 = I (19 + k) 1 := fun k hk => e (19 + k) 1 (by unfold scr; omega) (by omega)
  have f3 : ∀ k, k < 16 → J (19 + k) 3 = I (19 + k) 3 := fun k hk => e (19 + k) 3 (by unfold scr; omega) (by omega)
  have f4 : ∀ k, k < 16 → J (19 + k) 4 = I (19 + k) 4 := fun k hk => e (19 + k) 4 (by unfold scr; omega) (by omega)
  have f5 : ∀ k, k < 16 → J (19 + k) 5 = I (19 + k) 5 := fun k hk => e (19 + k) 5 (by unfold scr; omega) (by omega)
  have g0 : ∀ d, d < 10 → J (R d) 0 = I (R d) 0 := fun d hd => by
    have := h.rr d hd
    exact e (R d) 0 (by unfold scr; omega) (by omega)
  have g1 : ∀ d, d < 10 → J (R d) 1 = I (R d) 1 := fun d hd => by
    have := h.rr d hd
    exact e (R d) 1 (by unfold scr; omega) (by omega)
  have g2 : ∀ d, d < 10 → J (R d) 2 = I (R d) 2 := fun d hd => by
    have := h.rr d hd
    exact e (R d) 2 (by unfold scr; omega) (by omega)
  refine ⟨m, ?_, ?_, ?_, ?_, ?_, ?_, ?_, ?_, ?_, ?_, ?_, ?_, ?_, ?_, ?_, ?_, ?_, ?_, ?_, ?_, ?_, ?_⟩
  · exact by rw [e 1 1 (by unfold scr; omega) (by omega), e 85 31 (by unfold scr; omega) (by omega)]; exact h.ch
  · exact by rw [e 1 2 (by unfold scr; omega) (by omega), e 85 32 (by unfold scr; omega) (by omega)]; exact h.dp
  · exact by rw [e 1 3 (by unfold scr; omega) (by omega), e 85 33 (by unfold scr; omega) (by omega)]; exact h.ap
  · exact by rw [e 1 6 (by unfold scr; omega) (by omega), e 85 34 (by unfold scr; omega) (by omega)]; exact h.sz
  · exact by rw [e 0 9 (by unfold scr; omega) (by omega), e 85 35 (by unfold scr; omega) (by omega)]; exact h.nk
  · exact by rw [e 0 10 (by unfold scr; omega) (by omega), e 85 36 (by unfold scr; omega) (by omega)]; exact h.nd
  · exact by rw [e 0 17 (by unfold scr; omega) (by omega), e 85 44 (by unfold scr; omega) (by omega)]; exact h.ct
  · exact by rw [e 0 12 (by unfold scr; omega) (by omega), e 85 46 (by unfold scr; omega) (by omega)]; exact h.nb
  · exact fun k hk => by
      rw [q_nk] at hk
      rw [eL0 k (by omega), q_dp, q_nc]; exact h.kc k hk
  · exact fun k hk => by
      rw [q_nk] at hk
      rw [e95, f1 k (by omega)]; exact h.kp k hk
  · exact n_kl
  · exact fun k hk => by rw [e89, f4 k hk]; exact h.kh k hk
  · exact fun k hk => by
      rw [q_nk] at hk
      rw [e89, e90, f5 k (by omega)]; exact h.kd k hk
  · exact fun k j hk hj => by
      rw [q_nk] at hk
      rw [f3 k (by omega), q_nk, e96, e96]; exact h.kr k j hk hj
  · exact fun d k hd hk => by rw [g1 d hd, e88]; exact h.wi d k hd hk
  · exact fun d k hd hk => by rw [g1 d hd]; exact h.w0 d k hd hk
  · exact fun d hd => by rw [e97, g0 d hd]; exact h.wa d hd
  · exact fun d hd => by rw [e98, g2 d hd]; exact h.bu d hd
  · exact h.rr
  · exact h.ri
  · exact by rw [eL1, q_sz]; simp only [e87]; exact h.to
  · exact fun b hb => by
      rw [q_nb] at hb
      rw [eL15]; simp only [e104, e105]; exact h.bl b hb
theorem MI_up_ward {I J : Nat → Nat → Int32} (hm : MI I) (e : ∀ a b, ¬ scr a b → ¬ (a = 97 ∨ (35 ≤ a ∧ a ≤ 44 ∧ b = 0)) → J a b = I a b)
    (n_wf : ∀ d k, k < 16 → tb (J 88 k) d = true → (J 95 k &&& J 97 d) = 0) : MI J := by
  have e86 : ∀ b, J 86 b = I 86 b := fun b => e 86 b (by unfold scr; omega) (by omega)
  have e87 : ∀ b, J 87 b = I 87 b := fun b => e 87 b (by unfold scr; omega) (by omega)
  have e88 : ∀ b, J 88 b = I 88 b := fun b => e 88 b (by unfold scr; omega) (by omega)
  have e89 : ∀ b, J 89 b = I 89 b := fun b => e 89 b (by unfold scr; omega) (by omega)
  have e90 : ∀ b, J 90 b = I 90 b := fun b => e 90 b (by unfold scr; omega) (by omega)
  have e92 : ∀ b, J 92 b = I 92 b := fun b => e 92 b (by unfold scr; omega) (by omega)
  have e95 : ∀ b, J 95 b = I 95 b := fun b => e 95 b (by unfold scr; omega) (by omega)
  have e96 : ∀ b, J 96 b = I 96 b := fun b => e 96 b (by unfold scr; omega) (by omega)
  have e98 : ∀ b, J 98 b = I 98 b := fun b => e 98 b (by unfold scr; omega) (by omega)
  have e104 : ∀ b, J 104 b = I 104 b := fun b => e 104 b (by unfold scr; omega) (by omega)
  have e105 : ∀ b, J 105 b = I 105 b := fun b => e 105 b (by unfold scr; omega) (by omega)
  have q_nk : nkI J = nkI I := by unfold nkI; rw [e 85 35 (by unfold scr; omega) (by omega)]
  have q_nd : ndI J = ndI I := by unfold ndI; rw [e 85 36 (by unfold scr; omega) (by omega)]
  have q_nc : ncI J = ncI I := by unfold ncI; rw [e 85 31 (by unfold scr; omega) (by omega)]
  have q_md : mdI J = mdI I := by unfold mdI; rw [e 85 32 (by unfold scr; omega) (by omega)]
  have q_sz : szI J = szI I := by unfold szI; rw [e 85 34 (by unfold scr; omega) (by omega)]
  have q_nb : nbI J = nbI I := by unfold nbI; rw [e 85 46 (by unfold scr; omega) (by omega)]
  have q_ca : cA J = cA I := by funext d e2; unfold cA; rw [e 85 33 (by unfold scr; omega) (by omega)]
  have q_dp : dpM J = dpM I := by funext k c; unfold dpM; rw [e86]
  refine ⟨?_, ?_, ?_, ?_, ?_, ?_, ?_, ?_, ?_, ?_, ?_, ?_, ?_, ?_, ?_, ?_, ?_, ?_, ?_, ?_, ?_, ?_, ?_, ?_, ?_, ?_, ?_⟩
  · rw [e 85 35 (by unfold scr; omega) (by omega), q_nk]; exact hm.k
  · simp only [e86, e87, e88, e89, e90, e92, e95, e96, e98, e104, e105, q_nk, q_nd, q_nc, q_md, q_sz, q_nb, q_ca, q_dp]; exact hm.kb
  · rw [e 85 36 (by unfold scr; omega) (by omega), q_nd]; exact hm.d
  · simp only [e86, e87, e88, e89, e90, e92, e95, e96, e98, e104, e105, q_nk, q_nd, q_nc, q_md, q_sz, q_nb, q_ca, q_dp]; exact hm.db
  · rw [e 85 31 (by unfold scr; omega) (by omega), q_nc]; exact hm.c
  · simp only [e86, e87, e88, e89, e90, e92, e95, e96, e98, e104, e105, q_nk, q_nd, q_nc, q_md, q_sz, q_nb, q_ca, q_dp]; exact hm.c3
  · simp only [e86, e87, e88, e89, e90, e92, e95, e96, e98, e104, e105, q_nk, q_nd, q_nc, q_md, q_sz, q_nb, q_ca, q_dp]; exact hm.c6
  · rw [e 85 32 (by unfold scr; omega) (by omega), q_md]; exact hm.m
  · simp only [e86, e87, e88, e89, e90, e92, e95, e96, e98, e104, e105, q_nk, q_nd, q_nc, q_md, q_sz, q_nb, q_ca, q_dp]; exact hm.m2
  · simp only [e86, e87, e88, e89, e90, e92, e95, e96, e98, e104, e105, q_nk, q_nd, q_nc, q_md, q_sz, q_nb, q_ca, q_dp]; exact hm.m6
  · rw [e 85 34 (by unfold scr; omega) (by omega), q_sz]; exact hm.s
  · simp only [e86, e87, e88, e89, e90, e92, e95, e96, e98, e104, e105, q_nk, q_nd, q_nc, q_md, q_sz, q_nb, q_ca, q_dp]; exact hm.sc
  · rw [e 85 46 (by unfold scr; omega) (by omega), q_nb]; exact hm.b
  · simp only [e86, e87, e88, e89, e90, e92, e95, e96, e98, e104, e105, q_nk, q_nd, q_nc, q_md, q_sz, q_nb, q_ca, q_dp]; exact hm.bb
  · rw [e 85 33 (by unfold scr; omega) (by omega)]; exact hm.ap
  · simp only [e86, e87, e88, e89, e90, e92, e95, e96, e98, e104, e105, q_nk, q_nd, q_nc, q_md, q_sz, q_nb, q_ca, q_dp]; exact hm.dep
  · simp only [e86, e87, e88, e89, e90, e92, e95, e96, e98, e104, e105, q_nk, q_nd, q_nc, q_md, q_sz, q_nb, q_ca, q_dp]; exact hm.near
  · simp only [e86, e87, e88, e89, e90, e92, e95, e96, e98, e104, e105, q_nk, q_nd, q_nc, q_md, q_sz, q_nb, q_ca, q_dp]; exact hm.told
  · simp only [e86, e87, e88, e89, e90, e92, e95, e96, e98, e104, e105, q_nk, q_nd, q_nc, q_md, q_sz, q_nb, q_ca, q_dp]; exact hm.toldn
  · simp only [e86, e87, e88, e89, e90, e92, e95, e96, e98, e104, e105, q_nk, q_nd, q_nc, q_md, q_sz, q_nb, q_ca, q_dp]; exact hm.bs
  · simp only [e86, e87, e88, e89, e90, e92, e95, e96, e98, e104, e105, q_nk, q_nd, q_nc, q_md, q_sz, q_nb, q_ca, q_dp]; exact hm.bd
  · simp only [e86, e87, e88, e89, e90, e92, e95, e96, e98, e104, e105, q_nk, q_nd, q_nc, q_md, q_sz, q_nb, q_ca, q_dp]; exact hm.bp
  · simp only [e86, e87, e88, e89, e90, e92, e95, e96, e98, e104, e105, q_nk, q_nd, q_nc, q_md, q_sz, q_nb, q_ca, q_dp]; exact hm.rb
  · simp only [e86, e87, e88, e89, e90, e92, e95, e96, e98, e104, e105, q_nk, q_nd, q_nc, q_md, q_sz, q_nb, q_ca, q_dp]; exact hm.ru
  · simp only [e86, e87, e88, e89, e90, e92, e95, e96, e98, e104, e105, q_nk, q_nd, q_nc, q_md, q_sz, q_nb, q_ca, q_dp]; exact hm.wu
  · exact n_wf
  · simp only [e86, e87, e88, e89, e90, e92, e95, e96, e98, e104, e105, q_nk, q_nd, q_nc, q_md, q_sz, q_nb, q_ca, q_dp]; exact hm.hu
theorem RK_up_ward {I J : Nat → Nat → Int32} {L K : Nat → Nat → Int64} {R : Nat → Nat} (h : RK I L R) (e : ∀ a b, ¬ scr a b → ¬ (a = 97 ∨ (35 ≤ a ∧ a ≤ 44 ∧ b = 0)) → J a b = I a b) (eL0 : ∀ k, k < 16 → K (19 + k) 0 = L (19 + k) 0) (eL1 : K 1 5 = L 1 5) (eL15 : ∀ b, K 15 b = L 15 b) (m : MI J)
    (n_wa : ∀ d, d < 10 → J 97 d = J (R d) 0) : RK J K R := by
  have e86 : ∀ b, J 86 b = I 86 b := fun b => e 86 b (by unfold scr; omega) (by omega)
  have e87 : ∀ b, J 87 b = I 87 b := fun b => e 87 b (by unfold scr; omega) (by omega)
  have e88 : ∀ b, J 88 b = I 88 b := fun b => e 88 b (by unfold scr; omega) (by omega)
  have e89 : ∀ b, J 89 b = I 89 b := fun b => e 89 b (by unfold scr; omega) (by omega)
  have e90 : ∀ b, J 90 b = I 90 b := fun b => e 90 b (by unfold scr; omega) (by omega)
  have e92 : ∀ b, J 92 b = I 92 b := fun b => e 92 b (by unfold scr; omega) (by omega)
  have e95 : ∀ b, J 95 b = I 95 b := fun b => e 95 b (by unfold scr; omega) (by omega)
  have e96 : ∀ b, J 96 b = I 96 b := fun b => e 96 b (by unfold scr; omega) (by omega)
  have e98 : ∀ b, J 98 b = I 98 b := fun b => e 98 b (by unfold scr; omega) (by omega)
  have e104 : ∀ b, J 104 b = I 104 b := fun b => e 104 b (by unfold scr; omega) (by omega)
  have e105 : ∀ b, J 105 b = I 105 b := fun b => e 105 b (by unfold scr; omega) (by omega)
  have q_nk : nkI J = nkI I := by unfold nkI; rw [e 85 35 (by unfold scr; omega) (by omega)]
  have q_nd : ndI J = ndI I := by unfold ndI; rw [e 85 36 (by unfold scr; omega) (by omega)]
  have q_nc : ncI J = ncI I := by unfold ncI; rw [e 85 31 (by unfold scr; omega) (by omega)]
  have q_md : mdI J = mdI I := by unfold mdI; rw [e 85 32 (by unfold scr; omega) (by omega)]
  have q_sz : szI J = szI I := by unfold szI; rw [e 85 34 (by unfold scr; omega) (by omega)]
  have q_nb : nbI J = nbI I := by unfold nbI; rw [e 85 46 (by unfold scr; omega) (by omega)]
  have q_dp : dpM J = dpM I := by funext k c; unfold dpM; rw [e86]
  have hkb := h.mi.kb
  have f1 : ∀ k, k < 16 → J (19 + k) 1 = I (19 + k) 1 := fun k hk => e (19 + k) 1 (by unfold scr; omega) (by omega)
  have f2 : ∀ k, k < 16 → J (19 + k) 2 = I (19 + k) 2 := fun k hk => e (19 + k) 2 (by unfold scr; omega) (by omega)
  have f3 : ∀ k, k < 16 → J (19 + k) 3 = I (19 + k) 3 := fun k hk => e (19 + k) 3 (by unfold scr; omega) (by omega)
  have f4 : ∀ k, k < 16 → J (19 + k) 4 = I (19 + k) 4 := fun k hk => e (19 + k) 4 (by unfold scr; omega) (by omega)
  have f5 : ∀ k, k < 16 → J (19 + k) 5 = I (19 + k) 5 := fun k hk => e (19 + k) 5 (by unfold scr; omega) (by omega)
  have g1 : ∀ d, d < 10 → J (R d) 1 = I (R d) 1 := fun d hd => by
    have := h.rr d hd
    exact e (R d) 1 (by unfold scr; omega) (by omega)
  have g2 : ∀ d, d < 10 → J (R d) 2 = I (R d) 2 := fun d hd => by
    have := h.rr d hd
    exact e (R d) 2 (by unfold scr; omega) (by omega)
  refine ⟨m, ?_, ?_, ?_, ?_, ?_, ?_, ?_, ?_, ?_, ?_, ?_, ?_, ?_, ?_, ?_, ?_, ?_, ?_, ?_, ?_, ?_, ?_⟩
  · exact by rw [e 1 1 (by unfold scr; omega) (by omega), e 85 31 (by unfold scr; omega) (by omega)]; exact h.ch
  · exact by rw [e 1 2 (by unfold scr; omega) (by omega), e 85 32 (by unfold scr; omega) (by omega)]; exact h.dp
  · exact by rw [e 1 3 (by unfold scr; omega) (by omega), e 85 33 (by unfold scr; omega) (by omega)]; exact h.ap
  · exact by rw [e 1 6 (by unfold scr; omega) (by omega), e 85 34 (by unfold scr; omega) (by omega)]; exact h.sz
  · exact by rw [e 0 9 (by unfold scr; omega) (by omega), e 85 35 (by unfold scr; omega) (by omega)]; exact h.nk
  · exact by rw [e 0 10 (by unfold scr; omega) (by omega), e 85 36 (by unfold scr; omega) (by omega)]; exact h.nd
  · exact by rw [e 0 17 (by unfold scr; omega) (by omega), e 85 44 (by unfold scr; omega) (by omega)]; exact h.ct
  · exact by rw [e 0 12 (by unfold scr; omega) (by omega), e 85 46 (by unfold scr; omega) (by omega)]; exact h.nb
  · exact fun k hk => by
      rw [q_nk] at hk
      rw [eL0 k (by omega), q_dp, q_nc]; exact h.kc k hk
  · exact fun k hk => by
      rw [q_nk] at hk
      rw [e95, f1 k (by omega)]; exact h.kp k hk
  · exact fun k hk => by rw [e92, f2 k hk]; exact h.kl k hk
  · exact fun k hk => by rw [e89, f4 k hk]; exact h.kh k hk
  · exact fun k hk => by
      rw [q_nk] at hk
      rw [e89, e90, f5 k (by omega)]; exact h.kd k hk
  · exact fun k j hk hj => by
      rw [q_nk] at hk
      rw [f3 k (by omega), q_nk, e96, e96]; exact h.kr k j hk hj
  · exact fun d k hd hk => by rw [g1 d hd, e88]; exact h.wi d k hd hk
  · exact fun d k hd hk => by rw [g1 d hd]; exact h.w0 d k hd hk
  · exact n_wa
  · exact fun d hd => by rw [e98, g2 d hd]; exact h.bu d hd
  · exact h.rr
  · exact h.ri
  · exact by rw [eL1, q_sz]; simp only [e87]; exact h.to
  · exact fun b hb => by
      rw [q_nb] at hb
      rw [eL15]; simp only [e104, e105]; exact h.bl b hb
theorem MI_up_bld {I J : Nat → Nat → Int32} (hm : MI I) (e : ∀ a b, ¬ scr a b → ¬ (a = 98 ∨ (35 ≤ a ∧ a ≤ 44 ∧ b = 2)) → J a b = I a b) : MI J := by
  have e86 : ∀ b, J 86 b = I 86 b := fun b => e 86 b (by unfold scr; omega) (by omega)
  have e87 : ∀ b, J 87 b = I 87 b := fun b => e 87 b (by unfold scr; omega) (by omega)
  have e88 : ∀ b, J 88 b = I 88 b := fun b => e 88 b (by unfold scr; omega) (by omega)
  have e89 : ∀ b, J 89 b = I 89 b := fun b => e 89 b (by unfold scr; omega) (by omega)
  have e90 : ∀ b, J 90 b = I 90 b := fun b => e 90 b (by unfold scr; omega) (by omega)
  have e92 : ∀ b, J 92 b = I 92 b := fun b => e 92 b (by unfold scr; omega) (by omega)
  have e95 : ∀ b, J 95 b = I 95 b := fun b => e 95 b (by unfold scr; omega) (by omega)
  have e96 : ∀ b, J 96 b = I 96 b := fun b => e 96 b (by unfold scr; omega) (by omega)
  have e97 : ∀ b, J 97 b = I 97 b := fun b => e 97 b (by unfold scr; omega) (by omega)
  have e104 : ∀ b, J 104 b = I 104 b := fun b => e 104 b (by unfold scr; omega) (by omega)
  have e105 : ∀ b, J 105 b = I 105 b := fun b => e 105 b (by unfold scr; omega) (by omega)
  have q_nk : nkI J = nkI I := by unfold nkI; rw [e 85 35 (by unfold scr; omega) (by omega)]
  have q_nd : ndI J = ndI I := by unfold ndI; rw [e 85 36 (by unfold scr; omega) (by omega)]
  have q_nc : ncI J = ncI I := by unfold ncI; rw [e 85 31 (by unfold scr; omega) (by omega)]
  have q_md : mdI J = mdI I := by unfold mdI; rw [e 85 32 (by unfold scr; omega) (by omega)]
  have q_sz : szI J = szI I := by unfold szI; rw [e 85 34 (by unfold scr; omega) (by omega)]
  have q_nb : nbI J = nbI I := by unfold nbI; rw [e 85 46 (by unfold scr; omega) (by omega)]
  have q_ca : cA J = cA I := by funext d e2; unfold cA; rw [e 85 33 (by unfold scr; omega) (by omega)]
  have q_dp : dpM J = dpM I := by funext k c; unfold dpM; rw [e86]
  refine ⟨?_, ?_, ?_, ?_, ?_, ?_, ?_, ?_, ?_, ?_, ?_, ?_, ?_, ?_, ?_, ?_, ?_, ?_, ?_, ?_, ?_, ?_, ?_, ?_, ?_, ?_, ?_⟩
  · rw [e 85 35 (by unfold scr; omega) (by omega), q_nk]; exact hm.k
  · simp only [e86, e87, e88, e89, e90, e92, e95, e96, e97, e104, e105, q_nk, q_nd, q_nc, q_md, q_sz, q_nb, q_ca, q_dp]; exact hm.kb
  · rw [e 85 36 (by unfold scr; omega) (by omega), q_nd]; exact hm.d
  · simp only [e86, e87, e88, e89, e90, e92, e95, e96, e97, e104, e105, q_nk, q_nd, q_nc, q_md, q_sz, q_nb, q_ca, q_dp]; exact hm.db
  · rw [e 85 31 (by unfold scr; omega) (by omega), q_nc]; exact hm.c
  · simp only [e86, e87, e88, e89, e90, e92, e95, e96, e97, e104, e105, q_nk, q_nd, q_nc, q_md, q_sz, q_nb, q_ca, q_dp]; exact hm.c3
  · simp only [e86, e87, e88, e89, e90, e92, e95, e96, e97, e104, e105, q_nk, q_nd, q_nc, q_md, q_sz, q_nb, q_ca, q_dp]; exact hm.c6
  · rw [e 85 32 (by unfold scr; omega) (by omega), q_md]; exact hm.m
  · simp only [e86, e87, e88, e89, e90, e92, e95, e96, e97, e104, e105, q_nk, q_nd, q_nc, q_md, q_sz, q_nb, q_ca, q_dp]; exact hm.m2
  · simp only [e86, e87, e88, e89, e90, e92, e95, e96, e97, e104, e105, q_nk, q_nd, q_nc, q_md, q_sz, q_nb, q_ca, q_dp]; exact hm.m6
  · rw [e 85 34 (by unfold scr; omega) (by omega), q_sz]; exact hm.s
  · simp only [e86, e87, e88, e89, e90, e92, e95, e96, e97, e104, e105, q_nk, q_nd, q_nc, q_md, q_sz, q_nb, q_ca, q_dp]; exact hm.sc
  · rw [e 85 46 (by unfold scr; omega) (by omega), q_nb]; exact hm.b
  · simp only [e86, e87, e88, e89, e90, e92, e95, e96, e97, e104, e105, q_nk, q_nd, q_nc, q_md, q_sz, q_nb, q_ca, q_dp]; exact hm.bb
  · rw [e 85 33 (by unfold scr; omega) (by omega)]; exact hm.ap
  · simp only [e86, e87, e88, e89, e90, e92, e95, e96, e97, e104, e105, q_nk, q_nd, q_nc, q_md, q_sz, q_nb, q_ca, q_dp]; exact hm.dep
  · simp only [e86, e87, e88, e89, e90, e92, e95, e96, e97, e104, e105, q_nk, q_nd, q_nc, q_md, q_sz, q_nb, q_ca, q_dp]; exact hm.near
  · simp only [e86, e87, e88, e89, e90, e92, e95, e96, e97, e104, e105, q_nk, q_nd, q_nc, q_md, q_sz, q_nb, q_ca, q_dp]; exact hm.told
  · simp only [e86, e87, e88, e89, e90, e92, e95, e96, e97, e104, e105, q_nk, q_nd, q_nc, q_md, q_sz, q_nb, q_ca, q_dp]; exact hm.toldn
  · simp only [e86, e87, e88, e89, e90, e92, e95, e96, e97, e104, e105, q_nk, q_nd, q_nc, q_md, q_sz, q_nb, q_ca, q_dp]; exact hm.bs
  · simp only [e86, e87, e88, e89, e90, e92, e95, e96, e97, e104, e105, q_nk, q_nd, q_nc, q_md, q_sz, q_nb, q_ca, q_dp]; exact hm.bd
  · simp only [e86, e87, e88, e89, e90, e92, e95, e96, e97, e104, e105, q_nk, q_nd, q_nc, q_md, q_sz, q_nb, q_ca, q_dp]; exact hm.bp
  · simp only [e86, e87, e88, e89, e90, e92, e95, e96, e97, e104, e105, q_nk, q_nd, q_nc, q_md, q_sz, q_nb, q_ca, q_dp]; exact hm.rb
  · simp only [e86, e87, e88, e89, e90, e92, e95, e96, e97, e104, e105, q_nk, q_nd, q_nc, q_md, q_sz, q_nb, q_ca, q_dp]; exact hm.ru
  · simp only [e86, e87, e88, e89, e90, e92, e95, e96, e97, e104, e105, q_nk, q_nd, q_nc, q_md, q_sz, q_nb, q_ca, q_dp]; exact hm.wu
  · simp only [e86, e87, e88, e89, e90, e92, e95, e96, e97, e104, e105, q_nk, q_nd, q_nc, q_md, q_sz, q_nb, q_ca, q_dp]; exact hm.wf
  · simp only [e86, e87, e88, e89, e90, e92, e95, e96, e97, e104, e105, q_nk, q_nd, q_nc, q_md, q_sz, q_nb, q_ca, q_dp]; exact hm.hu
theorem RK_up_bld {I J : Nat → Nat → Int32} {L K : Nat → Nat → Int64} {R : Nat → Nat} (h : RK I L R) (e : ∀ a b, ¬ scr a b → ¬ (a = 98 ∨ (35 ≤ a ∧ a ≤ 44 ∧ b = 2)) → J a b = I a b) (eL0 : ∀ k, k < 16 → K (19 + k) 0 = L (19 + k) 0) (eL1 : K 1 5 = L 1 5) (eL15 : ∀ b, K 15 b = L 15 b) (m : MI J)
    (n_bu : ∀ d, d < 10 → J 98 d = J (R d) 2) : RK J K R := by
  have e86 : ∀ b, J 86 b = I 86 b := fun b => e 86 b (by unfold scr; omega) (by omega)
  have e87 : ∀ b, J 87 b = I 87 b := fun b => e 87 b (by unfold scr; omega) (by omega)
  have e88 : ∀ b, J 88 b = I 88 b := fun b => e 88 b (by unfold scr; omega) (by omega)
  have e89 : ∀ b, J 89 b = I 89 b := fun b => e 89 b (by unfold scr; omega) (by omega)
  have e90 : ∀ b, J 90 b = I 90 b := fun b => e 90 b (by unfold scr; omega) (by omega)
  have e92 : ∀ b, J 92 b = I 92 b := fun b => e 92 b (by unfold scr; omega) (by omega)
  have e95 : ∀ b, J 95 b = I 95 b := fun b => e 95 b (by unfold scr; omega) (by omega)
  have e96 : ∀ b, J 96 b = I 96 b := fun b => e 96 b (by unfold scr; omega) (by omega)
  have e97 : ∀ b, J 97 b = I 97 b := fun b => e 97 b (by unfold scr; omega) (by omega)
  have e104 : ∀ b, J 104 b = I 104 b := fun b => e 104 b (by unfold scr; omega) (by omega)
  have e105 : ∀ b, J 105 b = I 105 b := fun b => e 105 b (by unfold scr; omega) (by omega)
  have q_nk : nkI J = nkI I := by unfold nkI; rw [e 85 35 (by unfold scr; omega) (by omega)]
  have q_nd : ndI J = ndI I := by unfold ndI; rw [e 85 36 (by unfold scr; omega) (by omega)]
  have q_nc : ncI J = ncI I := by unfold ncI; rw [e 85 31 (by unfold scr; omega) (by omega)]
  have q_md : mdI J = mdI I := by unfold mdI; rw [e 85 32 (by unfold scr; omega) (by omega)]
  have q_sz : szI J = szI I := by unfold szI; rw [e 85 34 (by unfold scr; omega) (by omega)]
  have q_nb : nbI J = nbI I := by unfold nbI; rw [e 85 46 (by unfold scr; omega) (by omega)]
  have q_dp : dpM J = dpM I := by funext k c; unfold dpM; rw [e86]
  have hkb := h.mi.kb
  have f1 : ∀ k, k < 16 → J (19 + k) 1 = I (19 + k) 1 := fun k hk => e (19 + k) 1 (by unfold scr; omega) (by omega)
  have f2 : ∀ k, k < 16 → J (19 + k) 2 = I (19 + k) 2 := fun k hk => e (19 + k) 2 (by unfold scr; omega) (by omega)
  have f3 : ∀ k, k < 16 → J (19 + k) 3 = I (19 + k) 3 := fun k hk => e (19 + k) 3 (by unfold scr; omega) (by omega)
  have f4 : ∀ k, k < 16 → J (19 + k) 4 = I (19 + k) 4 := fun k hk => e (19 + k) 4 (by unfold scr; omega) (by omega)
  have f5 : ∀ k, k < 16 → J (19 + k) 5 = I (19 + k) 5 := fun k hk => e (19 + k) 5 (by unfold scr; omega) (by omega)
  have g0 : ∀ d, d < 10 → J (R d) 0 = I (R d) 0 := fun d hd => by
    have := h.rr d hd
    exact e (R d) 0 (by unfold scr; omega) (by omega)
  have g1 : ∀ d, d < 10 → J (R d) 1 = I (R d) 1 := fun d hd => by
    have := h.rr d hd
    exact e (R d) 1 (by unfold scr; omega) (by omega)
  refine ⟨m, ?_, ?_, ?_, ?_, ?_, ?_, ?_, ?_, ?_, ?_, ?_, ?_, ?_, ?_, ?_, ?_, ?_, ?_, ?_, ?_, ?_, ?_⟩
  · exact by rw [e 1 1 (by unfold scr; omega) (by omega), e 85 31 (by unfold scr; omega) (by omega)]; exact h.ch
  · exact by rw [e 1 2 (by unfold scr; omega) (by omega), e 85 32 (by unfold scr; omega) (by omega)]; exact h.dp
  · exact by rw [e 1 3 (by unfold scr; omega) (by omega), e 85 33 (by unfold scr; omega) (by omega)]; exact h.ap
  · exact by rw [e 1 6 (by unfold scr; omega) (by omega), e 85 34 (by unfold scr; omega) (by omega)]; exact h.sz
  · exact by rw [e 0 9 (by unfold scr; omega) (by omega), e 85 35 (by unfold scr; omega) (by omega)]; exact h.nk
  · exact by rw [e 0 10 (by unfold scr; omega) (by omega), e 85 36 (by unfold scr; omega) (by omega)]; exact h.nd
  · exact by rw [e 0 17 (by unfold scr; omega) (by omega), e 85 44 (by unfold scr; omega) (by omega)]; exact h.ct
  · exact by rw [e 0 12 (by unfold scr; omega) (by omega), e 85 46 (by unfold scr; omega) (by omega)]; exact h.nb
  · exact fun k hk => by
      rw [q_nk] at hk
      rw [eL0 k (by omega), q_dp, q_nc]; exact h.kc k hk
  · exact fun k hk => by
      rw [q_nk] at hk
      rw [e95, f1 k (by omega)]; exact h.kp k hk
  · exact fun k hk => by rw [e92, f2 k hk]; exact h.kl k hk
  · exact fun k hk => by rw [e89, f4 k hk]; exact h.kh k hk
  · exact fun k hk => by
      rw [q_nk] at hk
      rw [e89, e90, f5 k (by omega)]; exact h.kd k hk
  · exact fun k j hk hj => by
      rw [q_nk] at hk
      rw [f3 k (by omega), q_nk, e96, e96]; exact h.kr k j hk hj
  · exact fun d k hd hk => by rw [g1 d hd, e88]; exact h.wi d k hd hk
  · exact fun d k hd hk => by rw [g1 d hd]; exact h.w0 d k hd hk
  · exact fun d hd => by rw [e97, g0 d hd]; exact h.wa d hd
  · exact n_bu
  · exact h.rr
  · exact h.ri
  · exact by rw [eL1, q_sz]; simp only [e87]; exact h.to
  · exact fun b hb => by
      rw [q_nb] at hb
      rw [eL15]; simp only [e104, e105]; exact h.bl b hb
theorem MI_up_ctl {I J : Nat → Nat → Int32} (hm : MI I) (e : ∀ a b, ¬ scr a b → ¬ ((a = 0 ∧ b = 17) ∨ (a = 85 ∧ b = 44)) → J a b = I a b) : MI J := by
  have e86 : ∀ b, J 86 b = I 86 b := fun b => e 86 b (by unfold scr; omega) (by omega)
  have e87 : ∀ b, J 87 b = I 87 b := fun b => e 87 b (by unfold scr; omega) (by omega)
  have e88 : ∀ b, J 88 b = I 88 b := fun b => e 88 b (by unfold scr; omega) (by omega)
  have e89 : ∀ b, J 89 b = I 89 b := fun b => e 89 b (by unfold scr; omega) (by omega)
  have e90 : ∀ b, J 90 b = I 90 b := fun b => e 90 b (by unfold scr; omega) (by omega)
  have e92 : ∀ b, J 92 b = I 92 b := fun b => e 92 b (by unfold scr; omega) (by omega)
  have e95 : ∀ b, J 95 b = I 95 b := fun b => e 95 b (by unfold scr; omega) (by omega)
  have e96 : ∀ b, J 96 b = I 96 b := fun b => e 96 b (by unfold scr; omega) (by omega)
  have e97 : ∀ b, J 97 b = I 97 b := fun b => e 97 b (by unfold scr; omega) (by omega)
  have e98 : ∀ b, J 98 b = I 98 b := fun b => e 98 b (by unfold scr; omega) (by omega)
  have e104 : ∀ b, J 104 b = I 104 b := fun b => e 104 b (by unfold scr; omega) (by omega)
  have e105 : ∀ b, J 105 b = I 105 b := fun b => e 105 b (by unfold scr; omega) (by omega)
  have q_nk : nkI J = nkI I := by unfold nkI; rw [e 85 35 (by unfold scr; omega) (by omega)]
  have q_nd : ndI J = ndI I := by unfold ndI; rw [e 85 36 (by unfold scr; omega) (by omega)]
  have q_nc : ncI J = ncI I := by unfold ncI; rw [e 85 31 (by unfold scr; omega) (by omega)]
  have q_md : mdI J = mdI I := by unfold mdI; rw [e 85 32 (by unfold scr; omega) (by omega)]
  have q_sz : szI J = szI I := by unfold szI; rw [e 85 34 (by unfold scr; omega) (by omega)]
  have q_nb : nbI J = nbI I := by unfold nbI; rw [e 85 46 (by unfold scr; omega) (by omega)]
  have q_ca : cA J = cA I := by funext d e2; unfold cA; rw [e 85 33 (by unfold scr; omega) (by omega)]
  have q_dp : dpM J = dpM I := by funext k c; unfold dpM; rw [e86]
  refine ⟨?_, ?_, ?_, ?_, ?_, ?_, ?_, ?_, ?_, ?_, ?_, ?_, ?_, ?_, ?_, ?_, ?_, ?_, ?_, ?_, ?_, ?_, ?_, ?_, ?_, ?_, ?_⟩
  · rw [e 85 35 (by unfold scr; omega) (by omega), q_nk]; exact hm.k
  · simp only [e86, e87, e88, e89, e90, e92, e95, e96, e97, e98, e104, e105, q_nk, q_nd, q_nc, q_md, q_sz, q_nb, q_ca, q_dp]; exact hm.kb
  · rw [e 85 36 (by unfold scr; omega) (by omega), q_nd]; exact hm.d
  · simp only [e86, e87, e88, e89, e90, e92, e95, e96, e97, e98, e104, e105, q_nk, q_nd, q_nc, q_md, q_sz, q_nb, q_ca, q_dp]; exact hm.db
  · rw [e 85 31 (by unfold scr; omega) (by omega), q_nc]; exact hm.c
  · simp only [e86, e87, e88, e89, e90, e92, e95, e96, e97, e98, e104, e105, q_nk, q_nd, q_nc, q_md, q_sz, q_nb, q_ca, q_dp]; exact hm.c3
  · simp only [e86, e87, e88, e89, e90, e92, e95, e96, e97, e98, e104, e105, q_nk, q_nd, q_nc, q_md, q_sz, q_nb, q_ca, q_dp]; exact hm.c6
  · rw [e 85 32 (by unfold scr; omega) (by omega), q_md]; exact hm.m
  · simp only [e86, e87, e88, e89, e90, e92, e95, e96, e97, e98, e104, e105, q_nk, q_nd, q_nc, q_md, q_sz, q_nb, q_ca, q_dp]; exact hm.m2
  · simp only [e86, e87, e88, e89, e90, e92, e95, e96, e97, e98, e104, e105, q_nk, q_nd, q_nc, q_md, q_sz, q_nb, q_ca, q_dp]; exact hm.m6
  · rw [e 85 34 (by unfold scr; omega) (by omega), q_sz]; exact hm.s
  · simp only [e86, e87, e88, e89, e90, e92, e95, e96, e97, e98, e104, e105, q_nk, q_nd, q_nc, q_md, q_sz, q_nb, q_ca, q_dp]; exact hm.sc
  · rw [e 85 46 (by unfold scr; omega) (by omega), q_nb]; exact hm.b
  · simp only [e86, e87, e88, e89, e90, e92, e95, e96, e97, e98, e104, e105, q_nk, q_nd, q_nc, q_md, q_sz, q_nb, q_ca, q_dp]; exact hm.bb
  · rw [e 85 33 (by unfold scr; omega) (by omega)]; exact hm.ap
  · simp only [e86, e87, e88, e89, e90, e92, e95, e96, e97, e98, e104, e105, q_nk, q_nd, q_nc, q_md, q_sz, q_nb, q_ca, q_dp]; exact hm.dep
  · simp only [e86, e87, e88, e89, e90, e92, e95, e96, e97, e98, e104, e105, q_nk, q_nd, q_nc, q_md, q_sz, q_nb, q_ca, q_dp]; exact hm.near
  · simp only [e86, e87, e88, e89, e90, e92, e95, e96, e97, e98, e104, e105, q_nk, q_nd, q_nc, q_md, q_sz, q_nb, q_ca, q_dp]; exact hm.told
  · simp only [e86, e87, e88, e89, e90, e92, e95, e96, e97, e98, e104, e105, q_nk, q_nd, q_nc, q_md, q_sz, q_nb, q_ca, q_dp]; exact hm.toldn
  · simp only [e86, e87, e88, e89, e90, e92, e95, e96, e97, e98, e104, e105, q_nk, q_nd, q_nc, q_md, q_sz, q_nb, q_ca, q_dp]; exact hm.bs
  · simp only [e86, e87, e88, e89, e90, e92, e95, e96, e97, e98, e104, e105, q_nk, q_nd, q_nc, q_md, q_sz, q_nb, q_ca, q_dp]; exact hm.bd
  · simp only [e86, e87, e88, e89, e90, e92, e95, e96, e97, e98, e104, e105, q_nk, q_nd, q_nc, q_md, q_sz, q_nb, q_ca, q_dp]; exact hm.bp
  · simp only [e86, e87, e88, e89, e90, e92, e95, e96, e97, e98, e104, e105, q_nk, q_nd, q_nc, q_md, q_sz, q_nb, q_ca, q_dp]; exact hm.rb
  · simp only [e86, e87, e88, e89, e90, e92, e95, e96, e97, e98, e104, e105, q_nk, q_nd, q_nc, q_md, q_sz, q_nb, q_ca, q_dp]; exact hm.ru
  · simp only [e86, e87, e88, e89, e90, e92, e95, e96, e97, e98, e104, e105, q_nk, q_nd, q_nc, q_md, q_sz, q_nb, q_ca, q_dp]; exact hm.wu
  · simp only [e86, e87, e88, e89, e90, e92, e95, e96, e97, e98, e104, e105, q_nk, q_nd, q_nc, q_md, q_sz, q_nb, q_ca, q_dp]; exact hm.wf
  · simp only [e86, e87, e88, e89, e90, e92, e95, e96, e97, e98, e104, e105, q_nk, q_nd, q_nc, q_md, q_sz, q_nb, q_ca, q_dp]; exact hm.hu
theorem RK_up_ctl {I J : Nat → Nat → Int32} {L K : Nat → Nat → Int64} {R : Nat → Nat} (h : RK I L R) (e : ∀ a b, ¬ scr a b → ¬ ((a = 0 ∧ b = 17) ∨ (a = 85 ∧ b = 44)) → J a b = I a b) (eL0 : ∀ k, k < 16 → K (19 + k) 0 = L (19 + k) 0) (eL1 : K 1 5 = L 1 5) (eL15 : ∀ b, K 15 b = L 15 b) (m : MI J)
    (n_ct : J 0 17 = J 85 44) : RK J K R := by
  have e86 : ∀ b, J 86 b = I 86 b := fun b => e 86 b (by unfold scr; omega) (by omega)
  have e87 : ∀ b, J 87 b = I 87 b := fun b => e 87 b (by unfold scr; omega) (by omega)
  have e88 : ∀ b, J 88 b = I 88 b := fun b => e 88 b (by unfold scr; omega) (by omega)
  have e89 : ∀ b, J 89 b = I 89 b := fun b => e 89 b (by unfold scr; omega) (by omega)
  have e90 : ∀ b, J 90 b = I 90 b := fun b => e 90 b (by unfold scr; omega) (by omega)
  have e92 : ∀ b, J 92 b = I 92 b := fun b => e 92 b (by unfold scr; omega) (by omega)
  have e95 : ∀ b, J 95 b = I 95 b := fun b => e 95 b (by unfold scr; omega) (by omega)
  have e96 : ∀ b, J 96 b = I 96 b := fun b => e 96 b (by unfold scr; omega) (by omega)
  have e97 : ∀ b, J 97 b = I 97 b := fun b => e 97 b (by unfold scr; omega) (by omega)
  have e98 : ∀ b, J 98 b = I 98 b := fun b => e 98 b (by unfold scr; omega) (by omega)
  have e104 : ∀ b, J 104 b = I 104 b := fun b => e 104 b (by unfold scr; omega) (by omega)
  have e105 : ∀ b, J 105 b = I 105 b := fun b => e 105 b (by unfold scr; omega) (by omega)
  have q_nk : nkI J = nkI I := by unfold nkI; rw [e 85 35 (by unfold scr; omega) (by omega)]
  have q_nd : ndI J = ndI I := by unfold ndI; rw [e 85 36 (by unfold scr; omega) (by omega)]
  have q_nc : ncI J = ncI I := by unfold ncI; rw [e 85 31 (by unfold scr; omega) (by omega)]
  have q_md : mdI J = mdI I := by unfold mdI; rw [e 85 32 (by unfold scr; omega) (by omega)]
  have q_sz : szI J = szI I := by unfold szI; rw [e 85 34 (by unfold scr; omega) (by omega)]
  have q_nb : nbI J = nbI I := by unfold nbI; rw [e 85 46 (by unfold scr; omega) (by omega)]
  have q_dp : dpM J = dpM I := by funext k c; unfold dpM; rw [e86]
  have hkb := h.mi.kb
  have f1 : ∀ k, k < 16 → J (19 + k) 1 = I (19 + k) 1 := fun k hk => e (19 + k) 1 (by unfold scr; omega) (by omega)
  have f2 : ∀ k, k < 16 → J (19 + k) 2 = I (19 + k) 2 := fun k hk => e (19 + k) 2 (by unfold scr; omega) (by omega)
  have f3 : ∀ k, k < 16 → J (19 + k) 3 = I (19 + k) 3 := fun k hk => e (19 + k) 3 (by unfold scr; omega) (by omega)
  have f4 : ∀ k, k < 16 → J (19 + k) 4 = I (19 + k) 4 := fun k hk => e (19 + k) 4 (by unfold scr; omega) (by omega)
  have f5 : ∀ k, k < 16 → J (19 + k) 5 = I (19 + k) 5 := fun k hk => e (19 + k) 5 (by unfold scr; omega) (by omega)
  have g0 : ∀ d, d < 10 → J (R d) 0 = I (R d) 0 := fun d hd => by
    have := h.rr d hd
    exact e (R d) 0 (by unfold scr; omega) (by omega)
  have g1 : ∀ d, d < 10 → J (R d) 1 = I (R d) 1 := fun d hd => by
    have := h.rr d hd
    exact e (R d) 1 (by unfold scr; omega) (by omega)
  have g2 : ∀ d, d < 10 → J (R d) 2 = I (R d) 2 := fun d hd => by
    have := h.rr d hd
    exact e (R d) 2 (by unfold scr; omega) (by omega)
  refine ⟨m, ?_, ?_, ?_, ?_, ?_, ?_, ?_, ?_, ?_, ?_, ?_, ?_, ?_, ?_, ?_, ?_, ?_, ?_, ?_, ?_, ?_, ?_⟩
  · exact by rw [e 1 1 (by unfold scr; omega) (by omega), e 85 31 (by unfold scr; omega) (by omega)]; exact h.ch
  · exact by rw [e 1 2 (by unfold scr; omega) (by omega), e 85 32 (by unfold scr; omega) (by omega)]; exact h.dp
  · exact by rw [e 1 3 (by unfold scr; omega) (by omega), e 85 33 (by unfold scr; omega) (by omega)]; exact h.ap
  · exact by rw [e 1 6 (by unfold scr; omega) (by omega), e 85 34 (by unfold scr; omega) (by omega)]; exact h.sz
  · exact by rw [e 0 9 (by unfold scr; omega) (by omega), e 85 35 (by unfold scr; omega) (by omega)]; exact h.nk
  · exact by rw [e 0 10 (by unfold scr; omega) (by omega), e 85 36 (by unfold scr; omega) (by omega)]; exact h.nd
  · exact n_ct
  · exact by rw [e 0 12 (by unfold scr; omega) (by omega), e 85 46 (by unfold scr; omega) (by omega)]; exact h.nb
  · exact fun k hk => by
      rw [q_nk] at hk
      rw [eL0 k (by omega), q_dp, q_nc]; exact h.kc k hk
  · exact fun k hk => by
      rw [q_nk] at hk
      rw [e95, f1 k (by omega)]; exact h.kp k hk
  · exact fun k hk => by rw [e92, f2 k hk]; exact h.kl k hk
  · exact fun k hk => by rw [e89, f4 k hk]; exact h.kh k hk
  · exact fun k hk => by
      rw [q_nk] at hk
      rw [e89, e90, f5 k (by omega)]; exact h.kd k hk
  · exact fun k j hk hj => by
      rw [q_nk] at hk
      rw [f3 k (by omega), q_nk, e96, e96]; exact h.kr k j hk hj
  · exact fun d k hd hk => by rw [g1 d hd, e88]; exact h.wi d k hd hk
  · exact fun d k hd hk => by rw [g1 d hd]; exact h.w0 d k hd hk
  · exact fun d hd => by rw [e97, g0 d hd]; exact h.wa d hd
  · exact fun d hd => by rw [e98, g2 d hd]; exact h.bu d hd
  · exact h.rr
  · exact h.ri
  · exact by rw [eL1, q_sz]; simp only [e87]; exact h.to
  · exact fun b hb => by
      rw [q_nb] at hb
      rw [eL15]; simp only [e104, e105]; exact h.bl b hb
theorem MI_up_exch {I J : Nat → Nat → Int32} (hm : MI I) (e : ∀ a b, ¬ scr a b → ¬ (a = 88 ∨ a = 97 ∨ a = 98) → J a b = I a b)
    (n_wu : ∀ d k, k < 16 → tb (J 88 k) d = true → k < nkI J ∧ d < ndI J)
    (n_wf : ∀ d k, k < 16 → tb (J 88 k) d = true → (J 95 k &&& J 97 d) = 0) : MI J := by
  have e86 : ∀ b, J 86 b = I 86 b := fun b => e 86 b (by unfold scr; omega) (by omega)
  have e87 : ∀ b, J 87 b = I 87 b := fun b => e 87 b (by unfold scr; omega) (by omega)
  have e89 : ∀ b, J 89 b = I 89 b := fun b => e 89 b (by unfold scr; omega) (by omega)
  have e90 : ∀ b, J 90 b = I 90 b := fun b => e 90 b (by unfold scr; omega) (by omega)
  have e92 : ∀ b, J 92 b = I 92 b := fun b => e 92 b (by unfold scr; omega) (by omega)
  have e95 : ∀ b, J 95 b = I 95 b := fun b => e 95 b (by unfold scr; omega) (by omega)
  have e96 : ∀ b, J 96 b = I 96 b := fun b => e 96 b (by unfold scr; omega) (by omega)
  have e104 : ∀ b, J 104 b = I 104 b := fun b => e 104 b (by unfold scr; omega) (by omega)
  have e105 : ∀ b, J 105 b = I 105 b := fun b => e 105 b (by unfold scr; omega) (by omega)
  have q_nk : nkI J = nkI I := by unfold nkI; rw [e 85 35 (by unfold scr; omega) (by omega)]
  have q_nd : ndI J = ndI I := by unfold ndI; rw [e 85 36 (by unfold scr; omega) (by omega)]
  have q_nc : ncI J = ncI I := by unfold ncI; rw [e 85 31 (by unfold scr; omega) (by omega)]
  have q_md : mdI J = mdI I := by unfold mdI; rw [e 85 32 (by unfold scr; omega) (by omega)]
  have q_sz : szI J = szI I := by unfold szI; rw [e 85 34 (by unfold scr; omega) (by omega)]
  have q_nb : nbI J = nbI I := by unfold nbI; rw [e 85 46 (by unfold scr; omega) (by omega)]
  have q_ca : cA J = cA I := by funext d e2; unfold cA; rw [e 85 33 (by unfold scr; omega) (by omega)]
  have q_dp : dpM J = dpM I := by funext k c; unfold dpM; rw [e86]
  refine ⟨?_, ?_, ?_, ?_, ?_, ?_, ?_, ?_, ?_, ?_, ?_, ?_, ?_, ?_, ?_, ?_, ?_, ?_, ?_, ?_, ?_, ?_, ?_, ?_, ?_, ?_, ?_⟩
  · rw [e 85 35 (by unfold scr; omega) (by omega), q_nk]; exact hm.k
  · simp only [e86, e87, e89, e90, e92, e95, e96, e104, e105, q_nk, q_nd, q_nc, q_md, q_sz, q_nb, q_ca, q_dp]; exact hm.kb
  · rw [e 85 36 (by unfold scr; omega) (by omega), q_nd]; exact hm.d
  · simp only [e86, e87, e89, e90, e92, e95, e96, e104, e105, q_nk, q_nd, q_nc, q_md, q_sz, q_nb, q_ca, q_dp]; exact hm.db
  · rw [e 85 31 (by unfold scr; omega) (by omega), q_nc]; exact hm.c
  · simp only [e86, e87, e89, e90, e92, e95, e96, e104, e105, q_nk, q_nd, q_nc, q_md, q_sz, q_nb, q_ca, q_dp]; exact hm.c3
  · simp only [e86, e87, e89, e90, e92, e95, e96, e104, e105, q_nk, q_nd, q_nc, q_md, q_sz, q_nb, q_ca, q_dp]; exact hm.c6
  · rw [e 85 32 (by unfold scr; omega) (by omega), q_md]; exact hm.m
  · simp only [e86, e87, e89, e90, e92, e95, e96, e104, e105, q_nk, q_nd, q_nc, q_md, q_sz, q_nb, q_ca, q_dp]; exact hm.m2
  · simp only [e86, e87, e89, e90, e92, e95, e96, e104, e105, q_nk, q_nd, q_nc, q_md, q_sz, q_nb, q_ca, q_dp]; exact hm.m6
  · rw [e 85 34 (by unfold scr; omega) (by omega), q_sz]; exact hm.s
  · simp only [e86, e87, e89, e90, e92, e95, e96, e104, e105, q_nk, q_nd, q_nc, q_md, q_sz, q_nb, q_ca, q_dp]; exact hm.sc
  · rw [e 85 46 (by unfold scr; omega) (by omega), q_nb]; exact hm.b
  · simp only [e86, e87, e89, e90, e92, e95, e96, e104, e105, q_nk, q_nd, q_nc, q_md, q_sz, q_nb, q_ca, q_dp]; exact hm.bb
  · rw [e 85 33 (by unfold scr; omega) (by omega)]; exact hm.ap
  · simp only [e86, e87, e89, e90, e92, e95, e96, e104, e105, q_nk, q_nd, q_nc, q_md, q_sz, q_nb, q_ca, q_dp]; exact hm.dep
  · simp only [e86, e87, e89, e90, e92, e95, e96, e104, e105, q_nk, q_nd, q_nc, q_md, q_sz, q_nb, q_ca, q_dp]; exact hm.near
  · simp only [e86, e87, e89, e90, e92, e95, e96, e104, e105, q_nk, q_nd, q_nc, q_md, q_sz, q_nb, q_ca, q_dp]; exact hm.told
  · simp only [e86, e87, e89, e90, e92, e95, e96, e104, e105, q_nk, q_nd, q_nc, q_md, q_sz, q_nb, q_ca, q_dp]; exact hm.toldn
  · simp only [e86, e87, e89, e90, e92, e95, e96, e104, e105, q_nk, q_nd, q_nc, q_md, q_sz, q_nb, q_ca, q_dp]; exact hm.bs
  · simp only [e86, e87, e89, e90, e92, e95, e96, e104, e105, q_nk, q_nd, q_nc, q_md, q_sz, q_nb, q_ca, q_dp]; exact hm.bd
  · simp only [e86, e87, e89, e90, e92, e95, e96, e104, e105, q_nk, q_nd, q_nc, q_md, q_sz, q_nb, q_ca, q_dp]; exact hm.bp
  · simp only [e86, e87, e89, e90, e92, e95, e96, e104, e105, q_nk, q_nd, q_nc, q_md, q_sz, q_nb, q_ca, q_dp]; exact hm.rb
  · simp only [e86, e87, e89, e90, e92, e95, e96, e104, e105, q_nk, q_nd, q_nc, q_md, q_sz, q_nb, q_ca, q_dp]; exact hm.ru
  · exact n_wu
  · exact n_wf
  · simp only [e86, e87, e89, e90, e92, e95, e96, e104, e105, q_nk, q_nd, q_nc, q_md, q_sz, q_nb, q_ca, q_dp]; exact hm.hu
theorem RK_up_exch {I J : Nat → Nat → Int32} {L K : Nat → Nat → Int64} {R S : Nat → Nat} (h : RK I L R) (e : ∀ a b, ¬ scr a b → ¬ (a = 88 ∨ a = 97 ∨ a = 98) → J a b = I a b) (eL0 : ∀ k, k < 16 → K (19 + k) 0 = L (19 + k) 0) (eL1 : K 1 5 = L 1 5) (eL15 : ∀ b, K 15 b = L 15 b) (m : MI J)
    (n_wi : ∀ d k, d < 10 → k < 16 → tb (J (S d) 1) k = tb (J 88 k) d)
    (n_w0 : ∀ d k, d < 10 → 16 ≤ k → tb (J (S d) 1) k = false)
    (n_wa : ∀ d, d < 10 → J 97 d = J (S d) 0)
    (n_bu : ∀ d, d < 10 → J 98 d = J (S d) 2)
    (n_rr : ∀ d, d < 10 → 35 ≤ S d ∧ S d ≤ 44)
    (n_ri : ∀ d e, d < 10 → e < 10 → S d = S e → d = e) : RK J K S := by
  have e86 : ∀ b, J 86 b = I 86 b := fun b => e 86 b (by unfold scr; omega) (by omega)
  have e87 : ∀ b, J 87 b = I 87 b := fun b => e 87 b (by unfold scr; omega) (by omega)
  have e89 : ∀ b, J 89 b = I 89 b := fun b => e 89 b (by unfold scr; omega) (by omega)
  have e90 : ∀ b, J 90 b = I 90 b := fun b => e 90 b (by unfold scr; omega) (by omega)
  have e92 : ∀ b, J 92 b = I 92 b := fun b => e 92 b (by unfold scr; omega) (by omega)
  have e95 : ∀ b, J 95 b = I 95 b := fun b => e 95 b (by unfold scr; omega) (by omega)
  have e96 : ∀ b, J 96 b = I 96 b := fun b => e 96 b (by unfold scr; omega) (by omega)
  have e104 : ∀ b, J 104 b = I 104 b := fun b => e 104 b (by unfold scr; omega) (by omega)
  have e105 : ∀ b, J 105 b = I 105 b := fun b => e 105 b (by unfold scr; omega) (by omega)
  have q_nk : nkI J = nkI I := by unfold nkI; rw [e 85 35 (by unfold scr; omega) (by omega)]
  have q_nd : ndI J = ndI I := by unfold ndI; rw [e 85 36 (by unfold scr; omega) (by omega)]
  have q_nc : ncI J = ncI I := by unfold ncI; rw [e 85 31 (by unfold scr; omega) (by omega)]
  have q_md : mdI J = mdI I := by unfold mdI; rw [e 85 32 (by unfold scr; omega) (by omega)]
  have q_sz : szI J = szI I := by unfold szI; rw [e 85 34 (by unfold scr; omega) (by omega)]
  have q_nb : nbI J = nbI I := by unfold nbI; rw [e 85 46 (by unfold scr; omega) (by omega)]
  have q_dp : dpM J = dpM I := by funext k c; unfold dpM; rw [e86]
  have hkb := h.mi.kb
  have f1 : ∀ k, k < 16 → J (19 + k) 1 = I (19 + k) 1 := fun k hk => e (19 + k) 1 (by unfold scr; omega) (by omega)
  have f2 : ∀ k, k < 16 → J (19 + k) 2 = I (19 + k) 2 := fun k hk => e (19 + k) 2 (by unfold scr; omega) (by omega)
  have f3 : ∀ k, k < 16 → J (19 + k) 3 = I (19 + k) 3 := fun k hk => e (19 + k) 3 (by unfold scr; omega) (by omega)
  have f4 : ∀ k, k < 16 → J (19 + k) 4 = I (19 + k) 4 := fun k hk => e (19 + k) 4 (by unfold scr; omega) (by omega)
  have f5 : ∀ k, k < 16 → J (19 + k) 5 = I (19 + k) 5 := fun k hk => e (19 + k) 5 (by unfold scr; omega) (by omega)
  refine ⟨m, ?_, ?_, ?_, ?_, ?_, ?_, ?_, ?_, ?_, ?_, ?_, ?_, ?_, ?_, ?_, ?_, ?_, ?_, ?_, ?_, ?_, ?_⟩
  · exact by rw [e 1 1 (by unfold scr; omega) (by omega), e 85 31 (by unfold scr; omega) (by omega)]; exact h.ch
  · exact by rw [e 1 2 (by unfold scr; omega) (by omega), e 85 32 (by unfold scr; omega) (by omega)]; exact h.dp
  · exact by rw [e 1 3 (by unfold scr; omega) (by omega), e 85 33 (by unfold scr; omega) (by omega)]; exact h.ap
  · exact by rw [e 1 6 (by unfold scr; omega) (by omega), e 85 34 (by unfold scr; omega) (by omega)]; exact h.sz
  · exact by rw [e 0 9 (by unfold scr; omega) (by omega), e 85 35 (by unfold scr; omega) (by omega)]; exact h.nk
  · exact by rw [e 0 10 (by unfold scr; omega) (by omega), e 85 36 (by unfold scr; omega) (by omega)]; exact h.nd
  · exact by rw [e 0 17 (by unfold scr; omega) (by omega), e 85 44 (by unfold scr; omega) (by omega)]; exact h.ct
  · exact by rw [e 0 12 (by unfold scr; omega) (by omega), e 85 46 (by unfold scr; omega) (by omega)]; exact h.nb
  · exact fun k hk => by
      rw [q_nk] at hk
      rw [eL0 k (by omega), q_dp, q_nc]; exact h.kc k hk
  · exact fun k hk => by
      rw [q_nk] at hk
      rw [e95, f1 k (by omega)]; exact h.kp k hk
  · exact fun k hk => by rw [e92, f2 k hk]; exact h.kl k hk
  · exact fun k hk => by rw [e89, f4 k hk]; exact h.kh k hk
  · exact fun k hk => by
      rw [q_nk] at hk
      rw [e89, e90, f5 k (by omega)]; exact h.kd k hk
  · exact fun k j hk hj => by
      rw [q_nk] at hk
      rw [f3 k (by omega), q_nk, e96, e96]; exact h.kr k j hk hj
  · exact n_wi
  · exact n_w0
  · exact n_wa
  · exact n_bu
  · exact n_rr
  · exact n_ri
  · exact by rw [eL1, q_sz]; simp only [e87]; exact h.to
  · exact fun b hb => by
      rw [q_nb] at hb
      rw [eL15]; simp only [e104, e105]; exact h.bl b hb
theorem MI_up_ring {I J : Nat → Nat → Int32} (hm : MI I) (e : ∀ a b, ¬ scr a b → ¬ (a = 96 ∨ (19 ≤ a ∧ a ≤ 34 ∧ b = 3)) → J a b = I a b)
    (n_rb : ∀ k, k < nkI J → ∃ e, e < nkI J ∧ J 96 k = Int32.ofNat e)
    (n_ru : ∀ k, nkI J ≤ k → k < 16 → J 96 k = Int32.ofNat k) : MI J := by
  have e86 : ∀ b, J 86 b = I 86 b := fun b => e 86 b (by unfold scr; omega) (by omega)
  have e87 : ∀ b, J 87 b = I 87 b := fun b => e 87 b (by unfold scr; omega) (by omega)
  have e88 : ∀ b, J 88 b = I 88 b := fun b => e 88 b (by unfold scr; omega) (by omega)
  have e89 : ∀ b, J 89 b = I 89 b := fun b => e 89 b (by unfold scr; omega) (by omega)
  have e90 : ∀ b, J 90 b = I 90 b := fun b => e 90 b (by unfold scr; omega) (by omega)
  have e92 : ∀ b, J 92 b = I 92 b := fun b => e 92 b (by unfold scr; omega) (by omega)
  have e95 : ∀ b, J 95 b = I 95 b := fun b => e 95 b (by unfold scr; omega) (by omega)
  have e97 : ∀ b, J 97 b = I 97 b := fun b => e 97 b (by unfold scr; omega) (by omega)
  have e98 : ∀ b, J 98 b = I 98 b := fun b => e 98 b (by unfold scr; omega) (by omega)
  have e104 : ∀ b, J 104 b = I 104 b := fun b => e 104 b (by unfold scr; omega) (by omega)
  have e105 : ∀ b, J 105 b = I 105 b := fun b => e 105 b (by unfold scr; omega) (by omega)
  have q_nk : nkI J = nkI I := by unfold nkI; rw [e 85 35 (by unfold scr; omega) (by omega)]
  have q_nd : ndI J = ndI I := by unfold ndI; rw [e 85 36 (by unfold scr; omega) (by omega)]
  have q_nc : ncI J = ncI I := by unfold ncI; rw [e 85 31 (by unfold scr; omega) (by omega)]
  have q_md : mdI J = mdI I := by unfold mdI; rw [e 85 32 (by unfold scr; omega) (by omega)]
  have q_sz : szI J = szI I := by unfold szI; rw [e 85 34 (by unfold scr; omega) (by omega)]
  have q_nb : nbI J = nbI I := by unfold nbI; rw [e 85 46 (by unfold scr; omega) (by omega)]
  have q_ca : cA J = cA I := by funext d e2; unfold cA; rw [e 85 33 (by unfold scr; omega) (by omega)]
  have q_dp : dpM J = dpM I := by funext k c; unfold dpM; rw [e86]
  refine ⟨?_, ?_, ?_, ?_, ?_, ?_, ?_, ?_, ?_, ?_, ?_, ?_, ?_, ?_, ?_, ?_, ?_, ?_, ?_, ?_, ?_, ?_, ?_, ?_, ?_, ?_, ?_⟩
  · rw [e 85 35 (by unfold scr; omega) (by omega), q_nk]; exact hm.k
  · simp only [e86, e87, e88, e89, e90, e92, e95, e97, e98, e104, e105, q_nk, q_nd, q_nc, q_md, q_sz, q_nb, q_ca, q_dp]; exact hm.kb
  · rw [e 85 36 (by unfold scr; omega) (by omega), q_nd]; exact hm.d
  · simp only [e86, e87, e88, e89, e90, e92, e95, e97, e98, e104, e105, q_nk, q_nd, q_nc, q_md, q_sz, q_nb, q_ca, q_dp]; exact hm.db
  · rw [e 85 31 (by unfold scr; omega) (by omega), q_nc]; exact hm.c
  · simp only [e86, e87, e88, e89, e90, e92, e95, e97, e98, e104, e105, q_nk, q_nd, q_nc, q_md, q_sz, q_nb, q_ca, q_dp]; exact hm.c3
  · simp only [e86, e87, e88, e89, e90, e92, e95, e97, e98, e104, e105, q_nk, q_nd, q_nc, q_md, q_sz, q_nb, q_ca, q_dp]; exact hm.c6
  · rw [e 85 32 (by unfold scr; omega) (by omega), q_md]; exact hm.m
  · simp only [e86, e87, e88, e89, e90, e92, e95, e97, e98, e104, e105, q_nk, q_nd, q_nc, q_md, q_sz, q_nb, q_ca, q_dp]; exact hm.m2
  · simp only [e86, e87, e88, e89, e90, e92, e95, e97, e98, e104, e105, q_nk, q_nd, q_nc, q_md, q_sz, q_nb, q_ca, q_dp]; exact hm.m6
  · rw [e 85 34 (by unfold scr; omega) (by omega), q_sz]; exact hm.s
  · simp only [e86, e87, e88, e89, e90, e92, e95, e97, e98, e104, e105, q_nk, q_nd, q_nc, q_md, q_sz, q_nb, q_ca, q_dp]; exact hm.sc
  · rw [e 85 46 (by unfold scr; omega) (by omega), q_nb]; exact hm.b
  · simp only [e86, e87, e88, e89, e90, e92, e95, e97, e98, e104, e105, q_nk, q_nd, q_nc, q_md, q_sz, q_nb, q_ca, q_dp]; exact hm.bb
  · rw [e 85 33 (by unfold scr; omega) (by omega)]; exact hm.ap
  · simp only [e86, e87, e88, e89, e90, e92, e95, e97, e98, e104, e105, q_nk, q_nd, q_nc, q_md, q_sz, q_nb, q_ca, q_dp]; exact hm.dep
  · simp only [e86, e87, e88, e89, e90, e92, e95, e97, e98, e104, e105, q_nk, q_nd, q_nc, q_md, q_sz, q_nb, q_ca, q_dp]; exact hm.near
  · simp only [e86, e87, e88, e89, e90, e92, e95, e97, e98, e104, e105, q_nk, q_nd, q_nc, q_md, q_sz, q_nb, q_ca, q_dp]; exact hm.told
  · simp only [e86, e87, e88, e89, e90, e92, e95, e97, e98, e104, e105, q_nk, q_nd, q_nc, q_md, q_sz, q_nb, q_ca, q_dp]; exact hm.toldn
  · simp only [e86, e87, e88, e89, e90, e92, e95, e97, e98, e104, e105, q_nk, q_nd, q_nc, q_md, q_sz, q_nb, q_ca, q_dp]; exact hm.bs
  · simp only [e86, e87, e88, e89, e90, e92, e95, e97, e98, e104, e105, q_nk, q_nd, q_nc, q_md, q_sz, q_nb, q_ca, q_dp]; exact hm.bd
  · simp only [e86, e87, e88, e89, e90, e92, e95, e97, e98, e104, e105, q_nk, q_nd, q_nc, q_md, q_sz, q_nb, q_ca, q_dp]; exact hm.bp
  · exact n_rb
  · exact n_ru
  · simp only [e86, e87, e88, e89, e90, e92, e95, e97, e98, e104, e105, q_nk, q_nd, q_nc, q_md, q_sz, q_nb, q_ca, q_dp]; exact hm.wu
  · simp only [e86, e87, e88, e89, e90, e92, e95, e97, e98, e104, e105, q_nk, q_nd, q_nc, q_md, q_sz, q_nb, q_ca, q_dp]; exact hm.wf
  · simp only [e86, e87, e88, e89, e90, e92, e95, e97, e98, e104, e105, q_nk, q_nd, q_nc, q_md, q_sz, q_nb, q_ca, q_dp]; exact hm.hu
theorem RK_up_ring {I J : Nat → Nat → Int32} {L K : Nat → Nat → Int64} {R : Nat → Nat} (h : RK I L R) (e : ∀ a b, ¬ scr a b → ¬ (a = 96 ∨ (19 ≤ a ∧ a ≤ 34 ∧ b = 3)) → J a b = I a b) (eL0 : ∀ k, k < 16 → K (19 + k) 0 = L (19 + k) 0) (eL1 : K 1 5 = L 1 5) (eL15 : ∀ b, K 15 b = L 15 b) (m : MI J)
    (n_kr : ∀ k j, k < nkI J → j < 32 → (tb (J (19 + k) 3) j = true ↔ j < nkI J ∧ J 96 j = J 96 k)) : RK J K R := by
  have e86 : ∀ b, J 86 b = I 86 b := fun b => e 86 b (by unfold scr; omega) (by omega)
  have e87 : ∀ b, J 87 b = I 87 b := fun b => e 87 b (by unfold scr; omega) (by omega)
  have e88 : ∀ b, J 88 b = I 88 b := fun b => e 88 b (by unfold scr; omega) (by omega)
  have e89 : ∀ b, J 89 b = I 89 b := fun b => e 89 b (by unfold scr; omega) (by omega)
  have e90 : ∀ b, J 90 b = I 90 b := fun b => e 90 b (by unfold scr; omega) (by omega)
  have e92 : ∀ b, J 92 b = I 92 b := fun b => e 92 b (by unfold scr; omega) (by omega)
  have e95 : ∀ b, J 95 b = I 95 b := fun b => e 95 b (by unfold scr; omega) (by omega)
  have e97 : ∀ b, J 97 b = I 97 b := fun b => e 97 b (by unfold scr; omega) (by omega)
  have e98 : ∀ b, J 98 b = I 98 b := fun b => e 98 b (by unfold scr; omega) (by omega)
  have e104 : ∀ b, J 104 b = I 104 b := fun b => e 104 b (by unfold scr; omega) (by omega)
  have e105 : ∀ b, J 105 b = I 105 b := fun b => e 105 b (by unfold scr; omega) (by omega)
  have q_nk : nkI J = nkI I := by unfold nkI; rw [e 85 35 (by unfold scr; omega) (by omega)]
  have q_nd : ndI J = ndI I := by unfold ndI; rw [e 85 36 (by unfold scr; omega) (by omega)]
  have q_nc : ncI J = ncI I := by unfold ncI; rw [e 85 31 (by unfold scr; omega) (by omega)]
  have q_md : mdI J = mdI I := by unfold mdI; rw [e 85 32 (by unfold scr; omega) (by omega)]
  have q_sz : szI J = szI I := by unfold szI; rw [e 85 34 (by unfold scr; omega) (by omega)]
  have q_nb : nbI J = nbI I := by unfold nbI; rw [e 85 46 (by unfold scr; omega) (by omega)]
  have q_dp : dpM J = dpM I := by funext k c; unfold dpM; rw [e86]
  have hkb := h.mi.kb
  have f1 : ∀ k, k < 16 → J (19 + k) 1 = I (19 + k) 1 := fun k hk => e (19 + k) 1 (by unfold scr; omega) (by omega)
  have f2 : ∀ k, k < 16 → J (19 + k) 2 = I (19 + k) 2 := fun k hk => e (19 + k) 2 (by unfold scr; omega) (by omega)
  have f4 : ∀ k, k < 16 → J (19 + k) 4 = I (19 + k) 4 := fun k hk => e (19 + k) 4 (by unfold scr; omega) (by omega)
  have f5 : ∀ k, k < 16 → J (19 + k) 5 = I (19 + k) 5 := fun k hk => e (19 + k) 5 (by unfold scr; omega) (by omega)
  have g0 : ∀ d, d < 10 → J (R d) 0 = I (R d) 0 := fun d hd => by
    have := h.rr d hd
    exact e (R d) 0 (by unfold scr; omega) (by omega)
  have g1 : ∀ d, d < 10 → J (R d) 1 = I (R d) 1 := fun d hd => by
    have := h.rr d hd
    exact e (R d) 1 (by unfold scr; omega) (by omega)
  have g2 : ∀ d, d < 10 → J (R d) 2 = I (R d) 2 := fun d hd => by
    have := h.rr d hd
    exact e (R d) 2 (by unfold scr; omega) (by omega)
  refine ⟨m, ?_, ?_, ?_, ?_, ?_, ?_, ?_, ?_, ?_, ?_, ?_, ?_, ?_, ?_, ?_, ?_, ?_, ?_, ?_, ?_, ?_, ?_⟩
  · exact by rw [e 1 1 (by unfold scr; omega) (by omega), e 85 31 (by unfold scr; omega) (by omega)]; exact h.ch
  · exact by rw [e 1 2 (by unfold scr; omega) (by omega), e 85 32 (by unfold scr; omega) (by omega)]; exact h.dp
  · exact by rw [e 1 3 (by unfold scr; omega) (by omega), e 85 33 (by unfold scr; omega) (by omega)]; exact h.ap
  · exact by rw [e 1 6 (by unfold scr; omega) (by omega), e 85 34 (by unfold scr; omega) (by omega)]; exact h.sz
  · exact by rw [e 0 9 (by unfold scr; omega) (by omega), e 85 35 (by unfold scr; omega) (by omega)]; exact h.nk
  · exact by rw [e 0 10 (by unfold scr; omega) (by omega), e 85 36 (by unfold scr; omega) (by omega)]; exact h.nd
  · exact by rw [e 0 17 (by unfold scr; omega) (by omega), e 85 44 (by unfold scr; omega) (by omega)]; exact h.ct
  · exact by rw [e 0 12 (by unfold scr; omega) (by omega), e 85 46 (by unfold scr; omega) (by omega)]; exact h.nb
  · exact fun k hk => by
      rw [q_nk] at hk
      rw [eL0 k (by omega), q_dp, q_nc]; exact h.kc k hk
  · exact fun k hk => by
      rw [q_nk] at hk
      rw [e95, f1 k (by omega)]; exact h.kp k hk
  · exact fun k hk => by rw [e92, f2 k hk]; exact h.kl k hk
  · exact fun k hk => by rw [e89, f4 k hk]; exact h.kh k hk
  · exact fun k hk => by
      rw [q_nk] at hk
      rw [e89, e90, f5 k (by omega)]; exact h.kd k hk
  · exact n_kr
  · exact fun d k hd hk => by rw [g1 d hd, e88]; exact h.wi d k hd hk
  · exact fun d k hd hk => by rw [g1 d hd]; exact h.w0 d k hd hk
  · exact fun d hd => by rw [e97, g0 d hd]; exact h.wa d hd
  · exact fun d hd => by rw [e98, g2 d hd]; exact h.bu d hd
  · exact h.rr
  · exact h.ri
  · exact by rw [eL1, q_sz]; simp only [e87]; exact h.to
  · exact fun b hb => by
      rw [q_nb] at hb
      rw [eL15]; simp only [e104, e105]; exact h.bl b hb
theorem MI_up_lend {I J : Nat → Nat → Int32} (hm : MI I) (e : ∀ a b, ¬ scr a b → ¬ (a = 89 ∨ a = 90 ∨ (19 ≤ a ∧ a ≤ 34 ∧ b = 4) ∨ (19 ≤ a ∧ a ≤ 34 ∧ b = 5)) → J a b = I a b)
    (n_hu : ∀ k, nkI J ≤ k → k < 16 → J 89 k = -1) : MI J := by
  have e86 : ∀ b, J 86 b = I 86 b := fun b => e 86 b (by unfold scr; omega) (by omega)
  have e87 : ∀ b, J 87 b = I 87 b := fun b => e 87 b (by unfold scr; omega) (by omega)
  have e88 : ∀ b, J 88 b = I 88 b := fun b => e 88 b (by unfold scr; omega) (by omega)
  have e92 : ∀ b, J 92 b = I 92 b := fun b => e 92 b (by unfold scr; omega) (by omega)
  have e95 : ∀ b, J 95 b = I 95 b := fun b => e 95 b (by unfold scr; omega) (by omega)
  have e96 : ∀ b, J 96 b = I 96 b := fun b => e 96 b (by unfold scr; omega) (by omega)
  have e97 : ∀ b, J 97 b = I 97 b := fun b => e 97 b (by unfold scr; omega) (by omega)
  have e98 : ∀ b, J 98 b = I 98 b := fun b => e 98 b (by unfold scr; omega) (by omega)
  have e104 : ∀ b, J 104 b = I 104 b := fun b => e 104 b (by unfold scr; omega) (by omega)
  have e105 : ∀ b, J 105 b = I 105 b := fun b => e 105 b (by unfold scr; omega) (by omega)
  have q_nk : nkI J = nkI I := by unfold nkI; rw [e 85 35 (by unfold scr; omega) (by omega)]
  have q_nd : ndI J = ndI I := by unfold ndI; rw [e 85 36 (by unfold scr; omega) (by omega)]
  have q_nc : ncI J = ncI I := by unfold ncI; rw [e 85 31 (by unfold scr; omega) (by omega)]
  have q_md : mdI J = mdI I := by unfold mdI; rw [e 85 32 (by unfold scr; omega) (by omega)]
  have q_sz : szI J = szI I := by unfold szI; rw [e 85 34 (by unfold scr; omega) (by omega)]
  have q_nb : nbI J = nbI I := by unfold nbI; rw [e 85 46 (by unfold scr; omega) (by omega)]
  have q_ca : cA J = cA I := by funext d e2; unfold cA; rw [e 85 33 (by unfold scr; omega) (by omega)]
  have q_dp : dpM J = dpM I := by funext k c; unfold dpM; rw [e86]
  refine ⟨?_, ?_, ?_, ?_, ?_, ?_, ?_, ?_, ?_, ?_, ?_, ?_, ?_, ?_, ?_, ?_, ?_, ?_, ?_, ?_, ?_, ?_, ?_, ?_, ?_, ?_, ?_⟩
  · rw [e 85 35 (by unfold scr; omega) (by omega), q_nk]; exact hm.k
  · simp only [e86, e87, e88, e92, e95, e96, e97, e98, e104, e105, q_nk, q_nd, q_nc, q_md, q_sz, q_nb, q_ca, q_dp]; exact hm.kb
  · rw [e 85 36 (by unfold scr; omega) (by omega), q_nd]; exact hm.d
  · simp only [e86, e87, e88, e92, e95, e96, e97, e98, e104, e105, q_nk, q_nd, q_nc, q_md, q_sz, q_nb, q_ca, q_dp]; exact hm.db
  · rw [e 85 31 (by unfold scr; omega) (by omega), q_nc]; exact hm.c
  · simp only [e86, e87, e88, e92, e95, e96, e97, e98, e104, e105, q_nk, q_nd, q_nc, q_md, q_sz, q_nb, q_ca, q_dp]; exact hm.c3
  · simp only [e86, e87, e88, e92, e95, e96, e97, e98, e104, e105, q_nk, q_nd, q_nc, q_md, q_sz, q_nb, q_ca, q_dp]; exact hm.c6
  · rw [e 85 32 (by unfold scr; omega) (by omega), q_md]; exact hm.m
  · simp only [e86, e87, e88, e92, e95, e96, e97, e98, e104, e105, q_nk, q_nd, q_nc, q_md, q_sz, q_nb, q_ca, q_dp]; exact hm.m2
  · simp only [e86, e87, e88, e92, e95, e96, e97, e98, e104, e105, q_nk, q_nd, q_nc, q_md, q_sz, q_nb, q_ca, q_dp]; exact hm.m6
  · rw [e 85 34 (by unfold scr; omega) (by omega), q_sz]; exact hm.s
  · simp only [e86, e87, e88, e92, e95, e96, e97, e98, e104, e105, q_nk, q_nd, q_nc, q_md, q_sz, q_nb, q_ca, q_dp]; exact hm.sc
  · rw [e 85 46 (by unfold scr; omega) (by omega), q_nb]; exact hm.b
  · simp only [e86, e87, e88, e92, e95, e96, e97, e98, e104, e105, q_nk, q_nd, q_nc, q_md, q_sz, q_nb, q_ca, q_dp]; exact hm.bb
  · rw [e 85 33 (by unfold scr; omega) (by omega)]; exact hm.ap
  · simp only [e86, e87, e88, e92, e95, e96, e97, e98, e104, e105, q_nk, q_nd, q_nc, q_md, q_sz, q_nb, q_ca, q_dp]; exact hm.dep
  · simp only [e86, e87, e88, e92, e95, e96, e97, e98, e104, e105, q_nk, q_nd, q_nc, q_md, q_sz, q_nb, q_ca, q_dp]; exact hm.near
  · simp only [e86, e87, e88, e92, e95, e96, e97, e98, e104, e105, q_nk, q_nd, q_nc, q_md, q_sz, q_nb, q_ca, q_dp]; exact hm.told
  · simp only [e86, e87, e88, e92, e95, e96, e97, e98, e104, e105, q_nk, q_nd, q_nc, q_md, q_sz, q_nb, q_ca, q_dp]; exact hm.toldn
  · simp only [e86, e87, e88, e92, e95, e96, e97, e98, e104, e105, q_nk, q_nd, q_nc, q_md, q_sz, q_nb, q_ca, q_dp]; exact hm.bs
  · simp only [e86, e87, e88, e92, e95, e96, e97, e98, e104, e105, q_nk, q_nd, q_nc, q_md, q_sz, q_nb, q_ca, q_dp]; exact hm.bd
  · simp only [e86, e87, e88, e92, e95, e96, e97, e98, e104, e105, q_nk, q_nd, q_nc, q_md, q_sz, q_nb, q_ca, q_dp]; exact hm.bp
  · simp only [e86, e87, e88, e92, e95, e96, e97, e98, e104, e105, q_nk, q_nd, q_nc, q_md, q_sz, q_nb, q_ca, q_dp]; exact hm.rb
  · simp only [e86, e87, e88, e92, e95, e96, e97, e98, e104, e105, q_nk, q_nd, q_nc, q_md, q_sz, q_nb, q_ca, q_dp]; exact hm.ru
  · simp only [e86, e87, e88, e92, e95, e96, e97, e98, e104, e105, q_nk, q_nd, q_nc, q_md, q_sz, q_nb, q_ca, q_dp]; exact hm.wu
  · simp only [e86, e87, e88, e92, e95, e96, e97, e98, e104, e105, q_nk, q_nd, q_nc, q_md, q_sz, q_nb, q_ca, q_dp]; exact hm.wf
  · exact n_hu
theorem RK_up_lend {I J : Nat → Nat → Int32} {L K : Nat → Nat → Int64} {R : Nat → Nat} (h : RK I L R) (e : ∀ a b, ¬ scr a b → ¬ (a = 89 ∨ a = 90 ∨ (19 ≤ a ∧ a ≤ 34 ∧ b = 4) ∨ (19 ≤ a ∧ a ≤ 34 ∧ b = 5)) → J a b = I a b) (eL0 : ∀ k, k < 16 → K (19 + k) 0 = L (19 + k) 0) (eL1 : K 1 5 = L 1 5) (eL15 : ∀ b, K 15 b = L 15 b) (m : MI J)
    (n_kh : ∀ k, k < 16 → J 89 k = J (19 + k) 4)
    (n_kd : ∀ k, k < nkI J → ¬ J 89 k = -1 → J 90 k = J (19 + k) 5) : RK J K R := by
  have e86 : ∀ b, J 86 b = I 86 b := fun b => e 86 b (by unfold scr; omega) (by omega)
  have e87 : ∀ b, J 87 b = I 87 b := fun b => e 87 b (by unfold scr; omega) (by omega)
  have e88 : ∀ b, J 88 b = I 88 b := fun b => e 88 b (by unfold scr; omega) (by omega)
  have e92 : ∀ b, J 92 b = I 92 b := fun b => e 92 b (by unfold scr; omega) (by omega)
  have e95 : ∀ b, J 95 b = I 95 b := fun b => e 95 b (by unfold scr; omega) (by omega)
  have e96 : ∀ b, J 96 b = I 96 b := fun b => e 96 b (by unfold scr; omega) (by omega)
  have e97 : ∀ b, J 97 b = I 97 b := fun b => e 97 b (by unfold scr; omega) (by omega)
  have e98 : ∀ b, J 98 b = I 98 b := fun b => e 98 b (by unfold scr; omega) (by omega)
  have e104 : ∀ b, J 104 b = I 104 b := fun b => e 104 b (by unfold scr; omega) (by omega)
  have e105 : ∀ b, J 105 b = I 105 b := fun b => e 105 b (by unfold scr; omega) (by omega)
  have q_nk : nkI J = nkI I := by unfold nkI; rw [e 85 35 (by unfold scr; omega) (by omega)]
  have q_nd : ndI J = ndI I := by unfold ndI; rw [e 85 36 (by unfold scr; omega) (by omega)]
  have q_nc : ncI J = ncI I := by unfold ncI; rw [e 85 31 (by unfold scr; omega) (by omega)]
  have q_md : mdI J = mdI I := by unfold mdI; rw [e 85 32 (by unfold scr; omega) (by omega)]
  have q_sz : szI J = szI I := by unfold szI; rw [e 85 34 (by unfold scr; omega) (by omega)]
  have q_nb : nbI J = nbI I := by unfold nbI; rw [e 85 46 (by unfold scr; omega) (by omega)]
  have q_dp : dpM J = dpM I := by funext k c; unfold dpM; rw [e86]
  have hkb := h.mi.kb
  have f1 : ∀ k, k < 16 → J (19 + k) 1 = I (19 + k) 1 := fun k hk => e (19 + k) 1 (by unfold scr; omega) (by omega)
  have f2 : ∀ k, k < 16 → J (19 + k) 2 = I (19 + k) 2 := fun k hk => e (19 + k) 2 (by unfold scr; omega) (by omega)
  have f3 : ∀ k, k < 16 → J (19 + k) 3 = I (19 + k) 3 := fun k hk => e (19 + k) 3 (by unfold scr; omega) (by omega)
  have g0 : ∀ d, d < 10 → J (R d) 0 = I (R d) 0 := fun d hd => by
    have := h.rr d hd
    exact e (R d) 0 (by unfold scr; omega) (by omega)
  have g1 : ∀ d, d < 10 → J (R d) 1 = I (R d) 1 := fun d hd => by
    have := h.rr d hd
    exact e (R d) 1 (by unfold scr; omega) (by omega)
  have g2 : ∀ d, d < 10 → J (R d) 2 = I (R d) 2 := fun d hd => by
    have := h.rr d hd
    exact e (R d) 2 (by unfold scr; omega) (by omega)
  refine ⟨m, ?_, ?_, ?_, ?_, ?_, ?_, ?_, ?_, ?_, ?_, ?_, ?_, ?_, ?_, ?_, ?_, ?_, ?_, ?_, ?_, ?_, ?_⟩
  · exact by rw [e 1 1 (by unfold scr; omega) (by omega), e 85 31 (by unfold scr; omega) (by omega)]; exact h.ch
  · exact by rw [e 1 2 (by unfold scr; omega) (by omega), e 85 32 (by unfold scr; omega) (by omega)]; exact h.dp
  · exact by rw [e 1 3 (by unfold scr; omega) (by omega), e 85 33 (by unfold scr; omega) (by omega)]; exact h.ap
  · exact by rw [e 1 6 (by unfold scr; omega) (by omega), e 85 34 (by unfold scr; omega) (by omega)]; exact h.sz
  · exact by rw [e 0 9 (by unfold scr; omega) (by omega), e 85 35 (by unfold scr; omega) (by omega)]; exact h.nk
  · exact by rw [e 0 10 (by unfold scr; omega) (by omega), e 85 36 (by unfold scr; omega) (by omega)]; exact h.nd
  · exact by rw [e 0 17 (by unfold scr; omega) (by omega), e 85 44 (by unfold scr; omega) (by omega)]; exact h.ct
  · exact by rw [e 0 12 (by unfold scr; omega) (by omega), e 85 46 (by unfold scr; omega) (by omega)]; exact h.nb
  · exact fun k hk => by
      rw [q_nk] at hk
      rw [eL0 k (by omega), q_dp, q_nc]; exact h.kc k hk
  · exact fun k hk => by
      rw [q_nk] at hk
      rw [e95, f1 k (by omega)]; exact h.kp k hk
  · exact fun k hk => by rw [e92, f2 k hk]; exact h.kl k hk
  · exact n_kh
  · exact n_kd
  · exact fun k j hk hj => by
      rw [q_nk] at hk
      rw [f3 k (by omega), q_nk, e96, e96]; exact h.kr k j hk hj
  · exact fun d k hd hk => by rw [g1 d hd, e88]; exact h.wi d k hd hk
  · exact fun d k hd hk => by rw [g1 d hd]; exact h.w0 d k hd hk
  · exact fun d hd => by rw [e97, g0 d hd]; exact h.wa d hd
  · exact fun d hd => by rw [e98, g2 d hd]; exact h.bu d hd
  · exact h.rr
  · exact h.ri
  · exact by rw [eL1, q_sz]; simp only [e87]; exact h.to
  · exact fun b hb => by
      rw [q_nb] at hb
      rw [eL15]; simp only [e104, e105]; exact h.bl b hb
theorem MI_up_mach {I J : Nat → Nat → Int32} (hm : MI I) (e : ∀ a b, ¬ scr a b → ¬ ((a = 85 ∧ b = 33) ∨ (a = 1 ∧ b = 3) ∨ (a = 1 ∧ b = 2) ∨ (a = 1 ∧ b = 1) ∨ (a = 1 ∧ b = 6) ∨ (a = 85 ∧ b = 32) ∨ (a = 85 ∧ b = 31) ∨ (a = 85 ∧ b = 34)) → J a b = I a b)
    (n_c : J 85 31 = Int32.ofNat (ncI J))
    (n_c3 : 3 ≤ ncI J)
    (n_c6 : ncI J ≤ 6)
    (n_m : J 85 32 = Int32.ofNat (mdI J))
    (n_m2 : 2 ≤ mdI J)
    (n_m6 : mdI J ≤ 6)
    (n_s : J 85 34 = Int32.ofNat (szI J))
    (n_sc : szI J ≤ ncI J)
    (n_ap : inR (J 85 33) 1 5)
    (n_dep : ∀ k c, k < nkI J → c < ncI J → ∃ e, e < mdI J ∧ J 86 (6 * k + c) = Int32.ofNat e)
    (n_near : ∀ k c, k < nkI J → c + 1 < ncI J → cA J (dpM J k (c + 1)) (dpM J k c) = true)
    (n_told : ∀ c, c < szI J → ∃ e, e < mdI J ∧ J 87 c = Int32.ofNat e)
    (n_toldn : ∀ c, c + 1 < szI J → cA J (J 87 (c + 1)).toNatClampNeg (J 87 c).toNatClampNeg = true)
    (n_bs : ∀ b, b < nbI J → ∃ e, 1 ≤ e ∧ e ≤ ncI J ∧ J 104 b = Int32.ofNat e)
    (n_bd : ∀ b c, b < nbI J → c < (J 104 b).toNatClampNeg → ∃ e, e < mdI J ∧ J 105 (6 * b + c) = Int32.ofNat e) : MI J := by
  have e86 : ∀ b, J 86 b = I 86 b := fun b => e 86 b (by unfold scr; omega) (by omega)
  have e87 : ∀ b, J 87 b = I 87 b := fun b => e 87 b (by unfold scr; omega) (by omega)
  have e88 : ∀ b, J 88 b = I 88 b := fun b => e 88 b (by unfold scr; omega) (by omega)
  have e89 : ∀ b, J 89 b = I 89 b := fun b => e 89 b (by unfold scr; omega) (by omega)
  have e90 : ∀ b, J 90 b = I 90 b := fun b => e 90 b (by unfold scr; omega) (by omega)
  have e92 : ∀ b, J 92 b = I 92 b := fun b => e 92 b (by unfold scr; omega) (by omega)
  have e95 : ∀ b, J 95 b = I 95 b := fun b => e 95 b (by unfold scr; omega) (by omega)
  have e96 : ∀ b, J 96 b = I 96 b := fun b => e 96 b (by unfold scr; omega) (by omega)
  have e97 : ∀ b, J 97 b = I 97 b := fun b => e 97 b (by unfold scr; omega) (by omega)
  have e98 : ∀ b, J 98 b = I 98 b := fun b => e 98 b (by unfold scr; omega) (by omega)
  have e104 : ∀ b, J 104 b = I 104 b := fun b => e 104 b (by unfold scr; omega) (by omega)
  have e105 : ∀ b, J 105 b = I 105 b := fun b => e 105 b (by unfold scr; omega) (by omega)
  have q_nk : nkI J = nkI I := by unfold nkI; rw [e 85 35 (by unfold scr; omega) (by omega)]
  have q_nd : ndI J = ndI I := by unfold ndI; rw [e 85 36 (by unfold scr; omega) (by omega)]
  have q_nb : nbI J = nbI I := by unfold nbI; rw [e 85 46 (by unfold scr; omega) (by omega)]
  have q_dp : dpM J = dpM I := by funext k c; unfold dpM; rw [e86]
  refine ⟨?_, ?_, ?_, ?_, ?_, ?_, ?_, ?_, ?_, ?_, ?_, ?_, ?_, ?_, ?_, ?_, ?_, ?_, ?_, ?_, ?_, ?_, ?_, ?_, ?_, ?_, ?_⟩
  · rw [e 85 35 (by unfold scr; omega) (by omega), q_nk]; exact hm.k
  · simp only [e86, e87, e88, e89, e90, e92, e95, e96, e97, e98, e104, e105, q_nk, q_nd, q_nb, q_dp]; exact hm.kb
  · rw [e 85 36 (by unfold scr; omega) (by omega), q_nd]; exact hm.d
  · simp only [e86, e87, e88, e89, e90, e92, e95, e96, e97, e98, e104, e105, q_nk, q_nd, q_nb, q_dp]; exact hm.db
  · exact n_c
  · exact n_c3
  · exact n_c6
  · exact n_m
  · exact n_m2
  · exact n_m6
  · exact n_s
  · exact n_sc
  · rw [e 85 46 (by unfold scr; omega) (by omega), q_nb]; exact hm.b
  · simp only [e86, e87, e88, e89, e90, e92, e95, e96, e97, e98, e104, e105, q_nk, q_nd, q_nb, q_dp]; exact hm.bb
  · exact n_ap
  · exact n_dep
  · exact n_near
  · exact n_told
  · exact n_toldn
  · exact n_bs
  · exact n_bd
  · simp only [e86, e87, e88, e89, e90, e92, e95, e96, e97, e98, e104, e105, q_nk, q_nd, q_nb, q_dp]; exact hm.bp
  · simp only [e86, e87, e88, e89, e90, e92, e95, e96, e97, e98, e104, e105, q_nk, q_nd, q_nb, q_dp]; exact hm.rb
  · simp only [e86, e87, e88, e89, e90, e92, e95, e96, e97, e98, e104, e105, q_nk, q_nd, q_nb, q_dp]; exact hm.ru
  · simp only [e86, e87, e88, e89, e90, e92, e95, e96, e97, e98, e104, e105, q_nk, q_nd, q_nb, q_dp]; exact hm.wu
  · simp only [e86, e87, e88, e89, e90, e92, e95, e96, e97, e98, e104, e105, q_nk, q_nd, q_nb, q_dp]; exact hm.wf
  · simp only [e86, e87, e88, e89, e90, e92, e95, e96, e97, e98, e104, e105, q_nk, q_nd, q_nb, q_dp]; exact hm.hu
theorem RK_up_mach {I J : Nat → Nat → Int32} {L K : Nat → Nat → Int64} {R : Nat → Nat} (h : RK I L R) (e : ∀ a b, ¬ scr a b → ¬ ((a = 85 ∧ b = 33) ∨ (a = 1 ∧ b = 3) ∨ (a = 1 ∧ b = 2) ∨ (a = 1 ∧ b = 1) ∨ (a = 1 ∧ b = 6) ∨ (a = 85 ∧ b = 32) ∨ (a = 85 ∧ b = 31) ∨ (a = 85 ∧ b = 34)) → J a b = I a b) (eL0 : ∀ k, k < 16 → K (19 + k) 0 = L (19 + k) 0) (eL15 : ∀ b, K 15 b = L 15 b) (m : MI J)
    (n_ch : J 1 1 = J 85 31)
    (n_dp : J 1 2 = J 85 32)
    (n_ap : J 1 3 = J 85 33)
    (n_sz : J 1 6 = J 85 34)
    (n_kc : ∀ k, k < nkI J → isCuts (K (19 + k) 0) (dpM J k) (ncI J))
    (n_to : isCuts (K 1 5) (fun c => (J 87 c).toNatClampNeg) (szI J)) : RK J K R := by
  have e86 : ∀ b, J 86 b = I 86 b := fun b => e 86 b (by unfold scr; omega) (by omega)
  have e87 : ∀ b, J 87 b = I 87 b := fun b => e 87 b (by unfold scr; omega) (by omega)
  have e88 : ∀ b, J 88 b = I 88 b := fun b => e 88 b (by unfold scr; omega) (by omega)
  have e89 : ∀ b, J 89 b = I 89 b := fun b => e 89 b (by unfold scr; omega) (by omega)
  have e90 : ∀ b, J 90 b = I 90 b := fun b => e 90 b (by unfold scr; omega) (by omega)
  have e92 : ∀ b, J 92 b = I 92 b := fun b => e 92 b (by unfold scr; omega) (by omega)
  have e95 : ∀ b, J 95 b = I 95 b := fun b => e 95 b (by unfold scr; omega) (by omega)
  have e96 : ∀ b, J 96 b = I 96 b := fun b => e 96 b (by unfold scr; omega) (by omega)
  have e97 : ∀ b, J 97 b = I 97 b := fun b => e 97 b (by unfold scr; omega) (by omega)
  have e98 : ∀ b, J 98 b = I 98 b := fun b => e 98 b (by unfold scr; omega) (by omega)
  have e104 : ∀ b, J 104 b = I 104 b := fun b => e 104 b (by unfold scr; omega) (by omega)
  have e105 : ∀ b, J 105 b = I 105 b := fun b => e 105 b (by unfold scr; omega) (by omega)
  have q_nk : nkI J = nkI I := by unfold nkI; rw [e 85 35 (by unfold scr; omega) (by omega)]
  have q_nd : ndI J = ndI I := by unfold ndI; rw [e 85 36 (by unfold scr; omega) (by omega)]
  have q_nb : nbI J = nbI I := by unfold nbI; rw [e 85 46 (by unfold scr; omega) (by omega)]
  have q_dp : dpM J = dpM I := by funext k c; unfold dpM; rw [e86]
  have hkb := h.mi.kb
  have f1 : ∀ k, k < 16 → J (19 + k) 1 = I (19 + k) 1 := fun k hk => e (19 + k) 1 (by unfold scr; omega) (by omega)
  have f2 : ∀ k, k < 16 → J (19 + k) 2 = I (19 + k) 2 := fun k hk => e (19 + k) 2 (by unfold scr; omega) (by omega)
  have f3 : ∀ k, k < 16 → J (19 + k) 3 = I (19 + k) 3 := fun k hk => e (19 + k) 3 (by unfold scr; omega) (by omega)
  have f4 : ∀ k, k < 16 → J (19 + k) 4 = I (19 + k) 4 := fun k hk => e (19 + k) 4 (by unfold scr; omega) (by omega)
  have f5 : ∀ k, k < 16 → J (19 + k) 5 = I (19 + k) 5 := fun k hk => e (19 + k) 5 (by unfold scr; omega) (by omega)
  have g0 : ∀ d, d < 10 → J (R d) 0 = I (R d) 0 := fun d hd => by
    have := h.rr d hd
    exact e (R d) 0 (by unfold scr; omega) (by omega)
  have g1 : ∀ d, d < 10 → J (R d) 1 = I (R d) 1 := fun d hd => by
    have := h.rr d hd
    exact e (R d) 1 (by unfold scr; omega) (by omega)
  have g2 : ∀ d, d < 10 → J (R d) 2 = I (R d) 2 := fun d hd => by
    have := h.rr d hd
    exact e (R d) 2 (by unfold scr; omega) (by omega)
  refine ⟨m, ?_, ?_, ?_, ?_, ?_, ?_, ?_, ?_, ?_, ?_, ?_, ?_, ?_, ?_, ?_, ?_, ?_, ?_, ?_, ?_, ?_, ?_⟩
  · exact n_ch
  · exact n_dp
  · exact n_ap
  · exact n_sz
  · exact by rw [e 0 9 (by unfold scr; omega) (by omega), e 85 35 (by unfold scr; omega) (by omega)]; exact h.nk
  · exact by rw [e 0 10 (by unfold scr; omega) (by omega), e 85 36 (by unfold scr; omega) (by omega)]; exact h.nd
  · exact by rw [e 0 17 (by unfold scr; omega) (by omega), e 85 44 (by unfold scr; omega) (by omega)]; exact h.ct
  · exact by rw [e 0 12 (by unfold scr; omega) (by omega), e 85 46 (by unfold scr; omega) (by omega)]; exact h.nb
  · exact n_kc
  · exact fun k hk => by
      rw [q_nk] at hk
      rw [e95, f1 k (by omega)]; exact h.kp k hk
  · exact fun k hk => by rw [e92, f2 k hk]; exact h.kl k hk
  · exact fun k hk => by rw [e89, f4 k hk]; exact h.kh k hk
  · exact fun k hk => by
      rw [q_nk] at hk
      rw [e89, e90, f5 k (by omega)]; exact h.kd k hk
  · exact fun k j hk hj => by
      rw [q_nk] at hk
      rw [f3 k (by omega), q_nk, e96, e96]; exact h.kr k j hk hj
  · exact fun d k hd hk => by rw [g1 d hd, e88]; exact h.wi d k hd hk
  · exact fun d k hd hk => by rw [g1 d hd]; exact h.w0 d k hd hk
  · exact fun d hd => by rw [e97, g0 d hd]; exact h.wa d hd
  · exact fun d hd => by rw [e98, g2 d hd]; exact h.bu d hd
  · exact h.rr
  · exact h.ri
  · exact n_to
  · exact fun b hb => by
      rw [q_nb] at hb
      rw [eL15]; simp only [e104, e105]; exact h.bl b hb
theorem MI_up_cut {I J : Nat → Nat → Int32} (hm : MI I) (e : ∀ a b, ¬ scr a b → ¬ (a = 87 ∨ (a = 1 ∧ b = 6) ∨ (a = 85 ∧ b = 34)) → J a b = I a b)
    (n_s : J 85 34 = Int32.ofNat (szI J))
    (n_sc : szI J ≤ ncI J)
    (n_told : ∀ c, c < szI J → ∃ e, e < mdI J ∧ J 87 c = Int32.ofNat e)
    (n_toldn : ∀ c, c + 1 < szI J → cA J (J 87 (c + 1)).toNatClampNeg (J 87 c).toNatClampNeg = true) : MI J := by
  have e86 : ∀ b, J 86 b = I 86 b := fun b => e 86 b (by unfold scr; omega) (by omega)
  have e88 : ∀ b, J 88 b = I 88 b := fun b => e 88 b (by unfold scr; omega) (by omega)
  have e89 : ∀ b, J 89 b = I 89 b := fun b => e 89 b (by unfold scr; omega) (by omega)
  have e90 : ∀ b, J 90 b = I 90 b := fun b => e 90 b (by unfold scr; omega) (by omega)
  have e92 : ∀ b, J 92 b = I 92 b := fun b => e 92 b (by unfold scr; omega) (by omega)
  have e95 : ∀ b, J 95 b = I 95 b := fun b => e 95 b (by unfold scr; omega) (by omega)
  have e96 : ∀ b, J 96 b = I 96 b := fun b => e 96 b (by unfold scr; omega) (by omega)
  have e97 : ∀ b, J 97 b = I 97 b := fun b => e 97 b (by unfold scr; omega) (by omega)
  have e98 : ∀ b, J 98 b = I 98 b := fun b => e 98 b (by unfold scr; omega) (by omega)
  have e104 : ∀ b, J 104 b = I 104 b := fun b => e 104 b (by unfold scr; omega) (by omega)
  have e105 : ∀ b, J 105 b = I 105 b := fun b => e 105 b (by unfold scr; omega) (by omega)
  have q_nk : nkI J = nkI I := by unfold nkI; rw [e 85 35 (by unfold scr; omega) (by omega)]
  have q_nd : ndI J = ndI I := by unfold ndI; rw [e 85 36 (by unfold scr; omega) (by omega)]
  have q_nc : ncI J = ncI I := by unfold ncI; rw [e 85 31 (by unfold scr; omega) (by omega)]
  have q_md : mdI J = mdI I := by unfold mdI; rw [e 85 32 (by unfold scr; omega) (by omega)]
  have q_nb : nbI J = nbI I := by unfold nbI; rw [e 85 46 (by unfold scr; omega) (by omega)]
  have q_ca : cA J = cA I := by funext d e2; unfold cA; rw [e 85 33 (by unfold scr; omega) (by omega)]
  have q_dp : dpM J = dpM I := by funext k c; unfold dpM; rw [e86]
  refine ⟨?_, ?_, ?_, ?_, ?_, ?_, ?_, ?_, ?_, ?_, ?_, ?_, ?_, ?_, ?_, ?_, ?_, ?_, ?_, ?_, ?_, ?_, ?_, ?_, ?_, ?_, ?_⟩
  · rw [e 85 35 (by unfold scr; omega) (by omega), q_nk]; exact hm.k
  · simp only [e86, e88, e89, e90, e92, e95, e96, e97, e98, e104, e105, q_nk, q_nd, q_nc, q_md, q_nb, q_ca, q_dp]; exact hm.kb
  · rw [e 85 36 (by unfold scr; omega) (by omega), q_nd]; exact hm.d
  · simp only [e86, e88, e89, e90, e92, e95, e96, e97, e98, e104, e105, q_nk, q_nd, q_nc, q_md, q_nb, q_ca, q_dp]; exact hm.db
  · rw [e 85 31 (by unfold scr; omega) (by omega), q_nc]; exact hm.c
  · simp only [e86, e88, e89, e90, e92, e95, e96, e97, e98, e104, e105, q_nk, q_nd, q_nc, q_md, q_nb, q_ca, q_dp]; exact hm.c3
  · simp only [e86, e88, e89, e90, e92, e95, e96, e97, e98, e104, e105, q_nk, q_nd, q_nc, q_md, q_nb, q_ca, q_dp]; exact hm.c6
  · rw [e 85 32 (by unfold scr; omega) (by omega), q_md]; exact hm.m
  · simp only [e86, e88, e89, e90, e92, e95, e96, e97, e98, e104, e105, q_nk, q_nd, q_nc, q_md, q_nb, q_ca, q_dp]; exact hm.m2
  · simp only [e86, e88, e89, e90, e92, e95, e96, e97, e98, e104, e105, q_nk, q_nd, q_nc, q_md, q_nb, q_ca, q_dp]; exact hm.m6
  · exact n_s
  · exact n_sc
  · rw [e 85 46 (by unfold scr; omega) (by omega), q_nb]; exact hm.b
  · simp only [e86, e88, e89, e90, e92, e95, e96, e97, e98, e104, e105, q_nk, q_nd, q_nc, q_md, q_nb, q_ca, q_dp]; exact hm.bb
  · rw [e 85 33 (by unfold scr; omega) (by omega)]; exact hm.ap
  · simp only [e86, e88, e89, e90, e92, e95, e96, e97, e98, e104, e105, q_nk, q_nd, q_nc, q_md, q_nb, q_ca, q_dp]; exact hm.dep
  · simp only [e86, e88, e89, e90, e92, e95, e96, e97, e98, e104, e105, q_nk, q_nd, q_nc, q_md, q_nb, q_ca, q_dp]; exact hm.near
  · exact n_told
  · exact n_toldn
  · simp only [e86, e88, e89, e90, e92, e95, e96, e97, e98, e104, e105, q_nk, q_nd, q_nc, q_md, q_nb, q_ca, q_dp]; exact hm.bs
  · simp only [e86, e88, e89, e90, e92, e95, e96, e97, e98, e104, e105, q_nk, q_nd, q_nc, q_md, q_nb, q_ca, q_dp]; exact hm.bd
  · simp only [e86, e88, e89, e90, e92, e95, e96, e97, e98, e104, e105, q_nk, q_nd, q_nc, q_md, q_nb, q_ca, q_dp]; exact hm.bp
  · simp only [e86, e88, e89, e90, e92, e95, e96, e97, e98, e104, e105, q_nk, q_nd, q_nc, q_md, q_nb, q_ca, q_dp]; exact hm.rb
  · simp only [e86, e88, e89, e90, e92, e95, e96, e97, e98, e104, e105, q_nk, q_nd, q_nc, q_md, q_nb, q_ca, q_dp]; exact hm.ru
  · simp only [e86, e88, e89, e90, e92, e95, e96, e97, e98, e104, e105, q_nk, q_nd, q_nc, q_md, q_nb, q_ca, q_dp]; exact hm.wu
  · simp only [e86, e88, e89, e90, e92, e95, e96, e97, e98, e104, e105, q_nk, q_nd, q_nc, q_md, q_nb, q_ca, q_dp]; exact hm.wf
  · simp only [e86, e88, e89, e90, e92, e95, e96, e97, e98, e104, e105, q_nk, q_nd, q_nc, q_md, q_nb, q_ca, q_dp]; exact hm.hu
theorem RK_up_cut {I J : Nat → Nat → Int32} {L K : Nat → Nat → Int64} {R : Nat → Nat} (h : RK I L R) (e : ∀ a b, ¬ scr a b → ¬ (a = 87 ∨ (a = 1 ∧ b = 6) ∨ (a = 85 ∧ b = 34)) → J a b = I a b) (eL0 : ∀ k, k < 16 → K (19 + k) 0 = L (19 + k) 0) (eL15 : ∀ b, K 15 b = L 15 b) (m : MI J)
    (n_sz : J 1 6 = J 85 34)
    (n_to : isCuts (K 1 5) (fun c => (J 87 c).toNatClampNeg) (szI J)) : RK J K R := by
  have e86 : ∀ b, J 86 b = I 86 b := fun b => e 86 b (by unfold scr; omega) (by omega)
  have e88 : ∀ b, J 88 b = I 88 b := fun b => e 88 b (by unfold scr; omega) (by omega)
  have e89 : ∀ b, J 89 b = I 89 b := fun b => e 89 b (by unfold scr; omega) (by omega)
  have e90 : ∀ b, J 90 b = I 90 b := fun b => e 90 b (by unfold scr; omega) (by omega)
  have e92 : ∀ b, J 92 b = I 92 b := fun b => e 92 b (by unfold scr; omega) (by omega)
  have e95 : ∀ b, J 95 b = I 95 b := fun b => e 95 b (by unfold scr; omega) (by omega)
  have e96 : ∀ b, J 96 b = I 96 b := fun b => e 96 b (by unfold scr; omega) (by omega)
  have e97 : ∀ b, J 97 b = I 97 b := fun b => e 97 b (by unfold scr; omega) (by omega)
  have e98 : ∀ b, J 98 b = I 98 b := fun b => e 98 b (by unfold scr; omega) (by omega)
  have e104 : ∀ b, J 104 b = I 104 b := fun b => e 104 b (by unfold scr; omega) (by omega)
  have e105 : ∀ b, J 105 b = I 105 b := fun b => e 105 b (by unfold scr; omega) (by omega)
  have q_nk : nkI J = nkI I := by unfold nkI; rw [e 85 35 (by unfold scr; omega) (by omega)]
  have q_nd : ndI J = ndI I := by unfold ndI; rw [e 85 36 (by unfold scr; omega) (by omega)]
  have q_nc : ncI J = ncI I := by unfold ncI; rw [e 85 31 (by unfold scr; omega) (by omega)]
  have q_md : mdI J = mdI I := by unfold mdI; rw [e 85 32 (by unfold scr; omega) (by omega)]
  have q_nb : nbI J = nbI I := by unfold nbI; rw [e 85 46 (by unfold scr; omega) (by omega)]
  have q_dp : dpM J = dpM I := by funext k c; unfold dpM; rw [e86]
  have hkb := h.mi.kb
  have f1 : ∀ k, k < 16 → J (19 + k) 1 = I (19 + k) 1 := fun k hk => e (19 + k) 1 (by unfold scr; omega) (by omega)
  have f2 : ∀ k, k < 16 → J (19 + k) 2 = I (19 + k) 2 := fun k hk => e (19 + k) 2 (by unfold scr; omega) (by omega)
  have f3 : ∀ k, k < 16 → J (19 + k) 3 = I (19 + k) 3 := fun k hk => e (19 + k) 3 (by unfold scr; omega) (by omega)
  have f4 : ∀ k, k < 16 → J (19 + k) 4 = I (19 + k) 4 := fun k hk => e (19 + k) 4 (by unfold scr; omega) (by omega)
  have f5 : ∀ k, k < 16 → J (19 + k) 5 = I (19 + k) 5 := fun k hk => e (19 + k) 5 (by unfold scr; omega) (by omega)
  have g0 : ∀ d, d < 10 → J (R d) 0 = I (R d) 0 := fun d hd => by
    have := h.rr d hd
    exact e (R d) 0 (by unfold scr; omega) (by omega)
  have g1 : ∀ d, d < 10 → J (R d) 1 = I (R d) 1 := fun d hd => by
    have := h.rr d hd
    exact e (R d) 1 (by unfold scr; omega) (by omega)
  have g2 : ∀ d, d < 10 → J (R d) 2 = I (R d) 2 := fun d hd => by
    have := h.rr d hd
    exact e (R d) 2 (by unfold scr; omega) (by omega)
  refine ⟨m, ?_, ?_, ?_, ?_, ?_, ?_, ?_, ?_, ?_, ?_, ?_, ?_, ?_, ?_, ?_, ?_, ?_, ?_, ?_, ?_, ?_, ?_⟩
  · exact by rw [e 1 1 (by unfold scr; omega) (by omega), e 85 31 (by unfold scr; omega) (by omega)]; exact h.ch
  · exact by rw [e 1 2 (by unfold scr; omega) (by omega), e 85 32 (by unfold scr; omega) (by omega)]; exact h.dp
  · exact by rw [e 1 3 (by unfold scr; omega) (by omega), e 85 33 (by unfold scr; omega) (by omega)]; exact h.ap
  · exact n_sz
  · exact by rw [e 0 9 (by unfold scr; omega) (by omega), e 85 35 (by unfold scr; omega) (by omega)]; exact h.nk
  · exact by rw [e 0 10 (by unfold scr; omega) (by omega), e 85 36 (by unfold scr; omega) (by omega)]; exact h.nd
  · exact by rw [e 0 17 (by unfold scr; omega) (by omega), e 85 44 (by unfold scr; omega) (by omega)]; exact h.ct
  · exact by rw [e 0 12 (by unfold scr; omega) (by omega), e 85 46 (by unfold scr; omega) (by omega)]; exact h.nb
  · exact fun k hk => by
      rw [q_nk] at hk
      rw [eL0 k (by omega), q_dp, q_nc]; exact h.kc k hk
  · exact fun k hk => by
      rw [q_nk] at hk
      rw [e95, f1 k (by omega)]; exact h.kp k hk
  · exact fun k hk => by rw [e92, f2 k hk]; exact h.kl k hk
  · exact fun k hk => by rw [e89, f4 k hk]; exact h.kh k hk
  · exact fun k hk => by
      rw [q_nk] at hk
      rw [e89, e90, f5 k (by omega)]; exact h.kd k hk
  · exact fun k j hk hj => by
      rw [q_nk] at hk
      rw [f3 k (by omega), q_nk, e96, e96]; exact h.kr k j hk hj
  · exact fun d k hd hk => by rw [g1 d hd, e88]; exact h.wi d k hd hk
  · exact fun d k hd hk => by rw [g1 d hd]; exact h.w0 d k hd hk
  · exact fun d hd => by rw [e97, g0 d hd]; exact h.wa d hd
  · exact fun d hd => by rw [e98, g2 d hd]; exact h.bu d hd
  · exact h.rr
  · exact h.ri
  · exact n_to
  · exact fun b hb => by
      rw [q_nb] at hb
      rw [eL15]; simp only [e104, e105]; exact h.bl b hb
theorem MI_up_key {I J : Nat → Nat → Int32} (hm : MI I) (e : ∀ a b, ¬ scr a b → ¬ (a = 86 ∨ a = 88 ∨ a = 95 ∨ (a = 0 ∧ b = 9) ∨ (35 ≤ a ∧ a ≤ 44 ∧ b = 1) ∨ (19 ≤ a ∧ a ≤ 34 ∧ b = 1) ∨ (19 ≤ a ∧ a ≤ 34 ∧ b = 3) ∨ (a = 85 ∧ b = 35)) → J a b = I a b)
    (n_k : J 85 35 = Int32.ofNat (nkI J))
    (n_kb : nkI J ≤ 16)
    (n_dep : ∀ k c, k < nkI J → c < ncI J → ∃ e, e < mdI J ∧ J 86 (6 * k + c) = Int32.ofNat e)
    (n_near : ∀ k c, k < nkI J → c + 1 < ncI J → cA J (dpM J k (c + 1)) (dpM J k c) = true)
    (n_rb : ∀ k, k < nkI J → ∃ e, e < nkI J ∧ J 96 k = Int32.ofNat e)
    (n_ru : ∀ k, nkI J ≤ k → k < 16 → J 96 k = Int32.ofNat k)
    (n_wu : ∀ d k, k < 16 → tb (J 88 k) d = true → k < nkI J ∧ d < ndI J)
    (n_wf : ∀ d k, k < 16 → tb (J 88 k) d = true → (J 95 k &&& J 97 d) = 0)
    (n_hu : ∀ k, nkI J ≤ k → k < 16 → J 89 k = -1) : MI J := by
  have e87 : ∀ b, J 87 b = I 87 b := fun b => e 87 b (by unfold scr; omega) (by omega)
  have e89 : ∀ b, J 89 b = I 89 b := fun b => e 89 b (by unfold scr; omega) (by omega)
  have e90 : ∀ b, J 90 b = I 90 b := fun b => e 90 b (by unfold scr; omega) (by omega)
  have e92 : ∀ b, J 92 b = I 92 b := fun b => e 92 b (by unfold scr; omega) (by omega)
  have e96 : ∀ b, J 96 b = I 96 b := fun b => e 96 b (by unfold scr; omega) (by omega)
  have e97 : ∀ b, J 97 b = I 97 b := fun b => e 97 b (by unfold scr; omega) (by omega)
  have e98 : ∀ b, J 98 b = I 98 b := fun b => e 98 b (by unfold scr; omega) (by omega)
  have e104 : ∀ b, J 104 b = I 104 b := fun b => e 104 b (by unfold scr; omega) (by omega)
  have e105 : ∀ b, J 105 b = I 105 b := fun b => e 105 b (by unfold scr; omega) (by omega)
  have q_nd : ndI J = ndI I := by unfold ndI; rw [e 85 36 (by unfold scr; omega) (by omega)]
  have q_nc : ncI J = ncI I := by unfold ncI; rw [e 85 31 (by unfold scr; omega) (by omega)]
  have q_md : mdI J = mdI I := by unfold mdI; rw [e 85 32 (by unfold scr; omega) (by omega)]
  have q_sz : szI J = szI I := by unfold szI; rw [e 85 34 (by unfold scr; omega) (by omega)]
  have q_nb : nbI J = nbI I := by unfold nbI; rw [e 85 46 (by unfold scr; omega) (by omega)]
  have q_ca : cA J = cA I := by funext d e2; unfold cA; rw [e 85 33 (by unfold scr; omega) (by omega)]
  refine ⟨?_, ?_, ?_, ?_, ?_, ?_, ?_, ?_, ?_, ?_, ?_, ?_, ?_, ?_, ?_, ?_, ?_, ?_, ?_, ?_, ?_, ?_, ?_, ?_, ?_, ?_, ?_⟩
  · exact n_k
  · exact n_kb
  · rw [e 85 36 (by unfold scr; omega) (by omega), q_nd]; exact hm.d
  · simp only [e87, e89, e90, e92, e96, e97, e98, e104, e105, q_nd, q_nc, q_md, q_sz, q_nb, q_ca]; exact hm.db
  · rw [e 85 31 (by unfold scr; omega) (by omega), q_nc]; exact hm.c
  · simp only [e87, e89, e90, e92, e96, e97, e98, e104, e105, q_nd, q_nc, q_md, q_sz, q_nb, q_ca]; exact hm.c3
  · simp only [e87, e89, e90, e92, e96, e97, e98, e104, e105, q_nd, q_nc, q_md, q_sz, q_nb, q_ca]; exact hm.c6
  · rw [e 85 32 (by unfold scr; omega) (by omega), q_md]; exact hm.m
  · simp only [e87, e89, e90, e92, e96, e97, e98, e104, e105, q_nd, q_nc, q_md, q_sz, q_nb, q_ca]; exact hm.m2
  · simp only [e87, e89, e90, e92, e96, e97, e98, e104, e105, q_nd, q_nc, q_md, q_sz, q_nb, q_ca]; exact hm.m6
  · rw [e 85 34 (by unfold scr; omega) (by omega), q_sz]; exact hm.s
  · simp only [e87, e89, e90, e92, e96, e97, e98, e104, e105, q_nd, q_nc, q_md, q_sz, q_nb, q_ca]; exact hm.sc
  · rw [e 85 46 (by unfold scr; omega) (by omega), q_nb]; exact hm.b
  · simp only [e87, e89, e90, e92, e96, e97, e98, e104, e105, q_nd, q_nc, q_md, q_sz, q_nb, q_ca]; exact hm.bb
  · rw [e 85 33 (by unfold scr; omega) (by omega)]; exact hm.ap
  · exact n_dep
  · exact n_near
  · simp only [e87, e89, e90, e92, e96, e97, e98, e104, e105, q_nd, q_nc, q_md, q_sz, q_nb, q_ca]; exact hm.told
  · simp only [e87, e89, e90, e92, e96, e97, e98, e104, e105, q_nd, q_nc, q_md, q_sz, q_nb, q_ca]; exact hm.toldn
  · simp only [e87, e89, e90, e92, e96, e97, e98, e104, e105, q_nd, q_nc, q_md, q_sz, q_nb, q_ca]; exact hm.bs
  · simp only [e87, e89, e90, e92, e96, e97, e98, e104, e105, q_nd, q_nc, q_md, q_sz, q_nb, q_ca]; exact hm.bd
  · simp only [e87, e89, e90, e92, e96, e97, e98, e104, e105, q_nd, q_nc, q_md, q_sz, q_nb, q_ca]; exact hm.bp
  · exact n_rb
  · exact n_ru
  · exact n_wu
  · exact n_wf
  · exact n_hu
theorem RK_up_key {I J : Nat → Nat → Int32} {L K : Nat → Nat → Int64} {R : Nat → Nat} (h : RK I L R) (e : ∀ a b, ¬ scr a b → ¬ (a = 86 ∨ a = 88 ∨ a = 95 ∨ (a = 0 ∧ b = 9) ∨ (35 ≤ a ∧ a ≤ 44 ∧ b = 1) ∨ (19 ≤ a ∧ a ≤ 34 ∧ b = 1) ∨ (19 ≤ a ∧ a ≤ 34 ∧ b = 3) ∨ (a = 85 ∧ b = 35)) → J a b = I a b) (eL1 : K 1 5 = L 1 5) (eL15 : ∀ b, K 15 b = L 15 b) (m : MI J)
    (n_nk : J 0 9 = J 85 35)
    (n_kc : ∀ k, k < nkI J → isCuts (K (19 + k) 0) (dpM J k) (ncI J))
    (n_kp : ∀ k, k < nkI J → J 95 k = J (19 + k) 1)
    (n_kd : ∀ k, k < nkI J → ¬ J 89 k = -1 → J 90 k = J (19 + k) 5)
    (n_kr : ∀ k j, k < nkI J → j < 32 → (tb (J (19 + k) 3) j = true ↔ j < nkI J ∧ J 96 j = J 96 k))
    (n_wi : ∀ d k, d < 10 → k < 16 → tb (J (R d) 1) k = tb (J 88 k) d)
    (n_w0 : ∀ d k, d < 10 → 16 ≤ k → tb (J (R d) 1) k = false) : RK J K R := by
  have e87 : ∀ b, J 87 b = I 87 b := fun b => e 87 b (by unfold scr; omega) (by omega)
  have e89 : ∀ b, J 89 b = I 89 b := fun b => e 89 b (by unfold scr; omega) (by omega)
  have e90 : ∀ b, J 90 b = I 90 b := fun b => e 90 b (by unfold scr; omega) (by omega)
  have e92 : ∀ b, J 92 b = I 92 b := fun b => e 92 b (by unfold scr; omega) (by omega)
  have e96 : ∀ b, J 96 b = I 96 b := fun b => e 96 b (by unfold scr; omega) (by omega)
  have e97 : ∀ b, J 97 b = I 97 b := fun b => e 97 b (by unfold scr; omega) (by omega)
  have e98 : ∀ b, J 98 b = I 98 b := fun b => e 98 b (by unfold scr; omega) (by omega)
  have e104 : ∀ b, J 104 b = I 104 b := fun b => e 104 b (by unfold scr; omega) (by omega)
  have e105 : ∀ b, J 105 b = I 105 b := fun b => e 105 b (by unfold scr; omega) (by omega)
  have q_nd : ndI J = ndI I := by unfold ndI; rw [e 85 36 (by unfold scr; omega) (by omega)]
  have q_nc : ncI J = ncI I := by unfold ncI; rw [e 85 31 (by unfold scr; omega) (by omega)]
  have q_md : mdI J = mdI I := by unfold mdI; rw [e 85 32 (by unfold scr; omega) (by omega)]
  have q_sz : szI J = szI I := by unfold szI; rw [e 85 34 (by unfold scr; omega) (by omega)]
  have q_nb : nbI J = nbI I := by unfold nbI; rw [e 85 46 (by unfold scr; omega) (by omega)]
  have hkb := h.mi.kb
  have f2 : ∀ k, k < 16 → J (19 + k) 2 = I (19 + k) 2 := fun k hk => e (19 + k) 2 (by unfold scr; omega) (by omega)
  have f4 : ∀ k, k < 16 → J (19 + k) 4 = I (19 + k) 4 := fun k hk => e (19 + k) 4 (by unfold scr; omega) (by omega)
  have f5 : ∀ k, k < 16 → J (19 + k) 5 = I (19 + k) 5 := fun k hk => e (19 + k) 5 (by unfold scr; omega) (by omega)
  have g0 : ∀ d, d < 10 → J (R d) 0 = I (R d) 0 := fun d hd => by
    have := h.rr d hd
    exact e (R d) 0 (by unfold scr; omega) (by omega)
  have g2 : ∀ d, d < 10 → J (R d) 2 = I (R d) 2 := fun d hd => by
    have := h.rr d hd
    exact e (R d) 2 (by unfold scr; omega) (by omega)
  refine ⟨m, ?_, ?_, ?_, ?_, ?_, ?_, ?_, ?_, ?_, ?_, ?_, ?_, ?_, ?_, ?_, ?_, ?_, ?_, ?_, ?_, ?_, ?_⟩
  · exact by rw [e 1 1 (by unfold scr; omega) (by omega), e 85 31 (by unfold scr; omega) (by omega)]; exact h.ch
  · exact by rw [e 1 2 (by unfold scr; omega) (by omega), e 85 32 (by unfold scr; omega) (by omega)]; exact h.dp
  · exact by rw [e 1 3 (by unfold scr; omega) (by omega), e 85 33 (by unfold scr; omega) (by omega)]; exact h.ap
  · exact by rw [e 1 6 (by unfold scr; omega) (by omega), e 85 34 (by unfold scr; omega) (by omega)]; exact h.sz
  · exact n_nk
  · exact by rw [e 0 10 (by unfold scr; omega) (by omega), e 85 36 (by unfold scr; omega) (by omega)]; exact h.nd
  · exact by rw [e 0 17 (by unfold scr; omega) (by omega), e 85 44 (by unfold scr; omega) (by omega)]; exact h.ct
  · exact by rw [e 0 12 (by unfold scr; omega) (by omega), e 85 46 (by unfold scr; omega) (by omega)]; exact h.nb
  · exact n_kc
  · exact n_kp
  · exact fun k hk => by rw [e92, f2 k hk]; exact h.kl k hk
  · exact fun k hk => by rw [e89, f4 k hk]; exact h.kh k hk
  · exact n_kd
  · exact n_kr
  · exact n_wi
  · exact n_w0
  · exact fun d hd => by rw [e97, g0 d hd]; exact h.wa d hd
  · exact fun d hd => by rw [e98, g2 d hd]; exact h.bu d hd
  · exact h.rr
  · exact h.ri
  · exact by rw [eL1, q_sz]; simp only [e87]; exact h.to
  · exact fun b hb => by
      rw [q_nb] at hb
      rw [eL15]; simp only [e104, e105]; exact h.bl b hb
theorem MI_up_told {I J : Nat → Nat → Int32} (hm : MI I) (e : ∀ a b, ¬ scr a b → ¬ ((a = 1 ∧ b = 6) ∨ (a = 85 ∧ b = 34)) → J a b = I a b)
    (n_s : J 85 34 = Int32.ofNat (szI J))
    (n_sc : szI J ≤ ncI J)
    (n_told : ∀ c, c < szI J → ∃ e, e < mdI J ∧ J 87 c = Int32.ofNat e)
    (n_toldn : ∀ c, c + 1 < szI J → cA J (J 87 (c + 1)).toNatClampNeg (J 87 c).toNatClampNeg = true) : MI J := by
  have e86 : ∀ b, J 86 b = I 86 b := fun b => e 86 b (by unfold scr; omega) (by omega)
  have e87 : ∀ b, J 87 b = I 87 b := fun b => e 87 b (by unfold scr; omega) (by omega)
  have e88 : ∀ b, J 88 b = I 88 b := fun b => e 88 b (by unfold scr; omega) (by omega)
  have e89 : ∀ b, J 89 b = I 89 b := fun b => e 89 b (by unfold scr; omega) (by omega)
  have e90 : ∀ b, J 90 b = I 90 b := fun b => e 90 b (by unfold scr; omega) (by omega)
  have e92 : ∀ b, J 92 b = I 92 b := fun b => e 92 b (by unfold scr; omega) (by omega)
  have e95 : ∀ b, J 95 b = I 95 b := fun b => e 95 b (by unfold scr; omega) (by omega)
  have e96 : ∀ b, J 96 b = I 96 b := fun b => e 96 b (by unfold scr; omega) (by omega)
  have e97 : ∀ b, J 97 b = I 97 b := fun b => e 97 b (by unfold scr; omega) (by omega)
  have e98 : ∀ b, J 98 b = I 98 b := fun b => e 98 b (by unfold scr; omega) (by omega)
  have e104 : ∀ b, J 104 b = I 104 b := fun b => e 104 b (by unfold scr; omega) (by omega)
  have e105 : ∀ b, J 105 b = I 105 b := fun b => e 105 b (by unfold scr; omega) (by omega)
  have q_nk : nkI J = nkI I := by unfold nkI; rw [e 85 35 (by unfold scr; omega) (by omega)]
  have q_nd : ndI J = ndI I := by unfold ndI; rw [e 85 36 (by unfold scr; omega) (by omega)]
  have q_nc : ncI J = ncI I := by unfold ncI; rw [e 85 31 (by unfold scr; omega) (by omega)]
  have q_md : mdI J = mdI I := by unfold mdI; rw [e 85 32 (by unfold scr; omega) (by omega)]
  have q_nb : nbI J = nbI I := by unfold nbI; rw [e 85 46 (by unfold scr; omega) (by omega)]
  have q_ca : cA J = cA I := by funext d e2; unfold cA; rw [e 85 33 (by unfold scr; omega) (by omega)]
  have q_dp : dpM J = dpM I := by funext k c; unfold dpM; rw [e86]
  refine ⟨?_, ?_, ?_, ?_, ?_, ?_, ?_, ?_, ?_, ?_, ?_, ?_, ?_, ?_, ?_, ?_, ?_, ?_, ?_, ?_, ?_, ?_, ?_, ?_, ?_, ?_, ?_⟩
  · rw [e 85 35 (by unfold scr; omega) (by omega), q_nk]; exact hm.k
  · simp only [e86, e87, e88, e89, e90, e92, e95, e96, e97, e98, e104, e105, q_nk, q_nd, q_nc, q_md, q_nb, q_ca, q_dp]; exact hm.kb
  · rw [e 85 36 (by unfold scr; omega) (by omega), q_nd]; exact hm.d
  · simp only [e86, e87, e88, e89, e90, e92, e95, e96, e97, e98, e104, e105, q_nk, q_nd, q_nc, q_md, q_nb, q_ca, q_dp]; exact hm.db
  · rw [e 85 31 (by unfold scr; omega) (by omega), q_nc]; exact hm.c
  · simp only [e86, e87, e88, e89, e90, e92, e95, e96, e97, e98, e104, e105, q_nk, q_nd, q_nc, q_md, q_nb, q_ca, q_dp]; exact hm.c3
  · simp only [e86, e87, e88, e89, e90, e92, e95, e96, e97, e98, e104, e105, q_nk, q_nd, q_nc, q_md, q_nb, q_ca, q_dp]; exact hm.c6
  · rw [e 85 32 (by unfold scr; omega) (by omega), q_md]; exact hm.m
  · simp only [e86, e87, e88, e89, e90, e92, e95, e96, e97, e98, e104, e105, q_nk, q_nd, q_nc, q_md, q_nb, q_ca, q_dp]; exact hm.m2
  · simp only [e86, e87, e88, e89, e90, e92, e95, e96, e97, e98, e104, e105, q_nk, q_nd, q_nc, q_md, q_nb, q_ca, q_dp]; exact hm.m6
  · exact n_s
  · exact n_sc
  · rw [e 85 46 (by unfold scr; omega) (by omega), q_nb]; exact hm.b
  · simp only [e86, e87, e88, e89, e90, e92, e95, e96, e97, e98, e104, e105, q_nk, q_nd, q_nc, q_md, q_nb, q_ca, q_dp]; exact hm.bb
  · rw [e 85 33 (by unfold scr; omega) (by omega)]; exact hm.ap
  · simp only [e86, e87, e88, e89, e90, e92, e95, e96, e97, e98, e104, e105, q_nk, q_nd, q_nc, q_md, q_nb, q_ca, q_dp]; exact hm.dep
  · simp only [e86, e87, e88, e89, e90, e92, e95, e96, e97, e98, e104, e105, q_nk, q_nd, q_nc, q_md, q_nb, q_ca, q_dp]; exact hm.near
  · exact n_told
  · exact n_toldn
  · simp only [e86, e87, e88, e89, e90, e92, e95, e96, e97, e98, e104, e105, q_nk, q_nd, q_nc, q_md, q_nb, q_ca, q_dp]; exact hm.bs
  · simp only [e86, e87, e88, e89, e90, e92, e95, e96, e97, e98, e104, e105, q_nk, q_nd, q_nc, q_md, q_nb, q_ca, q_dp]; exact hm.bd
  · simp only [e86, e87, e88, e89, e90, e92, e95, e96, e97, e98, e104, e105, q_nk, q_nd, q_nc, q_md, q_nb, q_ca, q_dp]; exact hm.bp
  · simp only [e86, e87, e88, e89, e90, e92, e95, e96, e97, e98, e104, e105, q_nk, q_nd, q_nc, q_md, q_nb, q_ca, q_dp]; exact hm.rb
  · simp only [e86, e87, e88, e89, e90, e92, e95, e96, e97, e98, e104, e105, q_nk, q_nd, q_nc, q_md, q_nb, q_ca, q_dp]; exact hm.ru
  · simp only [e86, e87, e88, e89, e90, e92, e95, e96, e97, e98, e104, e105, q_nk, q_nd, q_nc, q_md, q_nb, q_ca, q_dp]; exact hm.wu
  · simp only [e86, e87, e88, e89, e90, e92, e95, e96, e97, e98, e104, e105, q_nk, q_nd, q_nc, q_md, q_nb, q_ca, q_dp]; exact hm.wf
  · simp only [e86, e87, e88, e89, e90, e92, e95, e96, e97, e98, e104, e105, q_nk, q_nd, q_nc, q_md, q_nb, q_ca, q_dp]; exact hm.hu
theorem RK_up_told {I J : Nat → Nat → Int32} {L K : Nat → Nat → Int64} {R : Nat → Nat} (h : RK I L R) (e : ∀ a b, ¬ scr a b → ¬ ((a = 1 ∧ b = 6) ∨ (a = 85 ∧ b = 34)) → J a b = I a b) (eL0 : ∀ k, k < 16 → K (19 + k) 0 = L (19 + k) 0) (eL15 : ∀ b, K 15 b = L 15 b) (m : MI J)
    (n_sz : J 1 6 = J 85 34)
    (n_to : isCuts (K 1 5) (fun c => (J 87 c).toNatClampNeg) (szI J)) : RK J K R := by
  have e86 : ∀ b, J 86 b = I 86 b := fun b => e 86 b (by unfold scr; omega) (by omega)
  have e87 : ∀ b, J 87 b = I 87 b := fun b => e 87 b (by unfold scr; omega) (by omega)
  have e88 : ∀ b, J 88 b = I 88 b := fun b => e 88 b (by unfold scr; omega) (by omega)
  have e89 : ∀ b, J 89 b = I 89 b := fun b => e 89 b (by unfold scr; omega) (by omega)
  have e90 : ∀ b, J 90 b = I 90 b := fun b => e 90 b (by unfold scr; omega) (by omega)
  have e92 : ∀ b, J 92 b = I 92 b := fun b => e 92 b (by unfold scr; omega) (by omega)
  have e95 : ∀ b, J 95 b = I 95 b := fun b => e 95 b (by unfold scr; omega) (by omega)
  have e96 : ∀ b, J 96 b = I 96 b := fun b => e 96 b (by unfold scr; omega) (by omega)
  have e97 : ∀ b, J 97 b = I 97 b := fun b => e 97 b (by unfold scr; omega) (by omega)
  have e98 : ∀ b, J 98 b = I 98 b := fun b => e 98 b (by unfold scr; omega) (by omega)
  have e104 : ∀ b, J 104 b = I 104 b := fun b => e 104 b (by unfold scr; omega) (by omega)
  have e105 : ∀ b, J 105 b = I 105 b := fun b => e 105 b (by unfold scr; omega) (by omega)
  have q_nk : nkI J = nkI I := by unfold nkI; rw [e 85 35 (by unfold scr; omega) (by omega)]
  have q_nd : ndI J = ndI I := by unfold ndI; rw [e 85 36 (by unfold scr; omega) (by omega)]
  have q_nc : ncI J = ncI I := by unfold ncI; rw [e 85 31 (by unfold scr; omega) (by omega)]
  have q_md : mdI J = mdI I := by unfold mdI; rw [e 85 32 (by unfold scr; omega) (by omega)]
  have q_nb : nbI J = nbI I := by unfold nbI; rw [e 85 46 (by unfold scr; omega) (by omega)]
  have q_dp : dpM J = dpM I := by funext k c; unfold dpM; rw [e86]
  have hkb := h.mi.kb
  have f1 : ∀ k, k < 16 → J (19 + k) 1 = I (19 + k) 1 := fun k hk => e (19 + k) 1 (by unfold scr; omega) (by omega)
  have f2 : ∀ k, k < 16 → J (19 + k) 2 = I (19 + k) 2 := fun k hk => e (19 + k) 2 (by unfold scr; omega) (by omega)
  have f3 : ∀ k, k < 16 → J (19 + k) 3 = I (19 + k) 3 := fun k hk => e (19 + k) 3 (by unfold scr; omega) (by omega)
  have f4 : ∀ k, k < 16 → J (19 + k) 4 = I (19 + k) 4 := fun k hk => e (19 + k) 4 (by unfold scr; omega) (by omega)
  have f5 : ∀ k, k < 16 → J (19 + k) 5 = I (19 + k) 5 := fun k hk => e (19 + k) 5 (by unfold scr; omega) (by omega)
  have g0 : ∀ d, d < 10 → J (R d) 0 = I (R d) 0 := fun d hd => by
    have := h.rr d hd
    exact e (R d) 0 (by unfold scr; omega) (by omega)
  have g1 : ∀ d, d < 10 → J (R d) 1 = I (R d) 1 := fun d hd => by
    have := h.rr d hd
    exact e (R d) 1 (by unfold scr; omega) (by omega)
  have g2 : ∀ d, d < 10 → J (R d) 2 = I (R d) 2 := fun d hd => by
    have := h.rr d hd
    exact e (R d) 2 (by unfold scr; omega) (by omega)
  refine ⟨m, ?_, ?_, ?_, ?_, ?_, ?_, ?_, ?_, ?_, ?_, ?_, ?_, ?_, ?_, ?_, ?_, ?_, ?_, ?_, ?_, ?_, ?_⟩
  · exact by rw [e 1 1 (by unfold scr; omega) (by omega), e 85 31 (by unfold scr; omega) (by omega)]; exact h.ch
  · exact by rw [e 1 2 (by unfold scr; omega) (by omega), e 85 32 (by unfold scr; omega) (by omega)]; exact h.dp
  · exact by rw [e 1 3 (by unfold scr; omega) (by omega), e 85 33 (by unfold scr; omega) (by omega)]; exact h.ap
  · exact n_sz
  · exact by rw [e 0 9 (by unfold scr; omega) (by omega), e 85 35 (by unfold scr; omega) (by omega)]; exact h.nk
  · exact by rw [e 0 10 (by unfold scr; omega) (by omega), e 85 36 (by unfold scr; omega) (by omega)]; exact h.nd
  · exact by rw [e 0 17 (by unfold scr; omega) (by omega), e 85 44 (by unfold scr; omega) (by omega)]; exact h.ct
  · exact by rw [e 0 12 (by unfold scr; omega) (by omega), e 85 46 (by unfold scr; omega) (by omega)]; exact h.nb
  · exact fun k hk => by
      rw [q_nk] at hk
      rw [eL0 k (by omega), q_dp, q_nc]; exact h.kc k hk
  · exact fun k hk => by
      rw [q_nk] at hk
      rw [e95, f1 k (by omega)]; exact h.kp k hk
  · exact fun k hk => by rw [e92, f2 k hk]; exact h.kl k hk
  · exact fun k hk => by rw [e89, f4 k hk]; exact h.kh k hk
  · exact fun k hk => by
      rw [q_nk] at hk
      rw [e89, e90, f5 k (by omega)]; exact h.kd k hk
  · exact fun k j hk hj => by
      rw [q_nk] at hk
      rw [f3 k (by omega), q_nk, e96, e96]; exact h.kr k j hk hj
  · exact fun d k hd hk => by rw [g1 d hd, e88]; exact h.wi d k hd hk
  · exact fun d k hd hk => by rw [g1 d hd]; exact h.w0 d k hd hk
  · exact fun d hd => by rw [e97, g0 d hd]; exact h.wa d hd
  · exact fun d hd => by rw [e98, g2 d hd]; exact h.bu d hd
  · exact h.rr
  · exact h.ri
  · exact n_to
  · exact fun b hb => by
      rw [q_nb] at hb
      rw [eL15]; simp only [e104, e105]; exact h.bl b hb
theorem MI_up_blk {I J : Nat → Nat → Int32} (hm : MI I) (e : ∀ a b, ¬ scr a b → ¬ (a = 104 ∨ a = 105 ∨ (a = 0 ∧ b = 12) ∨ (a = 1 ∧ b = 6) ∨ (a = 85 ∧ b = 46) ∨ (a = 85 ∧ b = 34)) → J a b = I a b)
    (n_s : J 85 34 = Int32.ofNat (szI J))
    (n_sc : szI J ≤ ncI J)
    (n_b : J 85 46 = Int32.ofNat (nbI J))
    (n_bb : nbI J ≤ 4)
    (n_told : ∀ c, c < szI J → ∃ e, e < mdI J ∧ J 87 c = Int32.ofNat e)
    (n_toldn : ∀ c, c + 1 < szI J → cA J (J 87 (c + 1)).toNatClampNeg (J 87 c).toNatClampNeg = true)
    (n_bs : ∀ b, b < nbI J → ∃ e, 1 ≤ e ∧ e ≤ ncI J ∧ J 104 b = Int32.ofNat e)
    (n_bd : ∀ b c, b < nbI J → c < (J 104 b).toNatClampNeg → ∃ e, e < mdI J ∧ J 105 (6 * b + c) = Int32.ofNat e)
    (n_bp : ∀ a b, a < nbI J → b < nbI J → a ≠ b → ∃ c, c < (J 104 a).toNatClampNeg ∧ c < (J 104 b).toNatClampNeg ∧ J 105 (6 * a + c) ≠ J 105 (6 * b + c)) : MI J := by
  have e86 : ∀ b, J 86 b = I 86 b := fun b => e 86 b (by unfold scr; omega) (by omega)
  have e87 : ∀ b, J 87 b = I 87 b := fun b => e 87 b (by unfold scr; omega) (by omega)
  have e88 : ∀ b, J 88 b = I 88 b := fun b => e 88 b (by unfold scr; omega) (by omega)
  have e89 : ∀ b, J 89 b = I 89 b := fun b => e 89 b (by unfold scr; omega) (by omega)
  have e90 : ∀ b, J 90 b = I 90 b := fun b => e 90 b (by unfold scr; omega) (by omega)
  have e92 : ∀ b, J 92 b = I 92 b := fun b => e 92 b (by unfold scr; omega) (by omega)
  have e95 : ∀ b, J 95 b = I 95 b := fun b => e 95 b (by unfold scr; omega) (by omega)
  have e96 : ∀ b, J 96 b = I 96 b := fun b => e 96 b (by unfold scr; omega) (by omega)
  have e97 : ∀ b, J 97 b = I 97 b := fun b => e 97 b (by unfold scr; omega) (by omega)
  have e98 : ∀ b, J 98 b = I 98 b := fun b => e 98 b (by unfold scr; omega) (by omega)
  have q_nk : nkI J = nkI I := by unfold nkI; rw [e 85 35 (by unfold scr; omega) (by omega)]
  have q_nd : ndI J = ndI I := by unfold ndI; rw [e 85 36 (by unfold scr; omega) (by omega)]
  have q_nc : ncI J = ncI I := by unfold ncI; rw [e 85 31 (by unfold scr; omega) (by omega)]
  have q_md : mdI J = mdI I := by unfold mdI; rw [e 85 32 (by unfold scr; omega) (by omega)]
  have q_ca : cA J = cA I := by funext d e2; unfold cA; rw [e 85 33 (by unfold scr; omega) (by omega)]
  have q_dp : dpM J = dpM I := by funext k c; unfold dpM; rw [e86]
  refine ⟨?_, ?_, ?_, ?_, ?_, ?_, ?_, ?_, ?_, ?_, ?_, ?_, ?_, ?_, ?_, ?_, ?_, ?_, ?_, ?_, ?_, ?_, ?_, ?_, ?_, ?_, ?_⟩
  · rw [e 85 35 (by unfold scr; omega) (by omega), q_nk]; exact hm.k
  · simp only [e86, e87, e88, e89, e90, e92, e95, e96, e97, e98, q_nk, q_nd, q_nc, q_md, q_ca, q_dp]; exact hm.kb
  · rw [e 85 36 (by unfold scr; omega) (by omega), q_nd]; exact hm.d
  · simp only [e86, e87, e88, e89, e90, e92, e95, e96, e97, e98, q_nk, q_nd, q_nc, q_md, q_ca, q_dp]; exact hm.db
  · rw [e 85 31 (by unfold scr; omega) (by omega), q_nc]; exact hm.c
  · simp only [e86, e87, e88, e89, e90, e92, e95, e96, e97, e98, q_nk, q_nd, q_nc, q_md, q_ca, q_dp]; exact hm.c3
  · simp only [e86, e87, e88, e89, e90, e92, e95, e96, e97, e98, q_nk, q_nd, q_nc, q_md, q_ca, q_dp]; exact hm.c6
  · rw [e 85 32 (by unfold scr; omega) (by omega), q_md]; exact hm.m
  · simp only [e86, e87, e88, e89, e90, e92, e95, e96, e97, e98, q_nk, q_nd, q_nc, q_md, q_ca, q_dp]; exact hm.m2
  · simp only [e86, e87, e88, e89, e90, e92, e95, e96, e97, e98, q_nk, q_nd, q_nc, q_md, q_ca, q_dp]; exact hm.m6
  · exact n_s
  · exact n_sc
  · exact n_b
  · exact n_bb
  · rw [e 85 33 (by unfold scr; omega) (by omega)]; exact hm.ap
  · simp only [e86, e87, e88, e89, e90, e92, e95, e96, e97, e98, q_nk, q_nd, q_nc, q_md, q_ca, q_dp]; exact hm.dep
  · simp only [e86, e87, e88, e89, e90, e92, e95, e96, e97, e98, q_nk, q_nd, q_nc, q_md, q_ca, q_dp]; exact hm.near
  · exact n_told
  · exact n_toldn
  · exact n_bs
  · exact n_bd
  · exact n_bp
  · simp only [e86, e87, e88, e89, e90, e92, e95, e96, e97, e98, q_nk, q_nd, q_nc, q_md, q_ca, q_dp]; exact hm.rb
  · simp only [e86, e87, e88, e89, e90, e92, e95, e96, e97, e98, q_nk, q_nd, q_nc, q_md, q_ca, q_dp]; exact hm.ru
  · simp only [e86, e87, e88, e89, e90, e92, e95, e96, e97, e98, q_nk, q_nd, q_nc, q_md, q_ca, q_dp]; exact hm.wu
  · simp only [e86, e87, e88, e89, e90, e92, e95, e96, e97, e98, q_nk, q_nd, q_nc, q_md, q_ca, q_dp]; exact hm.wf
  · simp only [e86, e87, e88, e89, e90, e92, e95, e96, e97, e98, q_nk, q_nd, q_nc, q_md, q_ca, q_dp]; exact hm.hu
theorem RK_up_blk {I J : Nat → Nat → Int32} {L K : Nat → Nat → Int64} {R : Nat → Nat} (h : RK I L R) (e : ∀ a b, ¬ scr a b → ¬ (a = 104 ∨ a = 105 ∨ (a = 0 ∧ b = 12) ∨ (a = 1 ∧ b = 6) ∨ (a = 85 ∧ b = 46) ∨ (a = 85 ∧ b = 34)) → J a b = I a b) (eL0 : ∀ k, k < 16 → K (19 + k) 0 = L (19 + k) 0) (m : MI J)
    (n_sz : J 1 6 = J 85 34)
    (n_nb : J 0 12 = J 85 46)
    (n_to : isCuts (K 1 5) (fun c => (J 87 c).toNatClampNeg) (szI J))
    (n_bl : ∀ b, b < nbI J → isCuts (K 15 b) (fun c => (J 105 (6 * b + c)).toNatClampNeg) (J 104 b).toNatClampNeg) : RK J K R := by
  have e86 : ∀ b, J 86 b = I 86 b := fun b => e 86 b (by unfold scr; omega) (by omega)
  have e87 : ∀ b, J 87 b = I 87 b := fun b => e 87 b (by unfold scr; omega) (by omega)
  have e88 : ∀ b, J 88 b = I 88 b := fun b => e 88 b (by unfold scr; omega) (by omega)
  have e89 : ∀ b, J 89 b = I 89 b := fun b => e 89 b (by unfold scr; omega) (by omega)
  have e90 : ∀ b, J 90 b = I 90 b := fun b => e 90 b (by unfold scr; omega) (by omega)
  have e92 : ∀ b, J 92 b = I 92 b := fun b => e 92 b (by unfold scr; omega) (by omega)
  have e95 : ∀ b, J 95 b = I 95 b := fun b => e 95 b (by unfold scr; omega) (by omega)
  have e96 : ∀ b, J 96 b = I 96 b := fun b => e 96 b (by unfold scr; omega) (by omega)
  have e97 : ∀ b, J 97 b = I 97 b := fun b => e 97 b (by unfold scr; omega) (by omega)
  have e98 : ∀ b, J 98 b = I 98 b := fun b => e 98 b (by unfold scr; omega) (by omega)
  have q_nk : nkI J = nkI I := by unfold nkI; rw [e 85 35 (by unfold scr; omega) (by omega)]
  have q_nd : ndI J = ndI I := by unfold ndI; rw [e 85 36 (by unfold scr; omega) (by omega)]
  have q_nc : ncI J = ncI I := by unfold ncI; rw [e 85 31 (by unfold scr; omega) (by omega)]
  have q_md : mdI J = mdI I := by unfold mdI; rw [e 85 32 (by unfold scr; omega) (by omega)]
  have q_dp : dpM J = dpM I := by funext k c; unfold dpM; rw [e86]
  have hkb := h.mi.kb
  have f1 : ∀ k, k < 16 → J (19 + k) 1 = I (19 + k) 1 := fun k hk => e (19 + k) 1 (by unfold scr; omega) (by omega)
  have f2 : ∀ k, k < 16 → J (19 + k) 2 = I (19 + k) 2 := fun k hk => e (19 + k) 2 (by unfold scr; omega) (by omega)
  have f3 : ∀ k, k < 16 → J (19 + k) 3 = I (19 + k) 3 := fun k hk => e (19 + k) 3 (by unfold scr; omega) (by omega)
  have f4 : ∀ k, k < 16 → J (19 + k) 4 = I (19 + k) 4 := fun k hk => e (19 + k) 4 (by unfold scr; omega) (by omega)
  have f5 : ∀ k, k < 16 → J (19 + k) 5 = I (19 + k) 5 := fun k hk => e (19 + k) 5 (by unfold scr; omega) (by omega)
  have g0 : ∀ d, d < 10 → J (R d) 0 = I (R d) 0 := fun d hd => by
    have := h.rr d hd
    exact e (R d) 0 (by unfold scr; omega) (by omega)
  have g1 : ∀ d, d < 10 → J (R d) 1 = I (R d) 1 := fun d hd => by
    have := h.rr d hd
    exact e (R d) 1 (by unfold scr; omega) (by omega)
  have g2 : ∀ d, d < 10 → J (R d) 2 = I (R d) 2 := fun d hd => by
    have := h.rr d hd
    exact e (R d) 2 (by unfold scr; omega) (by omega)
  refine ⟨m, ?_, ?_, ?_, ?_, ?_, ?_, ?_, ?_, ?_, ?_, ?_, ?_, ?_, ?_, ?_, ?_, ?_, ?_, ?_, ?_, ?_, ?_⟩
  · exact by rw [e 1 1 (by unfold scr; omega) (by omega), e 85 31 (by unfold scr; omega) (by omega)]; exact h.ch
  · exact by rw [e 1 2 (by unfold scr; omega) (by omega), e 85 32 (by unfold scr; omega) (by omega)]; exact h.dp
  · exact by rw [e 1 3 (by unfold scr; omega) (by omega), e 85 33 (by unfold scr; omega) (by omega)]; exact h.ap
  · exact n_sz
  · exact by rw [e 0 9 (by unfold scr; omega) (by omega), e 85 35 (by unfold scr; omega) (by omega)]; exact h.nk
  · exact by rw [e 0 10 (by unfold scr; omega) (by omega), e 85 36 (by unfold scr; omega) (by omega)]; exact h.nd
  · exact by rw [e 0 17 (by unfold scr; omega) (by omega), e 85 44 (by unfold scr; omega) (by omega)]; exact h.ct
  · exact n_nb
  · exact fun k hk => by
      rw [q_nk] at hk
      rw [eL0 k (by omega), q_dp, q_nc]; exact h.kc k hk
  · exact fun k hk => by
      rw [q_nk] at hk
      rw [e95, f1 k (by omega)]; exact h.kp k hk
  · exact fun k hk => by rw [e92, f2 k hk]; exact h.kl k hk
  · exact fun k hk => by rw [e89, f4 k hk]; exact h.kh k hk
  · exact fun k hk => by
      rw [q_nk] at hk
      rw [e89, e90, f5 k (by omega)]; exact h.kd k hk
  · exact fun k j hk hj => by
      rw [q_nk] at hk
      rw [f3 k (by omega), q_nk, e96, e96]; exact h.kr k j hk hj
  · exact fun d k hd hk => by rw [g1 d hd, e88]; exact h.wi d k hd hk
  · exact fun d k hd hk => by rw [g1 d hd]; exact h.w0 d k hd hk
  · exact fun d hd => by rw [e97, g0 d hd]; exact h.wa d hd
  · exact fun d hd => by rw [e98, g2 d hd]; exact h.bu d hd
  · exact h.rr
  · exact h.ri
  · exact n_to
  · exact n_bl
end
section
/-! part 73: the relation of keys and doors: a new key, a wish -/
theorem tb_1shl {k j : Nat} (hk : k < 32) : tb ((1 : Int32) <<< (Int32.ofNat k &&& 31)) j = decide (j = k) := by
  rw [tb_shl, shD_nat hk]
/-- a new key, on both sides -/
theorem RK_key {I J : Nat → Nat → Int32} {L K : Nat → Nat → Int64} {R : Nat → Nat} (h : RK I L R) (g14 : I 85 43 = I 1 4) (hn : nkI I < 16) {t : Nat → Nat} (ht : ∀ c, c < ncI I → t c < mdI I) (hnear : nearM I t) {D : Int32} (hD : ∀ d, tb D d = true → d < ndI I ∧ (I 85 43 &&& I 97 d) = 0) {v : Int64} (hv : isCuts v t (ncI I))
    (e : ∀ a b, ¬ scr a b → ¬ ((a = 0 ∧ b = 9) ∨ (a = 85 ∧ b = 35) ∨ a = 86 ∨ a = 88 ∨ a = 95 ∨ (19 ≤ a ∧ a ≤ 34 ∧ b = 1) ∨ (19 ≤ a ∧ a ≤ 34 ∧ b = 3) ∨ (35 ≤ a ∧ a ≤ 44 ∧ b = 1)) → J a b = I a b)
    (eL1 : K 1 5 = L 1 5) (eL15 : ∀ b, K 15 b = L 15 b)
    (c1 : J 85 35 = Int32.ofNat (nkI I + 1)) (c2 : J 0 9 = Int32.ofNat (nkI I + 1))
    (c3 : ∀ c, c < ncI I → J 86 (6 * nkI I + c) = Int32.ofNat (t c)) (c4 : ∀ k c, k < nkI I → c < ncI I → J 86 (6 * k + c) = I 86 (6 * k + c))
    (c5 : ∀ k, k < 16 → J 88 k = if k = nkI I then D else I 88 k)
    (c6 : J 95 (nkI I) = I 85 43) (c7 : ∀ k, k < nkI I → J 95 k = I 95 k)
    (c8 : K (19 + nkI I) 0 = v) (c9 : ∀ k, k < nkI I → K (19 + k) 0 = L (19 + k) 0)
    (d1 : J (19 + nkI I) 1 = I 85 43) (d2 : ∀ k, k < nkI I → J (19 + k) 1 = I (19 + k) 1)
    (d3 : ∀ j, j < 32 → tb (J (19 + nkI I) 3) j = decide (j = nkI I)) (d4 : ∀ k, k < nkI I → J (19 + k) 3 = I (19 + k) 3)
    (d5 : ∀ d k, d < 10 → tb (J (R d) 1) k = if k = nkI I then tb D d else tb (I (R d) 1) k) : RK J K R := by
  have hm := h.mi
  have n6 := hm.c6
  have m6 := hm.m6
  have hdb := hm.db
  have q_nk : nkI J = nkI I + 1 := by
    show (J 85 35).toNatClampNeg = _
    rw [c1]; exact ofN_clamp (by omega)
  have q_nc : ncI J = ncI I := by unfold ncI; rw [e 85 31 (by unfold scr; omega) (by omega)]
  have q_md : mdI J = mdI I := by unfold mdI; rw [e 85 32 (by unfold scr; omega) (by omega)]
  have q_nd : ndI J = ndI I := by unfold ndI; rw [e 85 36 (by unfold scr; omega) (by omega)]
  have q_ca : ∀ a b, cA J a b = cA I a b := fun a b => by unfold cA; rw [e 85 33 (by unfold scr; omega) (by omega)]
  have e96 : ∀ b, J 96 b = I 96 b := fun b => e 96 b (by unfold scr; omega) (by omega)
  have e97 : ∀ b, J 97 b = I 97 b := fun b => e 97 b (by unfold scr; omega) (by omega)
  have dpN : ∀ c, c < ncI I → dpM J (nkI I) c = t c := fun c hc => by
    have := ht c hc
    unfold dpM
    rw [c3 c hc, ofN_clamp (by omega)]
  have dpO : ∀ k c, k < nkI I → c < ncI I → dpM J k c = dpM I k c := fun k c hk hc => by unfold dpM; rw [c4 k c hk hc]
  have c95 : ∀ k, k < nkI I + 1 → J 95 k = if k = nkI I then I 85 43 else I 95 k := fun k hk => by
    by_cases g : k = nkI I
    · rw [if_pos g, g, c6]
    · rw [if_neg g, c7 k (by omega)]
  refine RK_up_key h (fun a b q1 q2 => e a b q1 (by omega)) eL1 eL15 (MI_up_key hm (fun a b q1 q2 => e a b q1 (by omega)) ?_ ?_ ?_ ?_ ?_ ?_ ?_ ?_ ?_) ?_ ?_ ?_ ?_ ?_ ?_ ?_
  · rw [c1, q_nk]
  · rw [q_nk]; omega
  · intro k c hk hc
    rw [q_nk] at hk
    rw [q_nc] at hc
    rw [q_md]
    by_cases g : k = nkI I
    · subst g
      exact ⟨t c, ht c hc, c3 c hc⟩
    · rw [c4 k c (by omega) hc]
      exact hm.dep k c (by omega) hc
  · intro k c hk hc
    rw [q_nk] at hk
    rw [q_nc] at hc
    rw [q_ca]
    by_cases g : k = nkI I
    · subst g
      rw [dpN (c + 1) hc, dpN c (by omega)]
      exact hnear (c + 1) (by omega) hc
    · rw [dpO k (c + 1) (by omega) hc, dpO k c (by omega) (by omega)]
      exact hm.near k c (by omega) hc
  · intro k hk
    rw [q_nk] at hk
    rw [q_nk, e96]
    by_cases g : k = nkI I
    · subst g
      exact ⟨nkI I, by omega, hm.ru _ (Nat.le_refl _) hn⟩
    · obtain ⟨z, z1, z2⟩ := hm.rb k (by omega)
      exact ⟨z, by omega, z2⟩
  · intro k hk h16
    rw [q_nk] at hk
    rw [e96]
    exact hm.ru k (by omega) h16
  · intro d k hk hb
    rw [c5 k hk] at hb
    rw [q_nk, q_nd]
    by_cases g : k = nkI I
    · rw [if_pos g] at hb
      exact ⟨by omega, (hD d hb).1⟩
    · rw [if_neg g] at hb
      have := hm.wu d k hk hb
      exact ⟨by omega, this.2⟩
  · intro d k hk hb
    rw [c5 k hk] at hb
    rw [e97]
    by_cases g : k = nkI I
    · rw [if_pos g] at hb
      rw [g, c6]
      exact (hD d hb).2
    · rw [if_neg g] at hb
      have hw := (hm.wu d k hk hb).1
      rw [c7 k hw]
      exact hm.wf d k hk hb
  · intro k hk h16
    rw [q_nk] at hk
    rw [e 89 k (by unfold scr; omega) (by omega)]
    exact hm.hu k (by omega) h16
  · rw [c2, c1]
  · intro k hk
    rw [q_nk] at hk
    rw [q_nc]
    by_cases g : k = nkI I
    · subst g
      rw [c8]
      exact isCuts_cg hv (fun c hc => (dpN c hc).symm)
    · rw [c9 k (by omega)]
      exact isCuts_cg (h.kc k (by omega)) (fun c hc => (dpO k c (by omega) hc).symm)
  · intro k hk
    rw [q_nk] at hk
    by_cases g : k = nkI I
    · subst g; rw [c6, d1]
    · rw [c7 k (by omega), d2 k (by omega)]; exact h.kp k (by omega)
  · intro k hk hh
    rw [q_nk] at hk
    have e89 : J 89 k = I 89 k := e 89 k (by unfold scr; omega) (by omega)
    have e90 : J 90 k = I 90 k := e 90 k (by unfold scr; omega) (by omega)
    have e5 : J (19 + k) 5 = I (19 + k) 5 := e (19 + k) 5 (by unfold scr; omega) (by omega)
    rw [e89] at hh
    rw [e90, e5]
    by_cases g : k = nkI I
    · exact absurd (hm.hu k (by omega) (by omega)) hh
    · exact h.kd k (by omega) hh
  · intro k j hk hj
    rw [q_nk] at hk
    rw [q_nk, e96, e96]
    have un : I 96 (nkI I) = Int32.ofNat (nkI I) := hm.ru _ (Nat.le_refl _) hn
    have old : ∀ i, i < nkI I → ¬ I 96 i = Int32.ofNat (nkI I) := fun i hi z => by
      obtain ⟨y, y1, y2⟩ := hm.rb i hi
      rw [y2] at z
      have := (oN_inj (by omega) (by omega)).mp z
      omega
    by_cases g : k = nkI I
    · subst g
      rw [d3 j hj, decide_eq_true_eq, un]
      constructor
      · intro z; subst z; exact ⟨by omega, un⟩
      · rintro ⟨z1, z2⟩
        apply Classical.byContradiction
        intro z
        exact old j (by omega) z2
    · rw [d4 k (by omega), h.kr k j (by omega) hj]
      constructor
      · rintro ⟨z1, z2⟩; exact ⟨by omega, z2⟩
      · rintro ⟨z1, z2⟩
        refine ⟨?_, z2⟩
        apply Classical.byContradiction
        intro z
        have : j = nkI I := by omega
        subst this
        exact old k (by omega) (z2.symm.trans un)
  · intro d k hd hk
    rw [d5 d k hd, c5 k hk]
    by_cases g : k = nkI I
    · rw [if_pos g, if_pos g]
    · rw [if_neg g, if_neg g]; exact h.wi d k hd hk
  · intro d k hd hk
    rw [d5 d k hd, if_neg (by omega)]
    exact h.w0 d k hd hk
/-- a wish more or less -/
theorem RK_wish {I J : Nat → Nat → Int32} {L K : Nat → Nat → Int64} {R : Nat → Nat} (h : RK I L R) {d0 k0 : Nat} {b : Bool} (hd : d0 < ndI I) (hk : k0 < nkI I) (hf : b = true → (I 95 k0 &&& I 97 d0) = 0)
    (e : ∀ a b, ¬ scr a b → ¬ (a = 88 ∨ (35 ≤ a ∧ a ≤ 44 ∧ b = 1)) → J a b = I a b) (eL0 : ∀ k, k < 16 → K (19 + k) 0 = L (19 + k) 0) (eL1 : K 1 5 = L 1 5) (eL15 : ∀ b, K 15 b = L 15 b)
    (c1 : ∀ k d, k < 16 → tb (J 88 k) d = if k = k0 ∧ d = d0 then b else tb (I 88 k) d) (c2 : ∀ d k, d < 10 → tb (J (R d) 1) k = if k = k0 ∧ d = d0 then b else tb (I (R d) 1) k) : RK J K R := by
  have hm := h.mi
  have hkb := hm.kb
  have q_nk : nkI J = nkI I := by unfold nkI; rw [e 85 35 (by unfold scr; omega) (by omega)]
  have q_nd : ndI J = ndI I := by unfold ndI; rw [e 85 36 (by unfold scr; omega) (by omega)]
  have e95 : ∀ b, J 95 b = I 95 b := fun b => e 95 b (by unfold scr; omega) (by omega)
  have e97 : ∀ b, J 97 b = I 97 b := fun b => e 97 b (by unfold scr; omega) (by omega)
  refine RK_up_wish h e eL0 eL1 eL15 (MI_up_wish hm e ?_ ?_) ?_ ?_
  · intro d k hk16 hb
    rw [c1 k d hk16] at hb
    rw [q_nk, q_nd]
    by_cases g : k = k0 ∧ d = d0
    · rw [g.1, g.2]; exact ⟨hk, hd⟩
    · rw [if_neg g] at hb; exact hm.wu d k hk16 hb
  · intro d k hk16 hb
    rw [c1 k d hk16] at hb
    rw [e95, e97]
    by_cases g : k = k0 ∧ d = d0
    · rw [if_pos g] at hb
      rw [g.1, g.2]; exact hf hb
    · rw [if_neg g] at hb; exact hm.wf d k hk16 hb
  · intro d k hd' hk16
    rw [c2 d k hd', c1 k d hk16]
    by_cases g : k = k0 ∧ d = d0
    · rw [if_pos g, if_pos g]
    · rw [if_neg g, if_neg g]; exact h.wi d k hd' hk16
  · intro d k hd' hk16
    rw [c2 d k hd', if_neg (by omega)]
    exact h.w0 d k hd' hk16
end
section
/-! part 74: rows and rules for the calls on keys and doors -/
theorem qH_pR {h : sH} {I : Nat → Nat → Int32} {L : Nat → Nat → Int64} {R : Nat → Nat} {t j x : Nat} {w : List Value} (th : qH h I L R) (hc : h[13]? = some (.inl (t, w))) (hj : j < w.length) (ht : t = 6) (h1 : 35 ≤ x) (h2 : x ≤ 44) : qH (h.set 13 (.inl (t, w.set j (.ref x)))) I L (upR R j x) := by
  obtain ⟨t1, rfl, rfl, rfl⟩ := th
  subst ht
  have hj' : j < (sVs (.inl (6, w))).length := hj
  have hv : (sVs (.inl (6, w)))[j]? = some (w[j]'hj) := List.getElem?_eq_getElem hj
  obtain ⟨k, hk, -⟩ : ∃ k, w[j]'hj = .ref k ∧ True := by
    obtain ⟨k, hk, -⟩ := (t1.2.1 13 _ (by decide) hc).2 j _ hv
    exact ⟨k, hk, trivial⟩
  rw [hk] at hv
  have e : (.inl (6, w.set j (.ref x)) : sC) = tPut (.inl (6, w)) j (.ref x) := rfl
  rw [e]
  refine ⟨tInv_put t1 hc ⟨x, rfl, h1, h2⟩ (fun z => absurd z (by decide)), ?_, ?_, ?_⟩
  · rw [vI_put hc hj']
    exact upI_eq ((vI_at hc hv).trans rfl)
  · rw [vL_put hc hj']
    exact upL_eq ((vL_at hc hv).trans rfl)
  · rw [vR_put hc hj', if_pos rfl]; rfl
theorem q_aastoreD {K N pc a1 a2 ln : Nat} {Q : sR → Prop} {lv : sL} {st : List Value} {h : sH} {I : Nat → Nat → Int32} {L : Nat → Nat → Int64} {R : Nat → Nat} {i : Int32} {x : Nat} (th : qH h I L R) (he : mE (mtv K) pc = some (.aastore, ln, a1, a2)) (hx : 35 ≤ x) (hx2 : x ≤ 44) (k : sIn i 10 = true → ∀ h', qH h' I L (upR R i.toNatClampNeg x) → qW K N (pc + 1) lv st h' Q) : qW K N pc lv (.ref x :: .int i :: .ref 13 :: st) h Q := q_H he rfl (fun z hz => by
  unfold sHp at hz; dsimp only at hz
  split at hz
  · next t w hq =>
    split at hz
    · split at hz
      · next e =>
        cases hz
        obtain ⟨e1, -, -, -⟩ := e
        obtain ⟨g1, g⟩ := tSh_ln th.1 (a := 13) (by decide) hq (t := 6) (n := 10) rfl
        have hj := sIn_lt e1
        rw [g] at e1
        exact k e1 _ (qH_pR th hq hj g1 hx hx2)
      · cases hz
    · cases hz
  · cases hz) (fun g D cl sl => sNo he rfl g rfl rfl rfl rfl)
theorem upR_s {R : Nat → Nat} {f x : Nat} : upR R f x f = x := if_pos rfl
theorem upR_ne {R : Nat → Nat} {f x g : Nat} (h : ¬ g = f) : upR R f x g = R g := if_neg h
/-! bounds of the counts -/
theorem inR_oN {x : Int32} {n : Nat} {lo hi : Int} (e : x = Int32.ofNat n) (h1 : lo ≤ (n : Int)) (h2 : (n : Int) ≤ hi) (h3 : n < 2147483648) : inR x lo hi := by
  unfold inR
  rw [e, ofN_toInt h3]
  exact ⟨h1, h2⟩
theorem RK.bk {I : Nat → Nat → Int32} {L : Nat → Nat → Int64} {R : Nat → Nat} (h : RK I L R) : inR (I 0 9) 0 16 := inR_oN h.k1 (by omega) (by have := h.mi.kb; omega) (by have := h.mi.kb; omega)
theorem RK.bd {I : Nat → Nat → Int32} {L : Nat → Nat → Int64} {R : Nat → Nat} (h : RK I L R) : inR (I 0 10) 0 10 := inR_oN h.d1 (by omega) (by have := h.mi.db; omega) (by have := h.mi.db; omega)
theorem RK.bb {I : Nat → Nat → Int32} {L : Nat → Nat → Int64} {R : Nat → Nat} (h : RK I L R) : inR (I 0 12) 0 4 := inR_oN h.b1 (by omega) (by have := h.mi.bb; omega) (by have := h.mi.bb; omega)
theorem RK.bc {I : Nat → Nat → Int32} {L : Nat → Nat → Int64} {R : Nat → Nat} (h : RK I L R) : inR (I 1 1) 3 6 := inR_oN h.c1 (by have := h.mi.c3; omega) (by have := h.mi.c6; omega) (by have := h.mi.c6; omega)
theorem RK.bm {I : Nat → Nat → Int32} {L : Nat → Nat → Int64} {R : Nat → Nat} (h : RK I L R) : inR (I 1 2) 2 6 := inR_oN h.m1 (by have := h.mi.m2; omega) (by have := h.mi.m6; omega) (by have := h.mi.m6; omega)
theorem RK.ba {I : Nat → Nat → Int32} {L : Nat → Nat → Int64} {R : Nat → Nat} (h : RK I L R) : inR (I 1 3) 1 5 := by
  rw [h.ap]; exact h.mi.ap
theorem RK.s1 {I : Nat → Nat → Int32} {L : Nat → Nat → Int64} {R : Nat → Nat} (h : RK I L R) : I 1 6 = Int32.ofNat (szI I) := h.sz.trans h.mi.s
theorem RK.bs {I : Nat → Nat → Int32} {L : Nat → Nat → Int64} {R : Nat → Nat} (h : RK I L R) : inR (I 1 6) 0 6 := inR_oN h.s1 (by omega) (by have := h.mi.sc; have := h.mi.c6; omega) (by have := h.mi.sc; have := h.mi.c6; omega)
/-! what scratch cells don't touch -/
theorem RK_s {I J : Nat → Nat → Int32} {L K : Nat → Nat → Int64} {R : Nat → Nat} (h : RK I L R) (e : agS J I) (eL0 : ∀ k, k < 16 → K (19 + k) 0 = L (19 + k) 0) (eL1 : K 1 5 = L 1 5) (eL15 : ∀ b, K 15 b = L 15 b) : RK J K R := RK_up_0 h e eL0 eL1 eL15 (MI_S e h.mi)
theorem agS_up {J I : Nat → Nat → Int32} {a b : Nat} {x : Int32} (hs : scr a b) (h : agS J I) : agS (upI J a b x) I := fun c d hn => by
  rw [upI_ne (fun q => hn (by rw [q.1, q.2]; exact hs))]
  exact h c d hn
theorem agS_0 {I : Nat → Nat → Int32} : agS I I := fun _ _ _ => rfl
theorem scr_t : scr 85 42 := by unfold scr; omega
theorem RK_t {I : Nat → Nat → Int32} {L : Nat → Nat → Int64} {R : Nat → Nat} (k : Int32) (h : RK I L R) : RK (upI I 85 42 k) L R := RK_s h (agS_up scr_t agS_0) (fun _ _ => rfl) rfl (fun _ => rfl)
theorem RK_L {I : Nat → Nat → Int32} {L : Nat → Nat → Int64} {R : Nat → Nat} {f : Nat} {x : Int64} (h : RK I L R) : RK I (upL L 117 f x) R := RK_s h agS_0 (fun k _ => upL_ne (by omega)) (upL_ne (by omega)) (fun b => upL_ne (by omega))
/-! numbers that may be -/
theorem rg_n {x y : Int32} {n : Nat} (e : y = Int32.ofNat n) (hn : n < 2147483648) (h0 : ¬ x < 0) (h1 : x < y) : ∃ k, k < n ∧ x = Int32.ofNat k := by
  have z : (0 : Int32).toInt = 0 := rfl
  rw [Int32.lt_iff_toInt_lt, z] at h0
  have e2 := i32_clamp (d := x) (by omega)
  refine ⟨x.toNatClampNeg, ?_, e2⟩
  rw [e, e2] at h1
  exact (oN_lt (nn_lt x) hn).mp h1
theorem RK.gk {I : Nat → Nat → Int32} {L : Nat → Nat → Int64} {R : Nat → Nat} (h : RK I L R) {x : Int32} (h0 : ¬ x < 0) (h1 : x < I 0 9) : ∃ k, k < nkI I ∧ x = Int32.ofNat k := rg_n h.k1 (by have := h.mi.kb; omega) h0 h1
theorem RK.gd {I : Nat → Nat → Int32} {L : Nat → Nat → Int64} {R : Nat → Nat} (h : RK I L R) {x : Int32} (h0 : ¬ x < 0) (h1 : x < I 0 10) : ∃ k, k < ndI I ∧ x = Int32.ofNat k := rg_n h.d1 (by have := h.mi.db; omega) h0 h1
theorem RK.gc {I : Nat → Nat → Int32} {L : Nat → Nat → Int64} {R : Nat → Nat} (h : RK I L R) {x : Int32} (h0 : ¬ x < 0) (h1 : x < I 1 1) : ∃ k, k < ncI I ∧ x = Int32.ofNat k := rg_n h.c1 (by have := h.mi.c6; omega) h0 h1
theorem rg_b {x lo hi : Int32} {a b : Nat} (e1 : lo = Int32.ofNat a) (e2 : hi = Int32.ofNat b) (ha : a < 2147483648) (hb : b < 2147483648) (h : lo ≤ x ∧ x ≤ hi) : ∃ k, a ≤ k ∧ k ≤ b ∧ x = Int32.ofNat k := by
  have h1 := h.1
  rw [e1, Int32.le_iff_toInt_le, ofN_toInt ha] at h1
  have e3 := i32_clamp (d := x) (by omega)
  refine ⟨x.toNatClampNeg, ?_, ?_, e3⟩
  · have := h.1
    rw [e1, e3] at this
    exact (oN_le ha (nn_lt x)).mp this
  · have := h.2
    rw [e2, e3] at this
    exact (oN_le (nn_lt x) hb).mp this
/-- a wish, on both sides -/
theorem RK.hw {I : Nat → Nat → Int32} {L : Nat → Nat → Int64} {R : Nat → Nat} (h : RK I L R) {d k : Nat} (hd : d < ndI I) (hk : k < nkI I) : hs (I (R d) 1) (Int32.ofNat k) = tb (I 88 k) d := by
  have := h.mi.db
  have := h.mi.kb
  rw [hs_oN (by omega), h.wi d k (by omega) (by omega)]
theorem canw {I : Nat → Nat → Int32} {L : Nat → Nat → Int64} {R : Nat → Nat} (h : RK I L R) {d k : Nat} (hd : d < ndI I) (hk : k < nkI I) : T_28 I (R d) (Int32.ofNat k) = T_224 I (Int32.ofNat d) (Int32.ofNat k) := by
  have h1 := h.mi.db
  have h2 := h.mi.kb
  unfold T_28 T_224 T_225
  rw [ofN_clamp (by omega), ofN_clamp (by omega), h.hw hd hk, hs_oN (by omega), h.kl k (by omega), h.kp k hk, h.wa d (by omega)]
  cases tb (I 88 k) d <;> rfl
/-- counts of bits: two halves are counted each on its own -/
theorem land_sp {a b c d : Nat} (hb : b < 256) (hd : d < 256) : Nat.land (256 * a + b) (256 * c + d) = 256 * Nat.land a c + Nat.land b d := by
  have hbd : (b &&& d) < 2 ^ 8 := Nat.lt_of_le_of_lt Nat.and_le_left hb
  have hb' : b < 2 ^ 8 := hb
  have hd' : d < 2 ^ 8 := hd
  apply Nat.eq_of_testBit_eq
  intro j
  show ((2 ^ 8 * a + b) &&& (2 ^ 8 * c + d)).testBit j = (2 ^ 8 * (a &&& c) + (b &&& d)).testBit j
  rw [Nat.testBit_and, Nat.testBit_two_pow_mul_add _ hb', Nat.testBit_two_pow_mul_add _ hd', Nat.testBit_two_pow_mul_add _ hbd]
  by_cases g : j < 8
  · rw [if_pos g, if_pos g, if_pos g, Nat.testBit_and]
  · rw [if_neg g, if_neg g, if_neg g, Nat.testBit_and]
noncomputable def pb1 (h : Nat) : Nat := h - Nat.land (h / 2) 85
noncomputable def pb2 (n : Nat) : Nat := Nat.land n 51 + Nat.land (n / 4) 51
noncomputable def pb3 (n : Nat) : Nat := Nat.land (n + n / 16) 15
set_option maxRecDepth 100000 in
theorem pb_a : ∀ h, h < 256 → Nat.land (h / 2) 85 ≤ h ∧ pb1 h ≤ 170 ∧ (∀ b, b < 2 → Nat.land (128 * b + h / 2) 85 = Nat.land (h / 2) 85) := by decide +kernel
set_option maxRecDepth 100000 in
theorem pb_b : ∀ h, h < 256 → pb2 (pb1 h) ≤ 68 ∧ pb2 (pb1 h) % 16 ≤ 4 ∧ (∀ b, b < 4 → Nat.land (64 * b + pb1 h / 4) 51 = Nat.land (pb1 h / 4) 51) := by decide +kernel
set_option maxRecDepth 100000 in
theorem pb_c : ∀ n, n < 69 → pb3 n ≤ 15 ∧ ∀ b, b < 5 → Nat.land (n + n / 16 + 16 * b) 15 = pb3 n := by decide +kernel
set_option maxRecDepth 100000 in
theorem pb_d : ∀ h, h < 256 → pb3 (pb2 (pb1 h)) = pcN h 8 := by decide +kernel
theorem pb_e : ∀ n, n < 31 → Nat.land n 63 = n := by decide +kernel
theorem land_0 {a c : Nat} (ha : a < 256) (hc : c < 256) (m : Nat) : Nat.land a (256 * m + c) = Nat.land a c := by
  have := land_sp (a := 0) (b := a) (c := m) (d := c) ha hc
  rw [Nat.mul_zero, Nat.zero_add] at this
  rw [this, show Nat.land 0 m = 0 from Nat.zero_and m, Nat.mul_zero, Nat.zero_add]
theorem pcN_lo {a b : Nat} : ∀ j, j ≤ 8 → pcN (256 * a + b) j = pcN b j
  | 0, _ => rfl
  | j + 1, hj => by
    show pcN (256 * a + b) j + (256 * a + b) / 2 ^ j % 2 = pcN b j + b / 2 ^ j % 2
    rw [pcN_lo j (by omega)]
    congr 1
    rcases (show j = 0 ∨ j = 1 ∨ j = 2 ∨ j = 3 ∨ j = 4 ∨ j = 5 ∨ j = 6 ∨ j = 7 by omega) with rfl | rfl | rfl | rfl | rfl | rfl | rfl | rfl <;> simp only [Nat.reducePow] <;> omega
theorem pcN_hi {a b : Nat} (hb : b < 256) : ∀ j, pcN (256 * a + b) (8 + j) = pcN (256 * a + b) 8 + pcN a j
  | 0 => rfl
  | j + 1 => by
    show pcN (256 * a + b) (8 + j) + (256 * a + b) / 2 ^ (8 + j) % 2 = pcN (256 * a + b) 8 + (pcN a j + a / 2 ^ j % 2)
    rw [pcN_hi hb j, Nat.pow_add, ← Nat.div_div_eq_div_mul, show (256 * a + b) / 2 ^ 8 = a by simp only [Nat.reducePow]; omega, Nat.add_assoc]
theorem bcN16 {n : Nat} (hn : n < 65536) : bcN n = pcN n 16 := by
  obtain ⟨a, b, rfl, ha, hb⟩ : ∃ a b, n = 256 * a + b ∧ a < 256 ∧ b < 256 := ⟨n / 256, n % 256, by omega, by omega, Nat.mod_lt _ (by decide)⟩
  obtain ⟨p1, p2, p3⟩ := pb_a a ha
  obtain ⟨q1, q2, q3⟩ := pb_a b hb
  have e1 : bc1 (256 * a + b) = 256 * pb1 a + pb1 b := by
    have s : (256 * a + b) >>> 1 = 256 * (a / 2) + (128 * (a % 2) + b / 2) := by
      rw [Nat.shiftRight_eq_div_pow]; simp only [Nat.reducePow]; omega
    have m : Nat.land ((256 * a + b) >>> 1) 1431655765 = 256 * Nat.land (a / 2) 85 + Nat.land (b / 2) 85 := by
      rw [s, show (1431655765 : Nat) = 256 * 5592405 + 85 from rfl, land_sp (by omega) (by decide), q3 _ (Nat.mod_lt _ (by decide)), show (5592405 : Nat) = 256 * 21845 + 85 from rfl, land_0 (by omega) (by decide)]
    unfold bc1 nSub pb1
    rw [m]
    omega
  have ed : pb3 (pb2 (pb1 a)) = pcN a 8 := pb_d a ha
  have ed' : pb3 (pb2 (pb1 b)) = pcN b 8 := pb_d b hb
  obtain ⟨r1, r2, _⟩ := pb_b a ha
  obtain ⟨s1, s2, s3⟩ := pb_b b hb
  generalize pb1 a = a1 at e1 p2 ed r1 r2
  generalize pb1 b = b1 at e1 q2 ed' s1 s2 s3
  have e2 : bc2 (256 * a1 + b1) = 256 * pb2 a1 + pb2 b1 := by
    have s : (256 * a1 + b1) >>> 2 = 256 * (a1 / 4) + (64 * (a1 % 4) + b1 / 4) := by
      rw [Nat.shiftRight_eq_div_pow]; simp only [Nat.reducePow]; omega
    have m : Nat.land ((256 * a1 + b1) >>> 2) 858993459 = 256 * Nat.land (a1 / 4) 51 + Nat.land (b1 / 4) 51 := by
      rw [s, show (858993459 : Nat) = 256 * 3355443 + 51 from rfl, land_sp (by omega) (by decide), s3 _ (Nat.mod_lt _ (by decide)), show (3355443 : Nat) = 256 * 13107 + 51 from rfl, land_0 (by omega) (by decide)]
    have m2 : Nat.land (256 * a1 + b1) 858993459 = 256 * Nat.land a1 51 + Nat.land b1 51 := by
      rw [show (858993459 : Nat) = 256 * 3355443 + 51 from rfl, land_sp (by omega) (by decide), show (3355443 : Nat) = 256 * 13107 + 51 from rfl, land_0 (by omega) (by decide)]
    unfold pb2 at r1 s1
    unfold bc2 nAdd pb2
    rw [m, m2, Nat.mod_eq_of_lt (by omega)]
    omega
  generalize pb2 a1 = a2 at e2 r1 r2 ed
  generalize pb2 b1 = b2 at e2 s1 s2 ed'
  obtain ⟨t1, t2⟩ := pb_c a2 (by omega)
  obtain ⟨u1, u2⟩ := pb_c b2 (by omega)
  have e3 : bc3 (256 * a2 + b2) = 256 * pb3 a2 + pb3 b2 := by
    have s : nAdd (256 * a2 + b2) ((256 * a2 + b2) >>> 4) = 256 * (a2 + a2 / 16) + (b2 + b2 / 16 + 16 * (a2 % 16)) := by
      unfold nAdd
      rw [Nat.shiftRight_eq_div_pow]
      simp only [Nat.reducePow]
      rw [Nat.mod_eq_of_lt (by omega)]
      omega
    unfold bc3
    rw [s, show (252645135 : Nat) = 256 * 986895 + 15 from rfl, land_sp (by omega) (by decide), u2 _ (by omega), show (986895 : Nat) = 256 * 3855 + 15 from rfl, land_0 (by omega) (by decide)]
    rfl
  generalize pb3 a2 = a3 at e3 t1 ed
  generalize pb3 b2 = b3 at e3 u1 ed'
  have e4 : bc4 (256 * a3 + b3) = 256 * a3 + (b3 + a3) := by
    unfold bc4 nAdd
    rw [Nat.shiftRight_eq_div_pow]
    simp only [Nat.reducePow]
    rw [Nat.mod_eq_of_lt (by omega)]
    omega
  have e5 : bc5 (256 * a3 + (b3 + a3)) = b3 + a3 := by
    have s : nAdd (256 * a3 + (b3 + a3)) ((256 * a3 + (b3 + a3)) >>> 16) = 256 * a3 + (b3 + a3) := by
      unfold nAdd
      rw [Nat.shiftRight_eq_div_pow]
      simp only [Nat.reducePow]
      rw [Nat.mod_eq_of_lt (by omega)]
      omega
    unfold bc5
    rw [s, show (63 : Nat) = 256 * 0 + 63 from rfl, land_sp (by omega) (by decide), show Nat.land a3 0 = 0 from Nat.and_zero a3, pb_e _ (by omega)]
    omega
  have e6 : pcN (256 * a + b) 16 = pcN b 8 + pcN a 8 := by
    have := pcN_hi (a := a) (b := b) hb 8
    rw [this, pcN_lo 8 (Nat.le_refl _)]
  unfold bcN
  rw [e1, e2, e3, e4, e5, e6, ← ed, ← ed']
theorem bc_eq16 {x : Int32} (h : 0 ≤ x.toInt ∧ x.toInt ≤ 65535) : bc32 x = bcs x 31 := by
  apply nJn_inj
  have h1 := (i32_nn h.1).2
  have h2 : nJn x < 65536 := by
    show x.toBitVec.toNat < 65536
    omega
  rw [nJn_bc, nJn_bcs x 31 (by decide), bcN16 h2]
  exact (pcN_st (m := 16) h2 15).symm
theorem bcs_jS (x : Int32) : ∀ j, bcs x j = jS (fun k => bj (tb x k)) j
  | 0 => rfl
  | j + 1 => by
    show bcs x j + b2 (tb x j = true) = jS (fun k => bj (tb x k)) j + bj (tb x j)
    rw [bcs_jS x j, bj_b2]
theorem jS_trunc {f : Nat → Int32} {m : Nat} (h : ∀ k, m ≤ k → f k = 0) : ∀ j, jS f (m + j) = jS f m
  | 0 => rfl
  | j + 1 => by
    show jS f (m + j) + f (m + j) = _
    rw [jS_trunc h j, h (m + j) (by omega), Int32.add_zero]
theorem bc_w {x : Int32} {m : Nat} (hm : m ≤ 16) (h : ∀ k, m ≤ k → tb x k = false) : bc32 x = jS (fun k => bj (tb x k)) m := by
  have h1 := tb_small (x := x) (m := 16) (by decide) (fun k hk => h k (by omega))
  rw [bc_eq16 (by omega), bcs_jS]
  have := jS_trunc (f := fun k => bj (tb x k)) (m := m) (fun k hk => by rw [h k hk]; rfl) (31 - m)
  rw [show m + (31 - m) = 31 by omega] at this
  exact this
/-- how many keys are wished for a door, of the model -/
theorem cnt_226 {I : Nat → Nat → Int32} {d : Nat} (hd : d < 32) : ∀ m j x, j + m < 1000 → G_226 I (Int32.ofNat d) j x m = x + jS (fun k => bj (tb (I 88 (j + k)) d)) m
  | 0, _, x, _ => (Int32.add_zero x).symm
  | m + 1, j, x, h => by
    unfold G_226
    rw [ofN_clamp (by omega), hs_oN hd, bj_b2, cnt_226 hd m (j + 1) _ (by omega)]
    have e : jS (fun k => bj (tb (I 88 (j + k)) d)) (m + 1) = bj (tb (I 88 j) d) + jS (fun k => bj (tb (I 88 (j + 1 + k)) d)) m := by
      have sh : ∀ n, jS (fun k => bj (tb (I 88 (j + k)) d)) (n + 1) = bj (tb (I 88 j) d) + jS (fun k => bj (tb (I 88 (j + 1 + k)) d)) n := fun n => by
        induction n with
        | zero => show (0 : Int32) + bj (tb (I 88 (j + 0)) d) = bj (tb (I 88 j) d) + 0; rw [Int32.zero_add, Int32.add_zero]; rfl
        | succ n ih =>
          show jS (fun k => bj (tb (I 88 (j + k)) d)) (n + 1) + bj (tb (I 88 (j + (n + 1))) d) = bj (tb (I 88 j) d) + (jS (fun k => bj (tb (I 88 (j + 1 + k)) d)) n + bj (tb (I 88 (j + 1 + n)) d))
          rw [ih, Int32.add_assoc, show j + (n + 1) = j + 1 + n by omega]
      exact sh m
    rw [e, Int32.add_assoc]
/-- .. and of the class -/
theorem wish_cnt {I : Nat → Nat → Int32} {L : Nat → Nat → Int64} {R : Nat → Nat} (h : RK I L R) {d : Nat} (hd : d < ndI I) : bc32 (I (R d) 1) = G_226 I (Int32.ofNat d) 0 0 (nkI I) := by
  have hm := h.mi
  have h1 := hm.db
  have h2 := hm.kb
  rw [cnt_226 (by omega) _ _ _ (by omega), Int32.zero_add, bc_w h2 (fun k hk => ?_)]
  · refine jS_ext (fun k hk => ?_)
    rw [h.wi d k (by omega) (by omega), Nat.zero_add]
  · by_cases g : k < 16
    · rw [h.wi d k (by omega) g]
      exact Bool.eq_false_iff.mpr (fun z => absurd (hm.wu d k g z).1 (by omega))
    · exact h.w0 d k (by omega) (by omega)
/-! adding a key, of the model -/
noncomputable def adP (I : Nat → Nat → Int32) (D : Int32) (J : Nat → Nat → Int32) (v : Int32) : Prop := ∀ nk nc, I 85 35 = Int32.ofNat nk → nk < 16 → I 85 31 = Int32.ofNat nc → nc ≤ 6 → v = Int32.ofNat nk ∧ J 85 35 = Int32.ofNat (nk + 1) ∧ J 88 nk = D ∧ J 95 nk = I 85 43 ∧ (∀ c, c < nc → J 86 (6 * nk + c) = I 91 c) ∧ ∀ a b, ¬ ((a = 85 ∧ b = 35) ∨ (a = 88 ∧ b = nk) ∨ (a = 95 ∧ b = nk) ∨ (a = 86 ∧ 6 * nk ≤ b)) → J a b = I a b
theorem sem_218 {I : Nat → Nat → Int32} {D : Int32} {nk nc : Nat} (ek : I 85 35 = Int32.ofNat nk) (hk : nk < 16) (ec : I 85 31 = Int32.ofNat nc) (hc : nc ≤ 6) : ∀ n J j r, j ≤ nc → (∀ a b, ¬ (a = 86 ∧ 6 * nk ≤ b) → J a b = I a b) → (∀ c, c < j → J 86 (6 * nk + c) = I 91 c) → F_218 n 2 J D (Int32.ofNat j) = some r → r.1 = Int32.ofNat nk ∧ r.2 85 35 = Int32.ofNat (nk + 1) ∧ r.2 88 nk = D ∧ r.2 95 nk = I 85 43 ∧ (∀ c, c < nc → r.2 86 (6 * nk + c) = I 91 c) ∧ ∀ a b, ¬ ((a = 85 ∧ b = 35) ∨ (a = 88 ∧ b = nk) ∨ (a = 95 ∧ b = nk) ∨ (a = 86 ∧ 6 * nk ≤ b)) → r.2 a b = I a b
  | 0, _, _, _, _, _, _, h => by cases h
  | n + 1, J, j, r, hj, ha, hd, h => by
    have e1 : J 85 35 = Int32.ofNat nk := (ha 85 35 (by omega)).trans ek
    simp only [F_218, reduceIte] at h
    rw [ha 85 31 (by omega), ec, e1, ofN_clamp (by omega)] at h
    by_cases g : Int32.ofNat nc ≤ Int32.ofNat j
    · rw [if_pos g] at h
      have := (oN_le (by omega) (by omega)).mp g
      cases h
      dsimp only
      refine ⟨i32_p1m1 _, ?_, ?_, ?_, fun c hc' => ?_, fun a b hn => ?_⟩
      · rw [upI_s, oN_s]
      · rw [upI_ne (by omega), upI_ne (by omega), upI_s]
      · rw [upI_ne (by omega), upI_s]; exact ha 85 43 (by omega)
      · rw [upI_ne (by omega), upI_ne (by omega), upI_ne (by omega)]
        exact hd c (by omega)
      · rw [upI_ne (by omega), upI_ne (by omega), upI_ne (by omega)]
        exact ha a b (by omega)
    · rw [if_neg g, oN_6, ofN_clamp (by omega), ofN_clamp (by omega), oN_s, ha 91 j (by omega)] at h
      have := mt (oN_le (by omega) (by omega)).mpr g
      refine sem_218 ek hk ec hc n _ (j + 1) r (by omega) (fun a b hn => ?_) (fun c hc' => ?_) h
      · rw [upI_ne (by omega)]; exact ha a b hn
      · by_cases e : c = j
        · subst e; exact upI_s
        · rw [upI_ne (by omega)]; exact hd c (by omega)
theorem sp_218 {h : sH} {r : sR} {D : Int32} {I : Nat → Nat → Int32} {L : Nat → Nat → Int64} {R : Nat → Nat} (th : qH h I L R) (g : qGo 218 [.ref (85), .int D] h r) : ∃ v J h1, r = (.inl (some (.int v)), h1) ∧ qH h1 J L R ∧ adP I D J v := by
  refine qg_218 (Q := fun r => ∃ v J h1, r = (.inl (some (.int v)), h1) ∧ qH h1 J L R ∧ adP I D J v) g (fun N lv hl => ?_)
  refine qW_mono ?_ (fl_218 N I D 0 lv h th hl)
  intro r ⟨n, x, e, h1, q1, q2⟩
  exact ⟨x.1, x.2, h1, q1, q2, fun nk nc ek hk ec hc => sem_218 ek hk ec hc n I 0 x (Nat.zero_le _) (fun _ _ _ => rfl) (fun c hc => absurd hc (Nat.not_lt_zero c)) e⟩
/-! wishes of a key at some doors, of the class -/
noncomputable def wsP (I : Nat → Nat → Int32) (R : Nat → Nat) (D a2 a3 : Int32) (J : Nat → Nat → Int32) : Prop := (∀ d, d < 10 → 35 ≤ R d ∧ R d ≤ 44) → (∀ d e, d < 10 → e < 10 → R d = R e → d = e) → ∀ nd k, I 0 10 = Int32.ofNat nd → nd ≤ 10 → a2 = Int32.ofNat k → k < 32 → (∀ a b, ¬ (35 ≤ a ∧ a ≤ 44 ∧ b = 1) → J a b = I a b) ∧ ∀ d j, d < 10 → tb (J (R d) 1) j = if j = k ∧ d < nd ∧ tb D d = true then decide (¬ a3 = 0) else tb (I (R d) 1) j
theorem sem_98 {I : Nat → Nat → Int32} {R : Nat → Nat} {D a3 : Int32} {nd k : Nat} (hR : ∀ d, d < 10 → 35 ≤ R d ∧ R d ≤ 44) (hi : ∀ d e, d < 10 → e < 10 → R d = R e → d = e) (ed : I 0 10 = Int32.ofNat nd) (hd : nd ≤ 10) (hk : k < 32) : ∀ n J j r, j ≤ nd → (∀ a b, ¬ (35 ≤ a ∧ a ≤ 44 ∧ b = 1) → J a b = I a b) → (∀ d i, d < 10 → tb (J (R d) 1) i = if i = k ∧ d < j ∧ tb D d = true then decide (¬ a3 = 0) else tb (I (R d) 1) i) → F_98 R n 3 J D (Int32.ofNat k) a3 (Int32.ofNat j) = some r → (∀ a b, ¬ (35 ≤ a ∧ a ≤ 44 ∧ b = 1) → r.2 a b = I a b) ∧ ∀ d i, d < 10 → tb (r.2 (R d) 1) i = if i = k ∧ d < nd ∧ tb D d = true then decide (¬ a3 = 0) else tb (I (R d) 1) i
  | 0, _, _, _, _, _, _, h => by cases h
  | n + 1, J, j, r, hj, ha, hb, h => by
    simp only [F_98, reduceIte] at h
    rw [ha 0 10 (by omega), ed] at h
    by_cases g : Int32.ofNat nd ≤ Int32.ofNat j
    · rw [if_pos g] at h
      have := (oN_le (by omega) (by omega)).mp g
      have ej : j = nd := by omega
      subst ej
      cases h
      exact ⟨ha, hb⟩
    · have gj := mt (oN_le (by omega) (by omega)).mpr g
      rw [if_neg g, ofN_clamp (by omega), oN_s, hs_oN (by omega)] at h
      have hr := hR j (by omega)
      by_cases g2 : tb D j = true
      · rw [if_pos g2] at h
        refine sem_98 hR hi ed hd hk n _ (j + 1) r (by omega) (fun a b hn => ?_) (fun d i hd' => ?_) h
        · rw [upI_ne (fun q => hn ⟨by omega, by omega, q.2⟩)]; exact ha a b hn
        · by_cases e : d = j
          · subst e
            rw [upI_s, tb_xW, shD_nat hk, hb d i hd']
            by_cases e2 : i = k
            · rw [if_pos e2, if_pos ⟨e2, by omega, g2⟩]
            · rw [if_neg e2, if_neg (fun q => e2 q.1), if_neg (fun q => e2 q.1)]
          · rw [upI_ne (fun q => e (hi d j hd' (by omega) q.1)), hb d i hd']
            by_cases e2 : i = k ∧ d < j ∧ tb D d = true
            · rw [if_pos e2, if_pos ⟨e2.1, by omega, e2.2.2⟩]
            · rw [if_neg e2, if_neg (fun q => e2 ⟨q.1, by omega, q.2.2⟩)]
      · rw [if_neg g2] at h
        refine sem_98 hR hi ed hd hk n J (j + 1) r (by omega) ha (fun d i hd' => ?_) h
        rw [hb d i hd']
        by_cases e2 : i = k ∧ d < j ∧ tb D d = true
        · rw [if_pos e2, if_pos ⟨e2.1, by omega, e2.2.2⟩]
        · rw [if_neg e2, if_neg (fun q => by
            by_cases e : d = j
            · exact g2 (e ▸ q.2.2)
            · exact e2 ⟨q.1, by omega, q.2.2⟩)]
theorem sp_98 {h : sH} {r : sR} {D a2 a3 : Int32} {I : Nat → Nat → Int32} {L : Nat → Nat → Int64} {R : Nat → Nat} (th : qH h I L R) (g : qGo 98 [.ref (0), .int D, .int a2, .int a3] h r) : ∃ J h1, r = (.inl none, h1) ∧ qH h1 J L R ∧ wsP I R D a2 a3 J := by
  refine qg_98 (Q := fun r => ∃ J h1, r = (.inl none, h1) ∧ qH h1 J L R ∧ wsP I R D a2 a3 J) g (fun N lv hl => ?_)
  refine qW_mono ?_ (fl_98 N I D a2 a3 0 lv h th hl)
  intro r ⟨n, x, e, h1, q1, q2⟩
  refine ⟨x.2, h1, q1, q2, fun hR hi nd k ed hd ek hk => ?_⟩
  rw [ek] at e
  exact sem_98 hR hi ed hd hk n I 0 x (Nat.zero_le _) (fun _ _ _ => rfl) (fun d i _ => (if_neg (fun q => absurd q.2.1 (Nat.not_lt_zero d))).symm) e
/-! scratch of the class's calls -/
theorem cw_ag {I J : Nat → Nat → Int32} {L : Nat → Nat → Int64} {R : Nat → Nat} (h : RK I L R) {x : Int64} {lim v : Int32} (e : cwP I x lim J v) : agS J I := agW_S (e (mdI I) (ncI I) (by rw [h.dp]; rfl) h.c1 h.mi.m6 h.mi.c6 (by have := h.mi.c3; omega)).1
theorem srS {I J : Nat → Nat → Int32} {L K : Nat → Nat → Int64} {R : Nat → Nat} {D rep blk : Int32} {v : Int64} (e : srP I L R D rep blk J K v) : agS J I := fun a b hn => e.1 a b (fun z => hn (by unfold scr; omega))
theorem csS {I J : Nat → Nat → Int32} {L : Nat → Nat → Int64} {R : Nat → Nat} (h : RK I L R) {a0 a1 a2 : Int32} {v : Int64} (h0 : ¬ a0 < 0) (h1 : a0 < I 0 9) (e : csP I L a0 a1 a2 J v) : agS J I := by
  obtain ⟨k, hk, rfl⟩ := h.gk h0 h1
  exact agW_S (e R h k hk rfl).1
/-- the pins of a door are laid -/
theorem lay_E {I J : Nat → Nat → Int32} {L : Nat → Nat → Int64} {R : Nat → Nat} (h : RK I L R) {d : Nat} (hd : d < ndI I) (e : layP I (Int32.ofNat d) J) : agr 106 J I ∧ RK J L R ∧ J 85 42 = I 85 42 := by
  have := h.mi.db
  have g := (lay_get h.mi (show d < 32 by omega) e).1
  exact ⟨g, RK_s h (agS_r g) (fun _ _ => rfl) rfl (fun _ => rfl), g 85 42 (by decide)⟩
end
