/-! part 72: the relation of keys and doors when cells change (printed by wip/q/rkup.py) -/
theorem MI_up_0 {I J : Nat → Nat → Int32} (hm : MI I) (e : ∀ a b, ¬ scr a b → J a b = I a b) : MI J := by
  have e86 : ∀ b, J 86 b = I 86 b := fun b => e 86 b (by unfold scr; omega)
  have e87 : ∀ b, J 87 b = I 87 b := fun b => e 87 b (by unfold scr; omega)
  have e88 : ∀ b, J 88 b = I 88 b := fun b => e 88 b (by unfold scr; omega)
  have e89 : ∀ b, J 89 b = I 89 b := fun b => e 89 b (by unfold scr; omega)
  have e90 : ∀ b, J 90 b = I 90 b := fun b => e 90 b (by unfold scr; omega)
  have e92 : ∀ b, J 92 b = I 92 b := fun b => e 92 b (by unfold scr; omega)
  have e95 : ∀ b, J 95 b = I 95 b := fun b => e 95 b (by unfold scr; omega)
  have e96 : ∀ b, J 96 b = I 96 b := fun b => e 96 b (by unfold scr; omega)
  have e97 : ∀ b, J 97 b = I 97 b := fun b => e 97 b (by unfold scr; omega)
  have e98 : ∀ b, J 98 b = I 98 b := fun b => e 98 b (by unfold scr; omega)
  have e104 : ∀ b, J 104 b = I 104 b := fun b => e 104 b (by unfold scr; omega)
  have e105 : ∀ b, J 105 b = I 105 b := fun b => e 105 b (by unfold scr; omega)
  have q_nk : nkI J = nkI I := by unfold nkI; rw [e 85 35 (by unfold scr; omega)]
  have q_nd : ndI J = ndI I := by unfold ndI; rw [e 85 36 (by unfold scr; omega)]
  have q_nc : ncI J = ncI I := by unfold ncI; rw [e 85 31 (by unfold scr; omega)]
  have q_md : mdI J = mdI I := by unfold mdI; rw [e 85 32 (by unfold scr; omega)]
  have q_sz : szI J = szI I := by unfold szI; rw [e 85 34 (by unfold scr; omega)]
  have q_nb : nbI J = nbI I := by unfold nbI; rw [e 85 46 (by unfold scr; omega)]
  have q_ca : cA J = cA I := by funext d e2; unfold cA; rw [e 85 33 (by unfold scr; omega)]
  have q_dp : dpM J = dpM I := by funext k c; unfold dpM; rw [e86]
  refine ⟨?_, ?_, ?_, ?_, ?_, ?_, ?_, ?_, ?_, ?_, ?_, ?_, ?_, ?_, ?_, ?_, ?_, ?_, ?_, ?_, ?_, ?_, ?_, ?_, ?_, ?_, ?_⟩
  · rw [e 85 35 (by unfold scr; omega), q_nk]; exact hm.k
  · simp only [e86, e87, e88, e89, e90, e92, e95, e96, e97, e98, e104, e105, q_nk, q_nd, q_nc, q_md, q_sz, q_nb, q_ca, q_dp]; exact hm.kb
  · rw [e 85 36 (by unfold scr; omega), q_nd]; exact hm.d
  · simp only [e86, e87, e88, e89, e90, e92, e95, e96, e97, e98, e104, e105, q_nk, q_nd, q_nc, q_md, q_sz, q_nb, q_ca, q_dp]; exact hm.db
  · rw [e 85 31 (by unfold scr; omega), q_nc]; exact hm.c
  · simp only [e86, e87, e88, e89, e90, e92, e95, e96, e97, e98, e104, e105, q_nk, q_nd, q_nc, q_md, q_sz, q_nb, q_ca, q_dp]; exact hm.c3
  · simp only [e86, e87, e88, e89, e90, e92, e95, e96, e97, e98, e104, e105, q_nk, q_nd, q_nc, q_md, q_sz, q_nb, q_ca, q_dp]; exact hm.c6
  · rw [e 85 32 (by unfold scr; omega), q_md]; exact hm.m
  · simp only [e86, e87, e88, e89, e90, e92, e95, e96, e97, e98, e104, e105, q_nk, q_nd, q_nc, q_md, q_sz, q_nb, q_ca, q_dp]; exact hm.m2
  · simp only [e86, e87, e88, e89, e90, e92, e95, e96, e97, e98, e104, e105, q_nk, q_nd, q_nc, q_md, q_sz, q_nb, q_ca, q_dp]; exact hm.m6
  · rw [e 85 34 (by unfold scr; omega), q_sz]; exact hm.s
  · simp only [e86, e87, e88, e89, e90, e92, e95, e96, e97, e98, e104, e105, q_nk, q_nd, q_nc, q_md, q_sz, q_nb, q_ca, q_dp]; exact hm.sc
  · rw [e 85 46 (by unfold scr; omega), q_nb]; exact hm.b
  · simp only [e86, e87, e88, e89, e90, e92, e95, e96, e97, e98, e104, e105, q_nk, q_nd, q_nc, q_md, q_sz, q_nb, q_ca, q_dp]; exact hm.bb
  · rw [e 85 33 (by unfold scr; omega)]; exact hm.ap
  · simp only [e86, e87, e88, e89, e90, e92, e95, e96, e97, e98, e104, e105, q_nk, q_nd, q_nc, q_md, q_sz, q_nb, q_ca, q_dp]; exact hm.dep
  · simp only [e86, e87, e88, e89, e90, e92, e95, e96, e97, e98, e104, e105, q_nk, q_nd, q_nc, q_md, q_sz, q_nb, q_ca, q_dp]; exact hm.near
  · simp only [e86, e87, e88, e89, e90, e92, e95, e96, e97, e98, e104, e105, q_nk, q_nd, q_nc, q_md, q_sz, q_nb, q_ca, q_dp]; exact hm.told
  · simp only [e86, e87, e88, e89, e90, e92, e95, e96, e97, e98, e104, e105, q_nk, q_nd, q_nc, q_md, q_sz, q_nb, q_ca, q_dp]; exact hm.toldn
  · simp only [e86, e87, e88, e89, e90, e92, e95, e96, e97, e98, e104, e105, q_nk, q_nd, q_nc, q_md, q_sz, q_nb, q_ca, q_dp]; exact hm.bs
  · simp only [e86, e87, e88, e89, e90, e92, e95, e96, e97, e98, e104, e105, q_nk, q_nd, q_nc, q_md, q_sz, q_nb, q_ca, q_dp]; exact hm.bd
  · simp only [e86, e87, e88, e89, e90, e92, e95, e96, e97, e98, e104, e105, q_nk, q_nd, q_nc, q_md, q_sz, q_nb, q_ca, q_dp]; exact hm.bp
  · simp only [e86, e87, e88, e89, e90, e92, e95, e96, e97, e98, e104, e105, q_nk, q_nd, q_nc, q_md, q_sz, q_nb, q_ca, q_dp]; exact hm.rb
  · simp only [e86, e87, e88, e89, e90, e92, e95, e96, e97, e98, e104, e105, q_nk, q_nd, q_nc, q_md, q_sz, q_nb, q_ca, q_dp]; exact hm.ru
  · simp only [e86, e87, e88, e89, e90, e92, e95, e96, e97, e98, e104, e105, q_nk, q_nd, q_nc, q_md, q_sz, q_nb, q_ca, q_dp]; exact hm.wu
  · simp only [e86, e87, e88, e89, e90, e92, e95, e96, e97, e98, e104, e105, q_nk, q_nd, q_nc, q_md, q_sz, q_nb, q_ca, q_dp]; exact hm.wf
  · simp only [e86, e87, e88, e89, e90, e92, e95, e96, e97, e98, e104, e105, q_nk, q_nd, q_nc, q_md, q_sz, q_nb, q_ca, q_dp]; exact hm.hu
theorem RK_up_0 {I J : Nat → Nat → Int32} {L K : Nat → Nat → Int64} {R : Nat → Nat} (h : RK I L R) (e : ∀ a b, ¬ scr a b → J a b = I a b) (eL0 : ∀ k, k < 16 → K (19 + k) 0 = L (19 + k) 0) (eL1 : K 1 5 = L 1 5) (eL15 : ∀ b, K 15 b = L 15 b) (m : MI J) : RK J K R := by
  have e86 : ∀ b, J 86 b = I 86 b := fun b => e 86 b (by unfold scr; omega)
  have e87 : ∀ b, J 87 b = I 87 b := fun b => e 87 b (by unfold scr; omega)
  have e88 : ∀ b, J 88 b = I 88 b := fun b => e 88 b (by unfold scr; omega)
  have e89 : ∀ b, J 89 b = I 89 b := fun b => e 89 b (by unfold scr; omega)
  have e90 : ∀ b, J 90 b = I 90 b := fun b => e 90 b (by unfold scr; omega)
  have e92 : ∀ b, J 92 b = I 92 b := fun b => e 92 b (by unfold scr; omega)
  have e95 : ∀ b, J 95 b = I 95 b := fun b => e 95 b (by unfold scr; omega)
  have e96 : ∀ b, J 96 b = I 96 b := fun b => e 96 b (by unfold scr; omega)
  have e97 : ∀ b, J 97 b = I 97 b := fun b => e 97 b (by unfold scr; omega)
  have e98 : ∀ b, J 98 b = I 98 b := fun b => e 98 b (by unfold scr; omega)
  have e104 : ∀ b, J 104 b = I 104 b := fun b => e 104 b (by unfold scr; omega)
  have e105 : ∀ b, J 105 b = I 105 b := fun b => e 105 b (by unfold scr; omega)
  have q_nk : nkI J = nkI I := by unfold nkI; rw [e 85 35 (by unfold scr; omega)]
  have q_nd : ndI J = ndI I := by unfold ndI; rw [e 85 36 (by unfold scr; omega)]
  have q_nc : ncI J = ncI I := by unfold ncI; rw [e 85 31 (by unfold scr; omega)]
  have q_md : mdI J = mdI I := by unfold mdI; rw [e 85 32 (by unfold scr; omega)]
  have q_sz : szI J = szI I := by unfold szI; rw [e 85 34 (by unfold scr; omega)]
  have q_nb : nbI J = nbI I := by unfold nbI; rw [e 85 46 (by unfold scr; omega)]
  have q_dp : dpM J = dpM I := by funext k c; unfold dpM; rw [e86]
  have hkb := h.mi.kb
  have f1 : ∀ k, k < 16 → J (19 + k) 1 = I (19 + k) 1 := fun k hk => e (19 + k) 1 (by unfold scr; omega)
  have f2 : ∀ k, k < 16 → J (19 + k) 2 = I (19 + k) 2 := fun k hk => e (19 + k) 2 (by unfold scr; omega)
  have f3 : ∀ k, k < 16 → J (19 + k) 3 = I (19 + k) 3 := fun k hk => e (19 + k) 3 (by unfold scr; omega)
  have f4 : ∀ k, k < 16 → J (19 + k) 4 = I (19 + k) 4 := fun k hk => e (19 + k) 4 (by unfold scr; omega)
  have f5 : ∀ k, k < 16 → J (19 + k) 5 = I (19 + k) 5 := fun k hk => e (19 + k) 5 (by unfold scr; omega)
  have g0 : ∀ d, d < 10 → J (R d) 0 = I (R d) 0 := fun d hd => by
    have := h.rr d hd
    exact e (R d) 0 (by unfold scr; omega)
  have g1 : ∀ d, d < 10 → J (R d) 1 = I (R d) 1 := fun d hd => by
    have := h.rr d hd
    exact e (R d) 1 (by unfold scr; omega)
  have g2 : ∀ d, d < 10 → J (R d) 2 = I (R d) 2 := fun d hd => by
    have := h.rr d hd
    exact e (R d) 2 (by unfold scr; omega)
  refine ⟨m, ?_, ?_, ?_, ?_, ?_, ?_, ?_, ?_, ?_, ?_, ?_, ?_, ?_, ?_, ?_, ?_, ?_, ?_, ?_, ?_, ?_, ?_⟩
  · exact by rw [e 1 1 (by unfold scr; omega), e 85 31 (by unfold scr; omega)]; exact h.ch
  · exact by rw [e 1 2 (by unfold scr; omega), e 85 32 (by unfold scr; omega)]; exact h.dp
  · exact by rw [e 1 3 (by unfold scr; omega), e 85 33 (by unfold scr; omega)]; exact h.ap
  · exact by rw [e 1 6 (by unfold scr; omega), e 85 34 (by unfold scr; omega)]; exact h.sz
  · exact by rw [e 0 9 (by unfold scr; omega), e 85 35 (by unfold scr; omega)]; exact h.nk
  · exact by rw [e 0 10 (by unfold scr; omega), e 85 36 (by unfold scr; omega)]; exact h.nd
  · exact by rw [e 0 17 (by unfold scr; omega), e 85 44 (by unfold scr; omega)]; exact h.ct
  · exact by rw [e 0 12 (by unfold scr; omega), e 85 46 (by unfold scr; omega)]; exact h.nb
  · exact fun k hk => by
      rw [q_nk] at hk
      rw [eL0 k (by omega), q_dp, q_nc]; exact h.kc k hk
  · exact fun k hk => by
      rw [q_nk] at hk
      rw [e95, f1 k (by omega)]; exact h.kp k hk
  · exact fun k hk => by rw [e92, f2 k hk]; exact h.kl k hk
  · exact fun k hk => by rw [e89, f4 k hk]; exact h.kh k hk
  · exact fun k hk => by
      rw [q_nk] at hk
      rw [e89, e90, f5 k (by omega)]; exact h.kd k hk
  · exact fun k j hk hj => by
      rw [q_nk] at hk
      rw [f3 k (by omega), q_nk, e96, e96]; exact h.kr k j hk hj
  · exact fun d k hd hk => by rw [g1 d hd, e88]; exact h.wi d k hd hk
  · exact fun d k hd hk => by rw [g1 d hd]; exact h.w0 d k hd hk
  · exact fun d hd => by rw [e97, g0 d hd]; exact h.wa d hd
  · exact fun d hd => by rw [e98, g2 d hd]; exact h.bu d hd
  · exact h.rr
  · exact h.ri
  · exact by rw [eL1, q_sz]; simp only [e87]; exact h.to
  · exact fun b hb => by
      rw [q_nb] at hb
      rw [eL15]; simp only [e104, e105]; exact h.bl b hb
theorem MI_up_door {I J : Nat → Nat → Int32} (hm : MI I) (e : ∀ a b, ¬ scr a b → ¬ ((a = 0 ∧ b = 10) ∨ (a = 85 ∧ b = 36)) → J a b = I a b)
    (n_d : J 85 36 = Int32.ofNat (ndI J))
    (n_db : ndI J ≤ 10)
    (n_wu : ∀ d k, k < 16 → tb (J 88 k) d = true → k < nkI J ∧ d < ndI J) : MI J := by
  have e86 : ∀ b, J 86 b = I 86 b := fun b => e 86 b (by unfold scr; omega) (by omega)
  have e87 : ∀ b, J 87 b = I 87 b := fun b => e 87 b (by unfold scr; omega) (by omega)
  have e88 : ∀ b, J 88 b = I 88 b := fun b => e 88 b (by unfold scr; omega) (by omega)
  have e89 : ∀ b, J 89 b = I 89 b := fun b => e 89 b (by unfold scr; omega) (by omega)
  have e90 : ∀ b, J 90 b = I 90 b := fun b => e 90 b (by unfold scr; omega) (by omega)
  have e92 : ∀ b, J 92 b = I 92 b := fun b => e 92 b (by unfold scr; omega) (by omega)
  have e95 : ∀ b, J 95 b = I 95 b := fun b => e 95 b (by unfold scr; omega) (by omega)
  have e96 : ∀ b, J 96 b = I 96 b := fun b => e 96 b (by unfold scr; omega) (by omega)
  have e97 : ∀ b, J 97 b = I 97 b := fun b => e 97 b (by unfold scr; omega) (by omega)
  have e98 : ∀ b, J 98 b = I 98 b := fun b => e 98 b (by unfold scr; omega) (by omega)
  have e104 : ∀ b, J 104 b = I 104 b := fun b => e 104 b (by unfold scr; omega) (by omega)
  have e105 : ∀ b, J 105 b = I 105 b := fun b => e 105 b (by unfold scr; omega) (by omega)
  have q_nk : nkI J = nkI I := by unfold nkI; rw [e 85 35 (by unfold scr; omega) (by omega)]
  have q_nc : ncI J = ncI I := by unfold ncI; rw [e 85 31 (by unfold scr; omega) (by omega)]
  have q_md : mdI J = mdI I := by unfold mdI; rw [e 85 32 (by unfold scr; omega) (by omega)]
  have q_sz : szI J = szI I := by unfold szI; rw [e 85 34 (by unfold scr; omega) (by omega)]
  have q_nb : nbI J = nbI I := by unfold nbI; rw [e 85 46 (by unfold scr; omega) (by omega)]
  have q_ca : cA J = cA I := by funext d e2; unfold cA; rw [e 85 33 (by unfold scr; omega) (by omega)]
  have q_dp : dpM J = dpM I := by funext k c; unfold dpM; rw [e86]
  refine ⟨?_, ?_, ?_, ?_, ?_, ?_, ?_, ?_, ?_, ?_, ?_, ?_, ?_, ?_, ?_, ?_, ?_, ?_, ?_, ?_, ?_, ?_, ?_, ?_, ?_, ?_, ?_⟩
  · rw [e 85 35 (by unfold scr; omega) (by omega), q_nk]; exact hm.k
  · simp only [e86, e87, e88, e89, e90, e92, e95, e96, e97, e98, e104, e105, q_nk, q_nc, q_md, q_sz, q_nb, q_ca, q_dp]; exact hm.kb
  · exact n_d
  · exact n_db
  · rw [e 85 31 (by unfold scr; omega) (by omega), q_nc]; exact hm.c
  · simp only [e86, e87, e88, e89, e90, e92, e95, e96, e97, e98, e104, e105, q_nk, q_nc, q_md, q_sz, q_nb, q_ca, q_dp]; exact hm.c3
  · simp only [e86, e87, e88, e89, e90, e92, e95, e96, e97, e98, e104, e105, q_nk, q_nc, q_md, q_sz, q_nb, q_ca, q_dp]; exact hm.c6
  · rw [e 85 32 (by unfold scr; omega) (by omega), q_md]; exact hm.m
  · simp only [e86, e87, e88, e89, e90, e92, e95, e96, e97, e98, e104, e105, q_nk, q_nc, q_md, q_sz, q_nb, q_ca, q_dp]; exact hm.m2
  · simp only [e86, e87, e88, e89, e90, e92, e95, e96, e97, e98, e104, e105, q_nk, q_nc, q_md, q_sz, q_nb, q_ca, q_dp]; exact hm.m6
  · rw [e 85 34 (by unfold scr; omega) (by omega), q_sz]; exact hm.s
  · simp only [e86, e87, e88, e89, e90, e92, e95, e96, e97, e98, e104, e105, q_nk, q_nc, q_md, q_sz, q_nb, q_ca, q_dp]; exact hm.sc
  · rw [e 85 46 (by unfold scr; omega) (by omega), q_nb]; exact hm.b
  · simp only [e86, e87, e88, e89, e90, e92, e95, e96, e97, e98, e104, e105, q_nk, q_nc, q_md, q_sz, q_nb, q_ca, q_dp]; exact hm.bb
  · rw [e 85 33 (by unfold scr; omega) (by omega)]; exact hm.ap
  · simp only [e86, e87, e88, e89, e90, e92, e95, e96, e97, e98, e104, e105, q_nk, q_nc, q_md, q_sz, q_nb, q_ca, q_dp]; exact hm.dep
  · simp only [e86, e87, e88, e89, e90, e92, e95, e96, e97, e98, e104, e105, q_nk, q_nc, q_md, q_sz, q_nb, q_ca, q_dp]; exact hm.near
  · simp only [e86, e87, e88, e89, e90, e92, e95, e96, e97, e98, e104, e105, q_nk, q_nc, q_md, q_sz, q_nb, q_ca, q_dp]; exact hm.told
  · simp only [e86, e87, e88, e89, e90, e92, e95, e96, e97, e98, e104, e105, q_nk, q_nc, q_md, q_sz, q_nb, q_ca, q_dp]; exact hm.toldn
  · simp only [e86, e87, e88, e89, e90, e92, e95, e96, e97, e98, e104, e105, q_nk, q_nc, q_md, q_sz, q_nb, q_ca, q_dp]; exact hm.bs
  · simp only [e86, e87, e88, e89, e90, e92, e95, e96, e97, e98, e104, e105, q_nk, q_nc, q_md, q_sz, q_nb, q_ca, q_dp]; exact hm.bd
  · simp only [e86, e87, e88, e89, e90, e92, e95, e96, e97, e98, e104, e105, q_nk, q_nc, q_md, q_sz, q_nb, q_ca, q_dp]; exact hm.bp
  · simp only [e86, e87, e88, e89, e90, e92, e95, e96, e97, e98, e104, e105, q_nk, q_nc, q_md, q_sz, q_nb, q_ca, q_dp]; exact hm.rb
  · simp only [e86, e87, e88, e89, e90, e92, e95, e96, e97, e98, e104, e105, q_nk, q_nc, q_md, q_sz, q_nb, q_ca, q_dp]; exact hm.ru
  · exact n_wu
  · simp only [e86, e87, e88, e89, e90, e92, e95, e96, e97, e98, e104, e105, q_nk, q_nc, q_md, q_sz, q_nb, q_ca, q_dp]; exact hm.wf
  · simp only [e86, e87, e88, e89, e90, e92, e95, e96, e97, e98, e104, e105, q_nk, q_nc, q_md, q_sz, q_nb, q_ca, q_dp]; exact hm.hu
theorem RK_up_door {I J : Nat → Nat → Int32} {L K : Nat → Nat → Int64} {R : Nat → Nat} (h : RK I L R) (e : ∀ a b, ¬ scr a b → ¬ ((a = 0 ∧ b = 10) ∨ (a = 85 ∧ b = 36)) → J a b = I a b) (eL0 : ∀ k, k < 16 → K (19 + k) 0 = L (19 + k) 0) (eL1 : K 1 5 = L 1 5) (eL15 : ∀ b, K 15 b = L 15 b) (m : MI J)
    (n_nd : J 0 10 = J 85 36) : RK J K R := by
  have e86 : ∀ b, J 86 b = I 86 b := fun b => e 86 b (by unfold scr; omega) (by omega)
  have e87 : ∀ b, J 87 b = I 87 b := fun b => e 87 b (by unfold scr; omega) (by omega)
  have e88 : ∀ b, J 88 b = I 88 b := fun b => e 88 b (by unfold scr; omega) (by omega)
  have e89 : ∀ b, J 89 b = I 89 b := fun b => e 89 b (by unfold scr; omega) (by omega)
  have e90 : ∀ b, J 90 b = I 90 b := fun b => e 90 b (by unfold scr; omega) (by omega)
  have e92 : ∀ b, J 92 b = I 92 b := fun b => e 92 b (by unfold scr; omega) (by omega)
  have e95 : ∀ b, J 95 b = I 95 b := fun b => e 95 b (by unfold scr; omega) (by omega)
  have e96 : ∀ b, J 96 b = I 96 b := fun b => e 96 b (by unfold scr; omega) (by omega)
  have e97 : ∀ b, J 97 b = I 97 b := fun b => e 97 b (by unfold scr; omega) (by omega)
  have e98 : ∀ b, J 98 b = I 98 b := fun b => e 98 b (by unfold scr; omega) (by omega)
  have e104 : ∀ b, J 104 b = I 104 b := fun b => e 104 b (by unfold scr; omega) (by omega)
  have e105 : ∀ b, J 105 b = I 105 b := fun b => e 105 b (by unfold scr; omega) (by omega)
  have q_nk : nkI J = nkI I := by unfold nkI; rw [e 85 35 (by unfold scr; omega) (by omega)]
  have q_nc : ncI J = ncI I := by unfold ncI; rw [e 85 31 (by unfold scr; omega) (by omega)]
  have q_md : mdI J = mdI I := by unfold mdI; rw [e 85 32 (by unfold scr; omega) (by omega)]
  have q_sz : szI J = szI I := by unfold szI; rw [e 85 34 (by unfold scr; omega) (by omega)]
  have q_nb : nbI J = nbI I := by unfold nbI; rw [e 85 46 (by unfold scr; omega) (by omega)]
  have q_dp : dpM J = dpM I := by funext k c; unfold dpM; rw [e86]
  have hkb := h.mi.kb
  have f1 : ∀ k, k < 16 → J (19 + k) 1 = I (19 + k) 1 := fun k hk => e (19 + k) 1 (by unfold scr; omega) (by omega)
  have f2 : ∀ k, k < 16 → J (19 + k) 2 = I (19 + k) 2 := fun k hk => e (19 + k) 2 (by unfold scr; omega) (by omega)
  have f3 : ∀ k, k < 16 → J (19 + k) 3 = I (19 + k) 3 := fun k hk => e (19 + k) 3 (by unfold scr; omega) (by omega)
  have f4 : ∀ k, k < 16 → J (19 + k) 4 = I (19 + k) 4 := fun k hk => e (19 + k) 4 (by unfold scr; omega) (by omega)
  have f5 : ∀ k, k < 16 → J (19 + k) 5 = I (19 + k) 5 := fun k hk => e (19 + k) 5 (by unfold scr; omega) (by omega)
  have g0 : ∀ d, d < 10 → J (R d) 0 = I (R d) 0 := fun d hd => by
    have := h.rr d hd
    exact e (R d) 0 (by unfold scr; omega) (by omega)
  have g1 : ∀ d, d < 10 → J (R d) 1 = I (R d) 1 := fun d hd => by
    have := h.rr d hd
    exact e (R d) 1 (by unfold scr; omega) (by omega)
  have g2 : ∀ d, d < 10 → J (R d) 2 = I (R d) 2 := fun d hd => by
    have := h.rr d hd
    exact e (R d) 2 (by unfold scr; omega) (by omega)
  refine ⟨m, ?_, ?_, ?_, ?_, ?_, ?_, ?_, ?_, ?_, ?_, ?_, ?_, ?_, ?_, ?_, ?_, ?_, ?_, ?_, ?_, ?_, ?_⟩
  · exact by rw [e 1 1 (by unfold scr; omega) (by omega), e 85 31 (by unfold scr; omega) (by omega)]; exact h.ch
  · exact by rw [e 1 2 (by unfold scr; omega) (by omega), e 85 32 (by unfold scr; omega) (by omega)]; exact h.dp
  · exact by rw [e 1 3 (by unfold scr; omega) (by omega), e 85 33 (by unfold scr; omega) (by omega)]; exact h.ap
  · exact by rw [e 1 6 (by unfold scr; omega) (by omega), e 85 34 (by unfold scr; omega) (by omega)]; exact h.sz
  · exact by rw [e 0 9 (by unfold scr; omega) (by omega), e 85 35 (by unfold scr; omega) (by omega)]; exact h.nk
  · exact n_nd
  · exact by rw [e 0 17 (by unfold scr; omega) (by omega), e 85 44 (by unfold scr; omega) (by omega)]; exact h.ct
  · exact by rw [e 0 12 (by unfold scr; omega) (by omega), e 85 46 (by unfold scr; omega) (by omega)]; exact h.nb
  · exact fun k hk => by
      rw [q_nk] at hk
      rw [eL0 k (by omega), q_dp, q_nc]; exact h.kc k hk
  · exact fun k hk => by
      rw [q_nk] at hk
      rw [e95, f1 k (by omega)]; exact h.kp k hk
  · exact fun k hk => by rw [e92, f2 k hk]; exact h.kl k hk
  · exact fun k hk => by rw [e89, f4 k hk]; exact h.kh k hk
  · exact fun k hk => by
      rw [q_nk] at hk
      rw [e89, e90, f5 k (by omega)]; exact h.kd k hk
  · exact fun k j hk hj => by
      rw [q_nk] at hk
      rw [f3 k (by omega), q_nk, e96, e96]; exact h.kr k j hk hj
  · exact fun d k hd hk => by rw [g1 d hd, e88]; exact h.wi d k hd hk
  · exact fun d k hd hk => by rw [g1 d hd]; exact h.w0 d k hd hk
  · exact fun d hd => by rw [e97, g0 d hd]; exact h.wa d hd
  · exact fun d hd => by rw [e98, g2 d hd]; exact h.bu d hd
  · exact h.rr
  · exact h.ri
  · exact by rw [eL1, q_sz]; simp only [e87]; exact h.to
  · exact fun b hb => by
      rw [q_nb] at hb
      rw [eL15]; simp only [e104, e105]; exact h.bl b hb
theorem MI_up_wish {I J : Nat → Nat → Int32} (hm : MI I) (e : ∀ a b, ¬ scr a b → ¬ (a = 88 ∨ (35 ≤ a ∧ a ≤ 44 ∧ b = 1)) → J a b = I a b)
    (n_wu : ∀ d k, k < 16 → tb (J 88 k) d = true → k < nkI J ∧ d < ndI J)
    (n_wf : ∀ d k, k < 16 → tb (J 88 k) d = true → (J 95 k &&& J 97 d) = 0) : MI J := by
  have e86 : ∀ b, J 86 b = I 86 b := fun b => e 86 b (by unfold scr; omega) (by omega)
  have e87 : ∀ b, J 87 b = I 87 b := fun b => e 87 b (by unfold scr; omega) (by omega)
  have e89 : ∀ b, J 89 b = I 89 b := fun b => e 89 b (by unfold scr; omega) (by omega)
  have e90 : ∀ b, J 90 b = I 90 b := fun b => e 90 b (by unfold scr; omega) (by omega)
  have e92 : ∀ b, J 92 b = I 92 b := fun b => e 92 b (by unfold scr; omega) (by omega)
  have e95 : ∀ b, J 95 b = I 95 b := fun b => e 95 b (by unfold scr; omega) (by omega)
  have e96 : ∀ b, J 96 b = I 96 b := fun b => e 96 b (by unfold scr; omega) (by omega)
  have e97 : ∀ b, J 97 b = I 97 b := fun b => e 97 b (by unfold scr; omega) (by omega)
  have e98 : ∀ b, J 98 b = I 98 b := fun b => e 98 b (by unfold scr; omega) (by omega)
  have e104 : ∀ b, J 104 b = I 104 b := fun b => e 104 b (by unfold scr; omega) (by omega)
  have e105 : ∀ b, J 105 b = I 105 b := fun b => e 105 b (by unfold scr; omega) (by omega)
  have q_nk : nkI J = nkI I := by unfold nkI; rw [e 85 35 (by unfold scr; omega) (by omega)]
  have q_nd : ndI J = ndI I := by unfold ndI; rw [e 85 36 (by unfold scr; omega) (by omega)]
  have q_nc : ncI J = ncI I := by unfold ncI; rw [e 85 31 (by unfold scr; omega) (by omega)]
  have q_md : mdI J = mdI I := by unfold mdI; rw [e 85 32 (by unfold scr; omega) (by omega)]
  have q_sz : szI J = szI I := by unfold szI; rw [e 85 34 (by unfold scr; omega) (by omega)]
  have q_nb : nbI J = nbI I := by unfold nbI; rw [e 85 46 (by unfold scr; omega) (by omega)]
  have q_ca : cA J = cA I := by funext d e2; unfold cA; rw [e 85 33 (by unfold scr; omega) (by omega)]
  have q_dp : dpM J = dpM I := by funext k c; unfold dpM; rw [e86]
  refine ⟨?_, ?_, ?_, ?_, ?_, ?_, ?_, ?_, ?_, ?_, ?_, ?_, ?_, ?_, ?_, ?_, ?_, ?_, ?_, ?_, ?_, ?_, ?_, ?_, ?_, ?_, ?_⟩
  · rw [e 85 35 (by unfold scr; omega) (by omega), q_nk]; exact hm.k
  · simp only [e86, e87, e89, e90, e92, e95, e96, e97, e98, e104, e105, q_nk, q_nd, q_nc, q_md, q_sz, q_nb, q_ca, q_dp]; exact hm.kb
  · rw [e 85 36 (by unfold scr; omega) (by omega), q_nd]; exact hm.d
  · simp only [e86, e87, e89, e90, e92, e95, e96, e97, e98, e104, e105, q_nk, q_nd, q_nc, q_md, q_sz, q_nb, q_ca, q_dp]; exact hm.db
  · rw [e 85 31 (by unfold scr; omega) (by omega), q_nc]; exact hm.c
  · simp only [e86, e87, e89, e90, e92, e95, e96, e97, e98, e104, e105, q_nk, q_nd, q_nc, q_md, q_sz, q_nb, q_ca, q_dp]; exact hm.c3
  · simp only [e86, e87, e89, e90, e92, e95, e96, e97, e98, e104, e105, q_nk, q_nd, q_nc, q_md, q_sz, q_nb, q_ca, q_dp]; exact hm.c6
  · rw [e 85 32 (by unfold scr; omega) (by omega), q_md]; exact hm.m
  · simp only [e86, e87, e89, e90, e92, e95, e96, e97, e98, e104, e105, q_nk, q_nd, q_nc, q_md, q_sz, q_nb, q_ca, q_dp]; exact hm.m2
  · simp only [e86, e87, e89, e90, e92, e95, e96, e97, e98, e104, e105, q_nk, q_nd, q_nc, q_md, q_sz, q_nb, q_ca, q_dp]; exact hm.m6
  · rw [e 85 34 (by unfold scr; omega) (by omega), q_sz]; exact hm.s
  · simp only [e86, e87, e89, e90, e92, e95, e96, e97, e98, e104, e105, q_nk, q_nd, q_nc, q_md, q_sz, q_nb, q_ca, q_dp]; exact hm.sc
  · rw [e 85 46 (by unfold scr; omega) (by omega), q_nb]; exact hm.b
  · simp only [e86, e87, e89, e90, e92, e95, e96, e97, e98, e104, e105, q_nk, q_nd, q_nc, q_md, q_sz, q_nb, q_ca, q_dp]; exact hm.bb
  · rw [e 85 33 (by unfold scr; omega) (by omega)]; exact hm.ap
  · simp only [e86, e87, e89, e90, e92, e95, e96, e97, e98, e104, e105, q_nk, q_nd, q_nc, q_md, q_sz, q_nb, q_ca, q_dp]; exact hm.dep
  · simp only [e86, e87, e89, e90, e92, e95, e96, e97, e98, e104, e105, q_nk, q_nd, q_nc, q_md, q_sz, q_nb, q_ca, q_dp]; exact hm.near
  · simp only [e86, e87, e89, e90, e92, e95, e96, e97, e98, e104, e105, q_nk, q_nd, q_nc, q_md, q_sz, q_nb, q_ca, q_dp]; exact hm.told
  · simp only [e86, e87, e89, e90, e92, e95, e96, e97, e98, e104, e105, q_nk, q_nd, q_nc, q_md, q_sz, q_nb, q_ca, q_dp]; exact hm.toldn
  · simp only [e86, e87, e89, e90, e92, e95, e96, e97, e98, e104, e105, q_nk, q_nd, q_nc, q_md, q_sz, q_nb, q_ca, q_dp]; exact hm.bs
  · simp only [e86, e87, e89, e90, e92, e95, e96, e97, e98, e104, e105, q_nk, q_nd, q_nc, q_md, q_sz, q_nb, q_ca, q_dp]; exact hm.bd
  · simp only [e86, e87, e89, e90, e92, e95, e96, e97, e98, e104, e105, q_nk, q_nd, q_nc, q_md, q_sz, q_nb, q_ca, q_dp]; exact hm.bp
  · simp only [e86, e87, e89, e90, e92, e95, e96, e97, e98, e104, e105, q_nk, q_nd, q_nc, q_md, q_sz, q_nb, q_ca, q_dp]; exact hm.rb
  · simp only [e86, e87, e89, e90, e92, e95, e96, e97, e98, e104, e105, q_nk, q_nd, q_nc, q_md, q_sz, q_nb, q_ca, q_dp]; exact hm.ru
  · exact n_wu
  · exact n_wf
  · simp only [e86, e87, e89, e90, e92, e95, e96, e97, e98, e104, e105, q_nk, q_nd, q_nc, q_md, q_sz, q_nb, q_ca, q_dp]; exact hm.hu
theorem RK_up_wish {I J : Nat → Nat → Int32} {L K : Nat → Nat → Int64} {R : Nat → Nat} (h : RK I L R) (e : ∀ a b, ¬ scr a b → ¬ (a = 88 ∨ (35 ≤ a ∧ a ≤ 44 ∧ b = 1)) → J a b = I a b) (eL0 : ∀ k, k < 16 → K (19 + k) 0 = L (19 + k) 0) (eL1 : K 1 5 = L 1 5) (eL15 : ∀ b, K 15 b = L 15 b) (m : MI J)
    (n_wi : ∀ d k, d < 10 → k < 16 → tb (J (R d) 1) k = tb (J 88 k) d)
    (n_w0 : ∀ d k, d < 10 → 16 ≤ k → tb (J (R d) 1) k = false) : RK J K R := by
  have e86 : ∀ b, J 86 b = I 86 b := fun b => e 86 b (by unfold scr; omega) (by omega)
  have e87 : ∀ b, J 87 b = I 87 b := fun b => e 87 b (by unfold scr; omega) (by omega)
  have e89 : ∀ b, J 89 b = I 89 b := fun b => e 89 b (by unfold scr; omega) (by omega)
  have e90 : ∀ b, J 90 b = I 90 b := fun b => e 90 b (by unfold scr; omega) (by omega)
  have e92 : ∀ b, J 92 b = I 92 b := fun b => e 92 b (by unfold scr; omega) (by omega)
  have e95 : ∀ b, J 95 b = I 95 b := fun b => e 95 b (by unfold scr; omega) (by omega)
  have e96 : ∀ b, J 96 b = I 96 b := fun b => e 96 b (by unfold scr; omega) (by omega)
  have e97 : ∀ b, J 97 b = I 97 b := fun b => e 97 b (by unfold scr; omega) (by omega)
  have e98 : ∀ b, J 98 b = I 98 b := fun b => e 98 b (by unfold scr; omega) (by omega)
  have e104 : ∀ b, J 104 b = I 104 b := fun b => e 104 b (by unfold scr; omega) (by omega)
  have e105 : ∀ b, J 105 b = I 105 b := fun b => e 105 b (by unfold scr; omega) (by omega)
  have q_nk : nkI J = nkI I := by unfold nkI; rw [e 85 35 (by unfold scr; omega) (by omega)]
  have q_nd : ndI J = ndI I := by unfold ndI; rw [e 85 36 (by unfold scr; omega) (by omega)]
  have q_nc : ncI J = ncI I := by unfold ncI; rw [e 85 31 (by unfold scr; omega) (by omega)]
  have q_md : mdI J = mdI I := by unfold mdI; rw [e 85 32 (by unfold scr; omega) (by omega)]
  have q_sz : szI J = szI I := by unfold szI; rw [e 85 34 (by unfold scr; omega) (by omega)]
  have q_nb : nbI J = nbI I := by unfold nbI; rw [e 85 46 (by unfold scr; omega) (by omega)]
  have q_dp : dpM J = dpM I := by funext k c; unfold dpM; rw [e86]
  have hkb := h.mi.kb
  have f1 : ∀ k, k < 16 → J (19 + k) 1 = I (19 + k) 1 := fun k hk => e (19 + k) 1 (by unfold scr; omega) (by omega)
  have f2 : ∀ k, k < 16 → J (19 + k) 2 = I (19 + k) 2 := fun k hk => e (19 + k) 2 (by unfold scr; omega) (by omega)
  have f3 : ∀ k, k < 16 → J (19 + k) 3 = I (19 + k) 3 := fun k hk => e (19 + k) 3 (by unfold scr; omega) (by omega)
  have f4 : ∀ k, k < 16 → J (19 + k) 4 = I (19 + k) 4 := fun k hk => e (19 + k) 4 (by unfold scr; omega) (by omega)
  have f5 : ∀ k, k < 16 → J (19 + k) 5 = I (19 + k) 5 := fun k hk => e (19 + k) 5 (by unfold scr; omega) (by omega)
  have g0 : ∀ d, d < 10 → J (R d) 0 = I (R d) 0 := fun d hd => by
    have := h.rr d hd
    exact e (R d) 0 (by unfold scr; omega) (by omega)
  have g2 : ∀ d, d < 10 → J (R d) 2 = I (R d) 2 := fun d hd => by
    have := h.rr d hd
    exact e (R d) 2 (by unfold scr; omega) (by omega)
  refine ⟨m, ?_, ?_, ?_, ?_, ?_, ?_, ?_, ?_, ?_, ?_, ?_, ?_, ?_, ?_, ?_, ?_, ?_, ?_, ?_, ?_, ?_, ?_⟩
  · exact by rw [e 1 1 (by unfold scr; omega) (by omega), e 85 31 (by unfold scr; omega) (by omega)]; exact h.ch
  · exact by rw [e 1 2 (by unfold scr; omega) (by omega), e 85 32 (by unfold scr; omega) (by omega)]; exact h.dp
  · exact by rw [e 1 3 (by unfold scr; omega) (by omega), e 85 33 (by unfold scr; omega) (by omega)]; exact h.ap
  · exact by rw [e 1 6 (by unfold scr; omega) (by omega), e 85 34 (by unfold scr; omega) (by omega)]; exact h.sz
  · exact by rw [e 0 9 (by unfold scr; omega) (by omega), e 85 35 (by unfold scr; omega) (by omega)]; exact h.nk
  · exact by rw [e 0 10 (by unfold scr; omega) (by omega), e 85 36 (by unfold scr; omega) (by omega)]; exact h.nd
  · exact by rw [e 0 17 (by unfold scr; omega) (by omega), e 85 44 (by unfold scr; omega) (by omega)]; exact h.ct
  · exact by rw [e 0 12 (by unfold scr; omega) (by omega), e 85 46 (by unfold scr; omega) (by omega)]; exact h.nb
  · exact fun k hk => by
      rw [q_nk] at hk
      rw [eL0 k (by omega), q_dp, q_nc]; exact h.kc k hk
  · exact fun k hk => by
      rw [q_nk] at hk
      rw [e95, f1 k (by omega)]; exact h.kp k hk
  · exact fun k hk => by rw [e92, f2 k hk]; exact h.kl k hk
  · exact fun k hk => by rw [e89, f4 k hk]; exact h.kh k hk
  · exact fun k hk => by
      rw [q_nk] at hk
      rw [e89, e90, f5 k (by omega)]; exact h.kd k hk
  · exact fun k j hk hj => by
      rw [q_nk] at hk
      rw [f3 k (by omega), q_nk, e96, e96]; exact h.kr k j hk hj
  · exact n_wi
  · exact n_w0
  · exact fun d hd => by rw [e97, g0 d hd]; exact h.wa d hd
  · exact fun d hd => by rw [e98, g2 d hd]; exact h.bu d hd
  · exact h.rr
  · exact h.ri
  · exact by rw [eL1, q_sz]; simp only [e87]; exact h.to
  · exact fun b hb => by
      rw [q_nb] at hb
      rw [eL15]; simp only [e104, e105]; exact h.bl b hb
theorem MI_up_lose {I J : Nat → Nat → Int32} (hm : MI I) (e : ∀ a b, ¬ scr a b → ¬ (a = 92 ∨ (19 ≤ a ∧ a ≤ 34 ∧ b = 2)) → J a b = I a b) : MI J := by
  have e86 : ∀ b, J 86 b = I 86 b := fun b => e 86 b (by unfold scr; omega) (by omega)
  have e87 : ∀ b, J 87 b = I 87 b := fun b => e 87 b (by unfold scr; omega) (by omega)
  have e88 : ∀ b, J 88 b = I 88 b := fun b => e 88 b (by unfold scr; omega) (by omega)
  have e89 : ∀ b, J 89 b = I 89 b := fun b => e 89 b (by unfold scr; omega) (by omega)
  have e90 : ∀ b, J 90 b = I 90 b := fun b => e 90 b (by unfold scr; omega) (by omega)
  have e95 : ∀ b, J 95 b = I 95 b := fun b => e 95 b (by unfold scr; omega) (by omega)
  have e96 : ∀ b, J 96 b = I 96 b := fun b => e 96 b (by unfold scr; omega) (by omega)
  have e97 : ∀ b, J 97 b = I 97 b := fun b => e 97 b (by unfold scr; omega) (by omega)
  have e98 : ∀ b, J 98 b = I 98 b := fun b => e 98 b (by unfold scr; omega) (by omega)
  have e104 : ∀ b, J 104 b = I 104 b := fun b => e 104 b (by unfold scr; omega) (by omega)
  have e105 : ∀ b, J 105 b = I 105 b := fun b => e 105 b (by unfold scr; omega) (by omega)
  have q_nk : nkI J = nkI I := by unfold nkI; rw [e 85 35 (by unfold scr; omega) (by omega)]
  have q_nd : ndI J = ndI I := by unfold ndI; rw [e 85 36 (by unfold scr; omega) (by omega)]
  have q_nc : ncI J = ncI I := by unfold ncI; rw [e 85 31 (by unfold scr; omega) (by omega)]
  have q_md : mdI J = mdI I := by unfold mdI; rw [e 85 32 (by unfold scr; omega) (by omega)]
  have q_sz : szI J = szI I := by unfold szI; rw [e 85 34 (by unfold scr; omega) (by omega)]
  have q_nb : nbI J = nbI I := by unfold nbI; rw [e 85 46 (by unfold scr; omega) (by omega)]
  have q_ca : cA J = cA I := by funext d e2; unfold cA; rw [e 85 33 (by unfold scr; omega) (by omega)]
  have q_dp : dpM J = dpM I := by funext k c; unfold dpM; rw [e86]
  refine ⟨?_, ?_, ?_, ?_, ?_, ?_, ?_, ?_, ?_, ?_, ?_, ?_, ?_, ?_, ?_, ?_, ?_, ?_, ?_, ?_, ?_, ?_, ?_, ?_, ?_, ?_, ?_⟩
  · rw [e 85 35 (by unfold scr; omega) (by omega), q_nk]; exact hm.k
  · simp only [e86, e87, e88, e89, e90, e95, e96, e97, e98, e104, e105, q_nk, q_nd, q_nc, q_md, q_sz, q_nb, q_ca, q_dp]; exact hm.kb
  · rw [e 85 36 (by unfold scr; omega) (by omega), q_nd]; exact hm.d
  · simp only [e86, e87, e88, e89, e90, e95, e96, e97, e98, e104, e105, q_nk, q_nd, q_nc, q_md, q_sz, q_nb, q_ca, q_dp]; exact hm.db
  · rw [e 85 31 (by unfold scr; omega) (by omega), q_nc]; exact hm.c
  · simp only [e86, e87, e88, e89, e90, e95, e96, e97, e98, e104, e105, q_nk, q_nd, q_nc, q_md, q_sz, q_nb, q_ca, q_dp]; exact hm.c3
  · simp only [e86, e87, e88, e89, e90, e95, e96, e97, e98, e104, e105, q_nk, q_nd, q_nc, q_md, q_sz, q_nb, q_ca, q_dp]; exact hm.c6
  · rw [e 85 32 (by unfold scr; omega) (by omega), q_md]; exact hm.m
  · simp only [e86, e87, e88, e89, e90, e95, e96, e97, e98, e104, e105, q_nk, q_nd, q_nc, q_md, q_sz, q_nb, q_ca, q_dp]; exact hm.m2
  · simp only [e86, e87, e88, e89, e90, e95, e96, e97, e98, e104, e105, q_nk, q_nd, q_nc, q_md, q_sz, q_nb, q_ca, q_dp]; exact hm.m6
  · rw [e 85 34 (by unfold scr; omega) (by omega), q_sz]; exact hm.s
  · simp only [e86, e87, e88, e89, e90, e95, e96, e97, e98, e104, e105, q_nk, q_nd, q_nc, q_md, q_sz, q_nb, q_ca, q_dp]; exact hm.sc
  · rw [e 85 46 (by unfold scr; omega) (by omega), q_nb]; exact hm.b
  · simp only [e86, e87, e88, e89, e90, e95, e96, e97, e98, e104, e105, q_nk, q_nd, q_nc, q_md, q_sz, q_nb, q_ca, q_dp]; exact hm.bb
  · rw [e 85 33 (by unfold scr; omega) (by omega)]; exact hm.ap
  · simp only [e86, e87, e88, e89, e90, e95, e96, e97, e98, e104, e105, q_nk, q_nd, q_nc, q_md, q_sz, q_nb, q_ca, q_dp]; exact hm.dep
  · simp only [e86, e87, e88, e89, e90, e95, e96, e97, e98, e104, e105, q_nk, q_nd, q_nc, q_md, q_sz, q_nb, q_ca, q_dp]; exact hm.near
  · simp only [e86, e87, e88, e89, e90, e95, e96, e97, e98, e104, e105, q_nk, q_nd, q_nc, q_md, q_sz, q_nb, q_ca, q_dp]; exact hm.told
  · simp only [e86, e87, e88, e89, e90, e95, e96, e97, e98, e104, e105, q_nk, q_nd, q_nc, q_md, q_sz, q_nb, q_ca, q_dp]; exact hm.toldn
  · simp only [e86, e87, e88, e89, e90, e95, e96, e97, e98, e104, e105, q_nk, q_nd, q_nc, q_md, q_sz, q_nb, q_ca, q_dp]; exact hm.bs
  · simp only [e86, e87, e88, e89, e90, e95, e96, e97, e98, e104, e105, q_nk, q_nd, q_nc, q_md, q_sz, q_nb, q_ca, q_dp]; exact hm.bd
  · simp only [e86, e87, e88, e89, e90, e95, e96, e97, e98, e104, e105, q_nk, q_nd, q_nc, q_md, q_sz, q_nb, q_ca, q_dp]; exact hm.bp
  · simp only [e86, e87, e88, e89, e90, e95, e96, e97, e98, e104, e105, q_nk, q_nd, q_nc, q_md, q_sz, q_nb, q_ca, q_dp]; exact hm.rb
  · simp only [e86, e87, e88, e89, e90, e95, e96, e97, e98, e104, e105, q_nk, q_nd, q_nc, q_md, q_sz, q_nb, q_ca, q_dp]; exact hm.ru
  · simp only [e86, e87, e88, e89, e90, e95, e96, e97, e98, e104, e105, q_nk, q_nd, q_nc, q_md, q_sz, q_nb, q_ca, q_dp]; exact hm.wu
  · simp only [e86, e87, e88, e89, e90, e95, e96, e97, e98, e104, e105, q_nk, q_nd, q_nc, q_md, q_sz, q_nb, q_ca, q_dp]; exact hm.wf
  · simp only [e86, e87, e88, e89, e90, e95, e96, e97, e98, e104, e105, q_nk, q_nd, q_nc, q_md, q_sz, q_nb, q_ca, q_dp]; exact hm.hu
theorem RK_up_lose {I J : Nat → Nat → Int32} {L K : Nat → Nat → Int64} {R : Nat → Nat} (h : RK I L R) (e : ∀ a b, ¬ scr a b → ¬ (a = 92 ∨ (19 ≤ a ∧ a ≤ 34 ∧ b = 2)) → J a b = I a b) (eL0 : ∀ k, k < 16 → K (19 + k) 0 = L (19 + k) 0) (eL1 : K 1 5 = L 1 5) (eL15 : ∀ b, K 15 b = L 15 b) (m : MI J)
    (n_kl : ∀ k, k < 16 → J 92 k = J (19 + k) 2) : RK J K R := by
  have e86 : ∀ b, J 86 b = I 86 b := fun b => e 86 b (by unfold scr; omega) (by omega)
  have e87 : ∀ b, J 87 b = I 87 b := fun b => e 87 b (by unfold scr; omega) (by omega)
  have e88 : ∀ b, J 88 b = I 88 b := fun b => e 88 b (by unfold scr; omega) (by omega)
  have e89 : ∀ b, J 89 b = I 89 b := fun b => e 89 b (by unfold scr; omega) (by omega)
  have e90 : ∀ b, J 90 b = I 90 b := fun b => e 90 b (by unfold scr; omega) (by omega)
  have e95 : ∀ b, J 95 b = I 95 b := fun b => e 95 b (by unfold scr; omega) (by omega)
  have e96 : ∀ b, J 96 b = I 96 b := fun b => e 96 b (by unfold scr; omega) (by omega)
  have e97 : ∀ b, J 97 b = I 97 b := fun b => e 97 b (by unfold scr; omega) (by omega)
  have e98 : ∀ b, J 98 b = I 98 b := fun b => e 98 b (by unfold scr; omega) (by omega)
  have e104 : ∀ b, J 104 b = I 104 b := fun b => e 104 b (by unfold scr; omega) (by omega)
  have e105 : ∀ b, J 105 b = I 105 b := fun b => e 105 b (by unfold scr; omega) (by omega)
  have q_nk : nkI J = nkI I := by unfold nkI; rw [e 85 35 (by unfold scr; omega) (by omega)]
  have q_nd : ndI J = ndI I := by unfold ndI; rw [e 85 36 (by unfold scr; omega) (by omega)]
  have q_nc : ncI J = ncI I := by unfold ncI; rw [e 85 31 (by unfold scr; omega) (by omega)]
  have q_md : mdI J = mdI I := by unfold mdI; rw [e 85 32 (by unfold scr; omega) (by omega)]
  have q_sz : szI J = szI I := by unfold szI; rw [e 85 34 (by unfold scr; omega) (by omega)]
  have q_nb : nbI J = nbI I := by unfold nbI; rw [e 85 46 (by unfold scr; omega) (by omega)]
  have q_dp : dpM J = dpM I := by funext k c; unfold dpM; rw [e86]
  have hkb := h.mi.kb
  have f1 : ∀ k, k < 16 → J (19 + k) 1 = I (19 + k) 1 := fun k hk => e (19 + k) 1 (by unfold scr; omega) (by omega)
  have f3 : ∀ k, k < 16 → J (19 + k) 3 = I (19 + k) 3 := fun k hk => e (19 + k) 3 (by unfold scr; omega) (by omega)
  have f4 : ∀ k, k < 16 → J (19 + k) 4 = I (19 + k) 4 := fun k hk => e (19 + k) 4 (by unfold scr; omega) (by omega)
  have f5 : ∀ k, k < 16 → J (19 + k) 5 = I (19 + k) 5 := fun k hk => e (19 + k) 5 (by unfold scr; omega) (by omega)
  have g0 : ∀ d, d < 10 → J (R d) 0 = I (R d) 0 := fun d hd => by
    have := h.rr d hd
    exact e (R d) 0 (by unfold scr; omega) (by omega)
  have g1 : ∀ d, d < 10 → J (R d) 1 = I (R d) 1 := fun d hd => by
    have := h.rr d hd
    exact e (R d) 1 (by unfold scr; omega) (by omega)
  have g2 : ∀ d, d < 10 → J (R d) 2 = I (R d) 2 := fun d hd => by
    have := h.rr d hd
    exact e (R d) 2 (by unfold scr; omega) (by omega)
  refine ⟨m, ?_, ?_, ?_, ?_, ?_, ?_, ?_, ?_, ?_, ?_, ?_, ?_, ?_, ?_, ?_, ?_, ?_, ?_, ?_, ?_, ?_, ?_⟩
  · exact by rw [e 1 1 (by unfold scr; omega) (by omega), e 85 31 (by unfold scr; omega) (by omega)]; exact h.ch
  · exact by rw [e 1 2 (by unfold scr; omega) (by omega), e 85 32 (by unfold scr; omega) (by omega)]; exact h.dp
  · exact by rw [e 1 3 (by unfold scr; omega) (by omega), e 85 33 (by unfold scr; omega) (by omega)]; exact h.ap
  · exact by rw [e 1 6 (by unfold scr; omega) (by omega), e 85 34 (by unfold scr; omega) (by omega)]; exact h.sz
  · exact by rw [e 0 9 (by unfold scr; omega) (by omega), e 85 35 (by unfold scr; omega) (by omega)]; exact h.nk
  · exact by rw [e 0 10 (by unfold scr; omega) (by omega), e 85 36 (by unfold scr; omega) (by omega)]; exact h.nd
  · exact by rw [e 0 17 (by unfold scr; omega) (by omega), e 85 44 (by unfold scr; omega) (by omega)]; exact h.ct
  · exact by rw [e 0 12 (by unfold scr; omega) (by omega), e 85 46 (by unfold scr; omega) (by omega)]; exact h.nb
  · exact fun k hk => by
      rw [q_nk] at hk
      rw [eL0 k (by omega), q_dp, q_nc]; exact h.kc k hk
  · exact fun k hk => by
      rw [q_nk] at hk
      rw [e95, f1 k (by omega)]; exact h.kp k hk
  · exact n_kl
  · exact fun k hk => by rw [e89, f4 k hk]; exact h.kh k hk
  · exact fun k hk => by
      rw [q_nk] at hk
      rw [e89, e90, f5 k (by omega)]; exact h.kd k hk
  · exact fun k j hk hj => by
      rw [q_nk] at hk
      rw [f3 k (by omega), q_nk, e96, e96]; exact h.kr k j hk hj
  · exact fun d k hd hk => by rw [g1 d hd, e88]; exact h.wi d k hd hk
  · exact fun d k hd hk => by rw [g1 d hd]; exact h.w0 d k hd hk
  · exact fun d hd => by rw [e97, g0 d hd]; exact h.wa d hd
  · exact fun d hd => by rw [e98, g2 d hd]; exact h.bu d hd
  · exact h.rr
  · exact h.ri
  · exact by rw [eL1, q_sz]; simp only [e87]; exact h.to
  · exact fun b hb => by
      rw [q_nb] at hb
      rw [eL15]; simp only [e104, e105]; exact h.bl b hb
theorem MI_up_ward {I J : Nat → Nat → Int32} (hm : MI I) (e : ∀ a b, ¬ scr a b → ¬ (a = 97 ∨ (35 ≤ a ∧ a ≤ 44 ∧ b = 0)) → J a b = I a b)
    (n_wf : ∀ d k, k < 16 → tb (J 88 k) d = true → (J 95 k &&& J 97 d) = 0) : MI J := by
  have e86 : ∀ b, J 86 b = I 86 b := fun b => e 86 b (by unfold scr; omega) (by omega)
  have e87 : ∀ b, J 87 b = I 87 b := fun b => e 87 b (by unfold scr; omega) (by omega)
  have e88 : ∀ b, J 88 b = I 88 b := fun b => e 88 b (by unfold scr; omega) (by omega)
  have e89 : ∀ b, J 89 b = I 89 b := fun b => e 89 b (by unfold scr; omega) (by omega)
  have e90 : ∀ b, J 90 b = I 90 b := fun b => e 90 b (by unfold scr; omega) (by omega)
  have e92 : ∀ b, J 92 b = I 92 b := fun b => e 92 b (by unfold scr; omega) (by omega)
  have e95 : ∀ b, J 95 b = I 95 b := fun b => e 95 b (by unfold scr; omega) (by omega)
  have e96 : ∀ b, J 96 b = I 96 b := fun b => e 96 b (by unfold scr; omega) (by omega)
  have e98 : ∀ b, J 98 b = I 98 b := fun b => e 98 b (by unfold scr; omega) (by omega)
  have e104 : ∀ b, J 104 b = I 104 b := fun b => e 104 b (by unfold scr; omega) (by omega)
  have e105 : ∀ b, J 105 b = I 105 b := fun b => e 105 b (by unfold scr; omega) (by omega)
  have q_nk : nkI J = nkI I := by unfold nkI; rw [e 85 35 (by unfold scr; omega) (by omega)]
  have q_nd : ndI J = ndI I := by unfold ndI; rw [e 85 36 (by unfold scr; omega) (by omega)]
  have q_nc : ncI J = ncI I := by unfold ncI; rw [e 85 31 (by unfold scr; omega) (by omega)]
  have q_md : mdI J = mdI I := by unfold mdI; rw [e 85 32 (by unfold scr; omega) (by omega)]
  have q_sz : szI J = szI I := by unfold szI; rw [e 85 34 (by unfold scr; omega) (by omega)]
  have q_nb : nbI J = nbI I := by unfold nbI; rw [e 85 46 (by unfold scr; omega) (by omega)]
  have q_ca : cA J = cA I := by funext d e2; unfold cA; rw [e 85 33 (by unfold scr; omega) (by omega)]
  have q_dp : dpM J = dpM I := by funext k c; unfold dpM; rw [e86]
  refine ⟨?_, ?_, ?_, ?_, ?_, ?_, ?_, ?_, ?_, ?_, ?_, ?_, ?_, ?_, ?_, ?_, ?_, ?_, ?_, ?_, ?_, ?_, ?_, ?_, ?_, ?_, ?_⟩
  · rw [e 85 35 (by unfold scr; omega) (by omega), q_nk]; exact hm.k
  · simp only [e86, e87, e88, e89, e90, e92, e95, e96, e98, e104, e105, q_nk, q_nd, q_nc, q_md, q_sz, q_nb, q_ca, q_dp]; exact hm.kb
  · rw [e 85 36 (by unfold scr; omega) (by omega), q_nd]; exact hm.d
  · simp only [e86, e87, e88, e89, e90, e92, e95, e96, e98, e104, e105, q_nk, q_nd, q_nc, q_md, q_sz, q_nb, q_ca, q_dp]; exact hm.db
  · rw [e 85 31 (by unfold scr; omega) (by omega), q_nc]; exact hm.c
  · simp only [e86, e87, e88, e89, e90, e92, e95, e96, e98, e104, e105, q_nk, q_nd, q_nc, q_md, q_sz, q_nb, q_ca, q_dp]; exact hm.c3
  · simp only [e86, e87, e88, e89, e90, e92, e95, e96, e98, e104, e105, q_nk, q_nd, q_nc, q_md, q_sz, q_nb, q_ca, q_dp]; exact hm.c6
  · rw [e 85 32 (by unfold scr; omega) (by omega), q_md]; exact hm.m
  · simp only [e86, e87, e88, e89, e90, e92, e95, e96, e98, e104, e105, q_nk, q_nd, q_nc, q_md, q_sz, q_nb, q_ca, q_dp]; exact hm.m2
  · simp only [e86, e87, e88, e89, e90, e92, e95, e96, e98, e104, e105, q_nk, q_nd, q_nc, q_md, q_sz, q_nb, q_ca, q_dp]; exact hm.m6
  · rw [e 85 34 (by unfold scr; omega) (by omega), q_sz]; exact hm.s
  · simp only [e86, e87, e88, e89, e90, e92, e95, e96, e98, e104, e105, q_nk, q_nd, q_nc, q_md, q_sz, q_nb, q_ca, q_dp]; exact hm.sc
  · rw [e 85 46 (by unfold scr; omega) (by omega), q_nb]; exact hm.b
  · simp only [e86, e87, e88, e89, e90, e92, e95, e96, e98, e104, e105, q_nk, q_nd, q_nc, q_md, q_sz, q_nb, q_ca, q_dp]; exact hm.bb
  · rw [e 85 33 (by unfold scr; omega) (by omega)]; exact hm.ap
  · simp only [e86, e87, e88, e89, e90, e92, e95, e96, e98, e104, e105, q_nk, q_nd, q_nc, q_md, q_sz, q_nb, q_ca, q_dp]; exact hm.dep
  · simp only [e86, e87, e88, e89, e90, e92, e95, e96, e98, e104, e105, q_nk, q_nd, q_nc, q_md, q_sz, q_nb, q_ca, q_dp]; exact hm.near
  · simp only [e86, e87, e88, e89, e90, e92, e95, e96, e98, e104, e105, q_nk, q_nd, q_nc, q_md, q_sz, q_nb, q_ca, q_dp]; exact hm.told
  · simp only [e86, e87, e88, e89, e90, e92, e95, e96, e98, e104, e105, q_nk, q_nd, q_nc, q_md, q_sz, q_nb, q_ca, q_dp]; exact hm.toldn
  · simp only [e86, e87, e88, e89, e90, e92, e95, e96, e98, e104, e105, q_nk, q_nd, q_nc, q_md, q_sz, q_nb, q_ca, q_dp]; exact hm.bs
  · simp only [e86, e87, e88, e89, e90, e92, e95, e96, e98, e104, e105, q_nk, q_nd, q_nc, q_md, q_sz, q_nb, q_ca, q_dp]; exact hm.bd
  · simp only [e86, e87, e88, e89, e90, e92, e95, e96, e98, e104, e105, q_nk, q_nd, q_nc, q_md, q_sz, q_nb, q_ca, q_dp]; exact hm.bp
  · simp only [e86, e87, e88, e89, e90, e92, e95, e96, e98, e104, e105, q_nk, q_nd, q_nc, q_md, q_sz, q_nb, q_ca, q_dp]; exact hm.rb
  · simp only [e86, e87, e88, e89, e90, e92, e95, e96, e98, e104, e105, q_nk, q_nd, q_nc, q_md, q_sz, q_nb, q_ca, q_dp]; exact hm.ru
  · simp only [e86, e87, e88, e89, e90, e92, e95, e96, e98, e104, e105, q_nk, q_nd, q_nc, q_md, q_sz, q_nb, q_ca, q_dp]; exact hm.wu
  · exact n_wf
  · simp only [e86, e87, e88, e89, e90, e92, e95, e96, e98, e104, e105, q_nk, q_nd, q_nc, q_md, q_sz, q_nb, q_ca, q_dp]; exact hm.hu
theorem RK_up_ward {I J : Nat → Nat → Int32} {L K : Nat → Nat → Int64} {R : Nat → Nat} (h : RK I L R) (e : ∀ a b, ¬ scr a b → ¬ (a = 97 ∨ (35 ≤ a ∧ a ≤ 44 ∧ b = 0)) → J a b = I a b) (eL0 : ∀ k, k < 16 → K (19 + k) 0 = L (19 + k) 0) (eL1 : K 1 5 = L 1 5) (eL15 : ∀ b, K 15 b = L 15 b) (m : MI J)
    (n_wa : ∀ d, d < 10 → J 97 d = J (R d) 0) : RK J K R := by
  have e86 : ∀ b, J 86 b = I 86 b := fun b => e 86 b (by unfold scr; omega) (by omega)
  have e87 : ∀ b, J 87 b = I 87 b := fun b => e 87 b (by unfold scr; omega) (by omega)
  have e88 : ∀ b, J 88 b = I 88 b := fun b => e 88 b (by unfold scr; omega) (by omega)
  have e89 : ∀ b, J 89 b = I 89 b := fun b => e 89 b (by unfold scr; omega) (by omega)
  have e90 : ∀ b, J 90 b = I 90 b := fun b => e 90 b (by unfold scr; omega) (by omega)
  have e92 : ∀ b, J 92 b = I 92 b := fun b => e 92 b (by unfold scr; omega) (by omega)
  have e95 : ∀ b, J 95 b = I 95 b := fun b => e 95 b (by unfold scr; omega) (by omega)
  have e96 : ∀ b, J 96 b = I 96 b := fun b => e 96 b (by unfold scr; omega) (by omega)
  have e98 : ∀ b, J 98 b = I 98 b := fun b => e 98 b (by unfold scr; omega) (by omega)
  have e104 : ∀ b, J 104 b = I 104 b := fun b => e 104 b (by unfold scr; omega) (by omega)
  have e105 : ∀ b, J 105 b = I 105 b := fun b => e 105 b (by unfold scr; omega) (by omega)
  have q_nk : nkI J = nkI I := by unfold nkI; rw [e 85 35 (by unfold scr; omega) (by omega)]
  have q_nd : ndI J = ndI I := by unfold ndI; rw [e 85 36 (by unfold scr; omega) (by omega)]
  have q_nc : ncI J = ncI I := by unfold ncI; rw [e 85 31 (by unfold scr; omega) (by omega)]
  have q_md : mdI J = mdI I := by unfold mdI; rw [e 85 32 (by unfold scr; omega) (by omega)]
  have q_sz : szI J = szI I := by unfold szI; rw [e 85 34 (by unfold scr; omega) (by omega)]
  have q_nb : nbI J = nbI I := by unfold nbI; rw [e 85 46 (by unfold scr; omega) (by omega)]
  have q_dp : dpM J = dpM I := by funext k c; unfold dpM; rw [e86]
  have hkb := h.mi.kb
  have f1 : ∀ k, k < 16 → J (19 + k) 1 = I (19 + k) 1 := fun k hk => e (19 + k) 1 (by unfold scr; omega) (by omega)
  have f2 : ∀ k, k < 16 → J (19 + k) 2 = I (19 + k) 2 := fun k hk => e (19 + k) 2 (by unfold scr; omega) (by omega)
  have f3 : ∀ k, k < 16 → J (19 + k) 3 = I (19 + k) 3 := fun k hk => e (19 + k) 3 (by unfold scr; omega) (by omega)
  have f4 : ∀ k, k < 16 → J (19 + k) 4 = I (19 + k) 4 := fun k hk => e (19 + k) 4 (by unfold scr; omega) (by omega)
  have f5 : ∀ k, k < 16 → J (19 + k) 5 = I (19 + k) 5 := fun k hk => e (19 + k) 5 (by unfold scr; omega) (by omega)
  have g1 : ∀ d, d < 10 → J (R d) 1 = I (R d) 1 := fun d hd => by
    have := h.rr d hd
    exact e (R d) 1 (by unfold scr; omega) (by omega)
  have g2 : ∀ d, d < 10 → J (R d) 2 = I (R d) 2 := fun d hd => by
    have := h.rr d hd
    exact e (R d) 2 (by unfold scr; omega) (by omega)
  refine ⟨m, ?_, ?_, ?_, ?_, ?_, ?_, ?_, ?_, ?_, ?_, ?_, ?_, ?_, ?_, ?_, ?_, ?_, ?_, ?_, ?_, ?_, ?_⟩
  · exact by rw [e 1 1 (by unfold scr; omega) (by omega), e 85 31 (by unfold scr; omega) (by omega)]; exact h.ch
  · exact by rw [e 1 2 (by unfold scr; omega) (by omega), e 85 32 (by unfold scr; omega) (by omega)]; exact h.dp
  · exact by rw [e 1 3 (by unfold scr; omega) (by omega), e 85 33 (by unfold scr; omega) (by omega)]; exact h.ap
  · exact by rw [e 1 6 (by unfold scr; omega) (by omega), e 85 34 (by unfold scr; omega) (by omega)]; exact h.sz
  · exact by rw [e 0 9 (by unfold scr; omega) (by omega), e 85 35 (by unfold scr; omega) (by omega)]; exact h.nk
  · exact by rw [e 0 10 (by unfold scr; omega) (by omega), e 85 36 (by unfold scr; omega) (by omega)]; exact h.nd
  · exact by rw [e 0 17 (by unfold scr; omega) (by omega), e 85 44 (by unfold scr; omega) (by omega)]; exact h.ct
  · exact by rw [e 0 12 (by unfold scr; omega) (by omega), e 85 46 (by unfold scr; omega) (by omega)]; exact h.nb
  · exact fun k hk => by
      rw [q_nk] at hk
      rw [eL0 k (by omega), q_dp, q_nc]; exact h.kc k hk
  · exact fun k hk => by
      rw [q_nk] at hk
      rw [e95, f1 k (by omega)]; exact h.kp k hk
  · exact fun k hk => by rw [e92, f2 k hk]; exact h.kl k hk
  · exact fun k hk => by rw [e89, f4 k hk]; exact h.kh k hk
  · exact fun k hk => by
      rw [q_nk] at hk
      rw [e89, e90, f5 k (by omega)]; exact h.kd k hk
  · exact fun k j hk hj => by
      rw [q_nk] at hk
      rw [f3 k (by omega), q_nk, e96, e96]; exact h.kr k j hk hj
  · exact fun d k hd hk => by rw [g1 d hd, e88]; exact h.wi d k hd hk
  · exact fun d k hd hk => by rw [g1 d hd]; exact h.w0 d k hd hk
  · exact n_wa
  · exact fun d hd => by rw [e98, g2 d hd]; exact h.bu d hd
  · exact h.rr
  · exact h.ri
  · exact by rw [eL1, q_sz]; simp only [e87]; exact h.to
  · exact fun b hb => by
      rw [q_nb] at hb
      rw [eL15]; simp only [e104, e105]; exact h.bl b hb
theorem MI_up_bld {I J : Nat → Nat → Int32} (hm : MI I) (e : ∀ a b, ¬ scr a b → ¬ (a = 98 ∨ (35 ≤ a ∧ a ≤ 44 ∧ b = 2)) → J a b = I a b) : MI J := by
  have e86 : ∀ b, J 86 b = I 86 b := fun b => e 86 b (by unfold scr; omega) (by omega)
  have e87 : ∀ b, J 87 b = I 87 b := fun b => e 87 b (by unfold scr; omega) (by omega)
  have e88 : ∀ b, J 88 b = I 88 b := fun b => e 88 b (by unfold scr; omega) (by omega)
  have e89 : ∀ b, J 89 b = I 89 b := fun b => e 89 b (by unfold scr; omega) (by omega)
  have e90 : ∀ b, J 90 b = I 90 b := fun b => e 90 b (by unfold scr; omega) (by omega)
  have e92 : ∀ b, J 92 b = I 92 b := fun b => e 92 b (by unfold scr; omega) (by omega)
  have e95 : ∀ b, J 95 b = I 95 b := fun b => e 95 b (by unfold scr; omega) (by omega)
  have e96 : ∀ b, J 96 b = I 96 b := fun b => e 96 b (by unfold scr; omega) (by omega)
  have e97 : ∀ b, J 97 b = I 97 b := fun b => e 97 b (by unfold scr; omega) (by omega)
  have e104 : ∀ b, J 104 b = I 104 b := fun b => e 104 b (by unfold scr; omega) (by omega)
  have e105 : ∀ b, J 105 b = I 105 b := fun b => e 105 b (by unfold scr; omega) (by omega)
  have q_nk : nkI J = nkI I := by unfold nkI; rw [e 85 35 (by unfold scr; omega) (by omega)]
  have q_nd : ndI J = ndI I := by unfold ndI; rw [e 85 36 (by unfold scr; omega) (by omega)]
  have q_nc : ncI J = ncI I := by unfold ncI; rw [e 85 31 (by unfold scr; omega) (by omega)]
  have q_md : mdI J = mdI I := by unfold mdI; rw [e 85 32 (by unfold scr; omega) (by omega)]
  have q_sz : szI J = szI I := by unfold szI; rw [e 85 34 (by unfold scr; omega) (by omega)]
  have q_nb : nbI J = nbI I := by unfold nbI; rw [e 85 46 (by unfold scr; omega) (by omega)]
  have q_ca : cA J = cA I := by funext d e2; unfold cA; rw [e 85 33 (by unfold scr; omega) (by omega)]
  have q_dp : dpM J = dpM I := by funext k c; unfold dpM; rw [e86]
  refine ⟨?_, ?_, ?_, ?_, ?_, ?_, ?_, ?_, ?_, ?_, ?_, ?_, ?_, ?_, ?_, ?_, ?_, ?_, ?_, ?_, ?_, ?_, ?_, ?_, ?_, ?_, ?_⟩
  · rw [e 85 35 (by unfold scr; omega) (by omega), q_nk]; exact hm.k
  · simp only [e86, e87, e88, e89, e90, e92, e95, e96, e97, e104, e105, q_nk, q_nd, q_nc, q_md, q_sz, q_nb, q_ca, q_dp]; exact hm.kb
  · rw [e 85 36 (by unfold scr; omega) (by omega), q_nd]; exact hm.d
  · simp only [e86, e87, e88, e89, e90, e92, e95, e96, e97, e104, e105, q_nk, q_nd, q_nc, q_md, q_sz, q_nb, q_ca, q_dp]; exact hm.db
  · rw [e 85 31 (by unfold scr; omega) (by omega), q_nc]; exact hm.c
  · simp only [e86, e87, e88, e89, e90, e92, e95, e96, e97, e104, e105, q_nk, q_nd, q_nc, q_md, q_sz, q_nb, q_ca, q_dp]; exact hm.c3
  · simp only [e86, e87, e88, e89, e90, e92, e95, e96, e97, e104, e105, q_nk, q_nd, q_nc, q_md, q_sz, q_nb, q_ca, q_dp]; exact hm.c6
  · rw [e 85 32 (by unfold scr; omega) (by omega), q_md]; exact hm.m
  · simp only [e86, e87, e88, e89, e90, e92, e95, e96, e97, e104, e105, q_nk, q_nd, q_nc, q_md, q_sz, q_nb, q_ca, q_dp]; exact hm.m2
  · simp only [e86, e87, e88, e89, e90, e92, e95, e96, e97, e104, e105, q_nk, q_nd, q_nc, q_md, q_sz, q_nb, q_ca, q_dp]; exact hm.m6
  · rw [e 85 34 (by unfold scr; omega) (by omega), q_sz]; exact hm.s
  · simp only [e86, e87, e88, e89, e90, e92, e95, e96, e97, e104, e105, q_nk, q_nd, q_nc, q_md, q_sz, q_nb, q_ca, q_dp]; exact hm.sc
  · rw [e 85 46 (by unfold scr; omega) (by omega), q_nb]; exact hm.b
  · simp only [e86, e87, e88, e89, e90, e92, e95, e96, e97, e104, e105, q_nk, q_nd, q_nc, q_md, q_sz, q_nb, q_ca, q_dp]; exact hm.bb
  · rw [e 85 33 (by unfold scr; omega) (by omega)]; exact hm.ap
  · simp only [e86, e87, e88, e89, e90, e92, e95, e96, e97, e104, e105, q_nk, q_nd, q_nc, q_md, q_sz, q_nb, q_ca, q_dp]; exact hm.dep
  · simp only [e86, e87, e88, e89, e90, e92, e95, e96, e97, e104, e105, q_nk, q_nd, q_nc, q_md, q_sz, q_nb, q_ca, q_dp]; exact hm.near
  · simp only [e86, e87, e88, e89, e90, e92, e95, e96, e97, e104, e105, q_nk, q_nd, q_nc, q_md, q_sz, q_nb, q_ca, q_dp]; exact hm.told
  · simp only [e86, e87, e88, e89, e90, e92, e95, e96, e97, e104, e105, q_nk, q_nd, q_nc, q_md, q_sz, q_nb, q_ca, q_dp]; exact hm.toldn
  · simp only [e86, e87, e88, e89, e90, e92, e95, e96, e97, e104, e105, q_nk, q_nd, q_nc, q_md, q_sz, q_nb, q_ca, q_dp]; exact hm.bs
  · simp only [e86, e87, e88, e89, e90, e92, e95, e96, e97, e104, e105, q_nk, q_nd, q_nc, q_md, q_sz, q_nb, q_ca, q_dp]; exact hm.bd
  · simp only [e86, e87, e88, e89, e90, e92, e95, e96, e97, e104, e105, q_nk, q_nd, q_nc, q_md, q_sz, q_nb, q_ca, q_dp]; exact hm.bp
  · simp only [e86, e87, e88, e89, e90, e92, e95, e96, e97, e104, e105, q_nk, q_nd, q_nc, q_md, q_sz, q_nb, q_ca, q_dp]; exact hm.rb
  · simp only [e86, e87, e88, e89, e90, e92, e95, e96, e97, e104, e105, q_nk, q_nd, q_nc, q_md, q_sz, q_nb, q_ca, q_dp]; exact hm.ru
  · simp only [e86, e87, e88, e89, e90, e92, e95, e96, e97, e104, e105, q_nk, q_nd, q_nc, q_md, q_sz, q_nb, q_ca, q_dp]; exact hm.wu
  · simp only [e86, e87, e88, e89, e90, e92, e95, e96, e97, e104, e105, q_nk, q_nd, q_nc, q_md, q_sz, q_nb, q_ca, q_dp]; exact hm.wf
  · simp only [e86, e87, e88, e89, e90, e92, e95, e96, e97, e104, e105, q_nk, q_nd, q_nc, q_md, q_sz, q_nb, q_ca, q_dp]; exact hm.hu
theorem RK_up_bld {I J : Nat → Nat → Int32} {L K : Nat → Nat → Int64} {R : Nat → Nat} (h : RK I L R) (e : ∀ a b, ¬ scr a b → ¬ (a = 98 ∨ (35 ≤ a ∧ a ≤ 44 ∧ b = 2)) → J a b = I a b) (eL0 : ∀ k, k < 16 → K (19 + k) 0 = L (19 + k) 0) (eL1 : K 1 5 = L 1 5) (eL15 : ∀ b, K 15 b = L 15 b) (m : MI J)
    (n_bu : ∀ d, d < 10 → J 98 d = J (R d) 2) : RK J K R := by
  have e86 : ∀ b, J 86 b = I 86 b := fun b => e 86 b (by unfold scr; omega) (by omega)
  have e87 : ∀ b, J 87 b = I 87 b := fun b => e 87 b (by unfold scr; omega) (by omega)
  have e88 : ∀ b, J 88 b = I 88 b := fun b => e 88 b (by unfold scr; omega) (by omega)
  have e89 : ∀ b, J 89 b = I 89 b := fun b => e 89 b (by unfold scr; omega) (by omega)
  have e90 : ∀ b, J 90 b = I 90 b := fun b => e 90 b (by unfold scr; omega) (by omega)
  have e92 : ∀ b, J 92 b = I 92 b := fun b => e 92 b (by unfold scr; omega) (by omega)
  have e95 : ∀ b, J 95 b = I 95 b := fun b => e 95 b (by unfold scr; omega) (by omega)
  have e96 : ∀ b, J 96 b = I 96 b := fun b => e 96 b (by unfold scr; omega) (by omega)
  have e97 : ∀ b, J 97 b = I 97 b := fun b => e 97 b (by unfold scr; omega) (by omega)
  have e104 : ∀ b, J 104 b = I 104 b := fun b => e 104 b (by unfold scr; omega) (by omega)
  have e105 : ∀ b, J 105 b = I 105 b := fun b => e 105 b (by unfold scr; omega) (by omega)
  have q_nk : nkI J = nkI I := by unfold nkI; rw [e 85 35 (by unfold scr; omega) (by omega)]
  have q_nd : ndI J = ndI I := by unfold ndI; rw [e 85 36 (by unfold scr; omega) (by omega)]
  have q_nc : ncI J = ncI I := by unfold ncI; rw [e 85 31 (by unfold scr; omega) (by omega)]
  have q_md : mdI J = mdI I := by unfold mdI; rw [e 85 32 (by unfold scr; omega) (by omega)]
  have q_sz : szI J = szI I := by unfold szI; rw [e 85 34 (by unfold scr; omega) (by omega)]
  have q_nb : nbI J = nbI I := by unfold nbI; rw [e 85 46 (by unfold scr; omega) (by omega)]
  have q_dp : dpM J = dpM I := by funext k c; unfold dpM; rw [e86]
  have hkb := h.mi.kb
  have f1 : ∀ k, k < 16 → J (19 + k) 1 = I (19 + k) 1 := fun k hk => e (19 + k) 1 (by unfold scr; omega) (by omega)
  have f2 : ∀ k, k < 16 → J (19 + k) 2 = I (19 + k) 2 := fun k hk => e (19 + k) 2 (by unfold scr; omega) (by omega)
  have f3 : ∀ k, k < 16 → J (19 + k) 3 = I (19 + k) 3 := fun k hk => e (19 + k) 3 (by unfold scr; omega) (by omega)
  have f4 : ∀ k, k < 16 → J (19 + k) 4 = I (19 + k) 4 := fun k hk => e (19 + k) 4 (by unfold scr; omega) (by omega)
  have f5 : ∀ k, k < 16 → J (19 + k) 5 = I (19 + k) 5 := fun k hk => e (19 + k) 5 (by unfold scr; omega) (by omega)
  have g0 : ∀ d, d < 10 → J (R d) 0 = I (R d) 0 := fun d hd => by
    have := h.rr d hd
    exact e (R d) 0 (by unfold scr; omega) (by omega)
  have g1 : ∀ d, d < 10 → J (R d) 1 = I (R d) 1 := fun d hd => by
    have := h.rr d hd
    exact e (R d) 1 (by unfold scr; omega) (by omega)
  refine ⟨m, ?_, ?_, ?_, ?_, ?_, ?_, ?_, ?_, ?_, ?_, ?_, ?_, ?_, ?_, ?_, ?_, ?_, ?_, ?_, ?_, ?_, ?_⟩
  · exact by rw [e 1 1 (by unfold scr; omega) (by omega), e 85 31 (by unfold scr; omega) (by omega)]; exact h.ch
  · exact by rw [e 1 2 (by unfold scr; omega) (by omega), e 85 32 (by unfold scr; omega) (by omega)]; exact h.dp
  · exact by rw [e 1 3 (by unfold scr; omega) (by omega), e 85 33 (by unfold scr; omega) (by omega)]; exact h.ap
  · exact by rw [e 1 6 (by unfold scr; omega) (by omega), e 85 34 (by unfold scr; omega) (by omega)]; exact h.sz
  · exact by rw [e 0 9 (by unfold scr; omega) (by omega), e 85 35 (by unfold scr; omega) (by omega)]; exact h.nk
  · exact by rw [e 0 10 (by unfold scr; omega) (by omega), e 85 36 (by unfold scr; omega) (by omega)]; exact h.nd
  · exact by rw [e 0 17 (by unfold scr; omega) (by omega), e 85 44 (by unfold scr; omega) (by omega)]; exact h.ct
  · exact by rw [e 0 12 (by unfold scr; omega) (by omega), e 85 46 (by unfold scr; omega) (by omega)]; exact h.nb
  · exact fun k hk => by
      rw [q_nk] at hk
      rw [eL0 k (by omega), q_dp, q_nc]; exact h.kc k hk
  · exact fun k hk => by
      rw [q_nk] at hk
      rw [e95, f1 k (by omega)]; exact h.kp k hk
  · exact fun k hk => by rw [e92, f2 k hk]; exact h.kl k hk
  · exact fun k hk => by rw [e89, f4 k hk]; exact h.kh k hk
  · exact fun k hk => by
      rw [q_nk] at hk
      rw [e89, e90, f5 k (by omega)]; exact h.kd k hk
  · exact fun k j hk hj => by
      rw [q_nk] at hk
      rw [f3 k (by omega), q_nk, e96, e96]; exact h.kr k j hk hj
  · exact fun d k hd hk => by rw [g1 d hd, e88]; exact h.wi d k hd hk
  · exact fun d k hd hk => by rw [g1 d hd]; exact h.w0 d k hd hk
  · exact fun d hd => by rw [e97, g0 d hd]; exact h.wa d hd
  · exact n_bu
  · exact h.rr
  · exact h.ri
  · exact by rw [eL1, q_sz]; simp only [e87]; exact h.to
  · exact fun b hb => by
      rw [q_nb] at hb
      rw [eL15]; simp only [e104, e105]; exact h.bl b hb
theorem MI_up_ctl {I J : Nat → Nat → Int32} (hm : MI I) (e : ∀ a b, ¬ scr a b → ¬ ((a = 0 ∧ b = 17) ∨ (a = 85 ∧ b = 44)) → J a b = I a b) : MI J := by
  have e86 : ∀ b, J 86 b = I 86 b := fun b => e 86 b (by unfold scr; omega) (by omega)
  have e87 : ∀ b, J 87 b = I 87 b := fun b => e 87 b (by unfold scr; omega) (by omega)
  have e88 : ∀ b, J 88 b = I 88 b := fun b => e 88 b (by unfold scr; omega) (by omega)
  have e89 : ∀ b, J 89 b = I 89 b := fun b => e 89 b (by unfold scr; omega) (by omega)
  have e90 : ∀ b, J 90 b = I 90 b := fun b => e 90 b (by unfold scr; omega) (by omega)
  have e92 : ∀ b, J 92 b = I 92 b := fun b => e 92 b (by unfold scr; omega) (by omega)
  have e95 : ∀ b, J 95 b = I 95 b := fun b => e 95 b (by unfold scr; omega) (by omega)
  have e96 : ∀ b, J 96 b = I 96 b := fun b => e 96 b (by unfold scr; omega) (by omega)
  have e97 : ∀ b, J 97 b = I 97 b := fun b => e 97 b (by unfold scr; omega) (by omega)
  have e98 : ∀ b, J 98 b = I 98 b := fun b => e 98 b (by unfold scr; omega) (by omega)
  have e104 : ∀ b, J 104 b = I 104 b := fun b => e 104 b (by unfold scr; omega) (by omega)
  have e105 : ∀ b, J 105 b = I 105 b := fun b => e 105 b (by unfold scr; omega) (by omega)
  have q_nk : nkI J = nkI I := by unfold nkI; rw [e 85 35 (by unfold scr; omega) (by omega)]
  have q_nd : ndI J = ndI I := by unfold ndI; rw [e 85 36 (by unfold scr; omega) (by omega)]
  have q_nc : ncI J = ncI I := by unfold ncI; rw [e 85 31 (by unfold scr; omega) (by omega)]
  have q_md : mdI J = mdI I := by unfold mdI; rw [e 85 32 (by unfold scr; omega) (by omega)]
  have q_sz : szI J = szI I := by unfold szI; rw [e 85 34 (by unfold scr; omega) (by omega)]
  have q_nb : nbI J = nbI I := by unfold nbI; rw [e 85 46 (by unfold scr; omega) (by omega)]
  have q_ca : cA J = cA I := by funext d e2; unfold cA; rw [e 85 33 (by unfold scr; omega) (by omega)]
  have q_dp : dpM J = dpM I := by funext k c; unfold dpM; rw [e86]
  refine ⟨?_, ?_, ?_, ?_, ?_, ?_, ?_, ?_, ?_, ?_, ?_, ?_, ?_, ?_, ?_, ?_, ?_, ?_, ?_, ?_, ?_, ?_, ?_, ?_, ?_, ?_, ?_⟩
  · rw [e 85 35 (by unfold scr; omega) (by omega), q_nk]; exact hm.k
  · simp only [e86, e87, e88, e89, e90, e92, e95, e96, e97, e98, e104, e105, q_nk, q_nd, q_nc, q_md, q_sz, q_nb, q_ca, q_dp]; exact hm.kb
  · rw [e 85 36 (by unfold scr; omega) (by omega), q_nd]; exact hm.d
  · simp only [e86, e87, e88, e89, e90, e92, e95, e96, e97, e98, e104, e105, q_nk, q_nd, q_nc, q_md, q_sz, q_nb, q_ca, q_dp]; exact hm.db
  · rw [e 85 31 (by unfold scr; omega) (by omega), q_nc]; exact hm.c
  · simp only [e86, e87, e88, e89, e90, e92, e95, e96, e97, e98, e104, e105, q_nk, q_nd, q_nc, q_md, q_sz, q_nb, q_ca, q_dp]; exact hm.c3
  · simp only [e86, e87, e88, e89, e90, e92, e95, e96, e97, e98, e104, e105, q_nk, q_nd, q_nc, q_md, q_sz, q_nb, q_ca, q_dp]; exact hm.c6
  · rw [e 85 32 (by unfold scr; omega) (by omega), q_md]; exact hm.m
  · simp only [e86, e87, e88, e89, e90, e92, e95, e96, e97, e98, e104, e105, q_nk, q_nd, q_nc, q_md, q_sz, q_nb, q_ca, q_dp]; exact hm.m2
  · simp only [e86, e87, e88, e89, e90, e92, e95, e96, e97, e98, e104, e105, q_nk, q_nd, q_nc, q_md, q_sz, q_nb, q_ca, q_dp]; exact hm.m6
  · rw [e 85 34 (by unfold scr; omega) (by omega), q_sz]; exact hm.s
  · simp only [e86, e87, e88, e89, e90, e92, e95, e96, e97, e98, e104, e105, q_nk, q_nd, q_nc, q_md, q_sz, q_nb, q_ca, q_dp]; exact hm.sc
  · rw [e 85 46 (by unfold scr; omega) (by omega), q_nb]; exact hm.b
  · simp only [e86, e87, e88, e89, e90, e92, e95, e96, e97, e98, e104, e105, q_nk, q_nd, q_nc, q_md, q_sz, q_nb, q_ca, q_dp]; exact hm.bb
  · rw [e 85 33 (by unfold scr; omega) (by omega)]; exact hm.ap
  · simp only [e86, e87, e88, e89, e90, e92, e95, e96, e97, e98, e104, e105, q_nk, q_nd, q_nc, q_md, q_sz, q_nb, q_ca, q_dp]; exact hm.dep
  · simp only [e86, e87, e88, e89, e90, e92, e95, e96, e97, e98, e104, e105, q_nk, q_nd, q_nc, q_md, q_sz, q_nb, q_ca, q_dp]; exact hm.near
  · simp only [e86, e87, e88, e89, e90, e92, e95, e96, e97, e98, e104, e105, q_nk, q_nd, q_nc, q_md, q_sz, q_nb, q_ca, q_dp]; exact hm.told
  · simp only [e86, e87, e88, e89, e90, e92, e95, e96, e97, e98, e104, e105, q_nk, q_nd, q_nc, q_md, q_sz, q_nb, q_ca, q_dp]; exact hm.toldn
  · simp only [e86, e87, e88, e89, e90, e92, e95, e96, e97, e98, e104, e105, q_nk, q_nd, q_nc, q_md, q_sz, q_nb, q_ca, q_dp]; exact hm.bs
  · simp only [e86, e87, e88, e89, e90, e92, e95, e96, e97, e98, e104, e105, q_nk, q_nd, q_nc, q_md, q_sz, q_nb, q_ca, q_dp]; exact hm.bd
  · simp only [e86, e87, e88, e89, e90, e92, e95, e96, e97, e98, e104, e105, q_nk, q_nd, q_nc, q_md, q_sz, q_nb, q_ca, q_dp]; exact hm.bp
  · simp only [e86, e87, e88, e89, e90, e92, e95, e96, e97, e98, e104, e105, q_nk, q_nd, q_nc, q_md, q_sz, q_nb, q_ca, q_dp]; exact hm.rb
  · simp only [e86, e87, e88, e89, e90, e92, e95, e96, e97, e98, e104, e105, q_nk, q_nd, q_nc, q_md, q_sz, q_nb, q_ca, q_dp]; exact hm.ru
  · simp only [e86, e87, e88, e89, e90, e92, e95, e96, e97, e98, e104, e105, q_nk, q_nd, q_nc, q_md, q_sz, q_nb, q_ca, q_dp]; exact hm.wu
  · simp only [e86, e87, e88, e89, e90, e92, e95, e96, e97, e98, e104, e105, q_nk, q_nd, q_nc, q_md, q_sz, q_nb, q_ca, q_dp]; exact hm.wf
  · simp only [e86, e87, e88, e89, e90, e92, e95, e96, e97, e98, e104, e105, q_nk, q_nd, q_nc, q_md, q_sz, q_nb, q_ca, q_dp]; exact hm.hu
theorem RK_up_ctl {I J : Nat → Nat → Int32} {L K : Nat → Nat → Int64} {R : Nat → Nat} (h : RK I L R) (e : ∀ a b, ¬ scr a b → ¬ ((a = 0 ∧ b = 17) ∨ (a = 85 ∧ b = 44)) → J a b = I a b) (eL0 : ∀ k, k < 16 → K (19 + k) 0 = L (19 + k) 0) (eL1 : K 1 5 = L 1 5) (eL15 : ∀ b, K 15 b = L 15 b) (m : MI J)
    (n_ct : J 0 17 = J 85 44) : RK J K R := by
  have e86 : ∀ b, J 86 b = I 86 b := fun b => e 86 b (by unfold scr; omega) (by omega)
  have e87 : ∀ b, J 87 b = I 87 b := fun b => e 87 b (by unfold scr; omega) (by omega)
  have e88 : ∀ b, J 88 b = I 88 b := fun b => e 88 b (by unfold scr; omega) (by omega)
  have e89 : ∀ b, J 89 b = I 89 b := fun b => e 89 b (by unfold scr; omega) (by omega)
  have e90 : ∀ b, J 90 b = I 90 b := fun b => e 90 b (by unfold scr; omega) (by omega)
  have e92 : ∀ b, J 92 b = I 92 b := fun b => e 92 b (by unfold scr; omega) (by omega)
  have e95 : ∀ b, J 95 b = I 95 b := fun b => e 95 b (by unfold scr; omega) (by omega)
  have e96 : ∀ b, J 96 b = I 96 b := fun b => e 96 b (by unfold scr; omega) (by omega)
  have e97 : ∀ b, J 97 b = I 97 b := fun b => e 97 b (by unfold scr; omega) (by omega)
  have e98 : ∀ b, J 98 b = I 98 b := fun b => e 98 b (by unfold scr; omega) (by omega)
  have e104 : ∀ b, J 104 b = I 104 b := fun b => e 104 b (by unfold scr; omega) (by omega)
  have e105 : ∀ b, J 105 b = I 105 b := fun b => e 105 b (by unfold scr; omega) (by omega)
  have q_nk : nkI J = nkI I := by unfold nkI; rw [e 85 35 (by unfold scr; omega) (by omega)]
  have q_nd : ndI J = ndI I := by unfold ndI; rw [e 85 36 (by unfold scr; omega) (by omega)]
  have q_nc : ncI J = ncI I := by unfold ncI; rw [e 85 31 (by unfold scr; omega) (by omega)]
  have q_md : mdI J = mdI I := by unfold mdI; rw [e 85 32 (by unfold scr; omega) (by omega)]
  have q_sz : szI J = szI I := by unfold szI; rw [e 85 34 (by unfold scr; omega) (by omega)]
  have q_nb : nbI J = nbI I := by unfold nbI; rw [e 85 46 (by unfold scr; omega) (by omega)]
  have q_dp : dpM J = dpM I := by funext k c; unfold dpM; rw [e86]
  have hkb := h.mi.kb
  have f1 : ∀ k, k < 16 → J (19 + k) 1 = I (19 + k) 1 := fun k hk => e (19 + k) 1 (by unfold scr; omega) (by omega)
  have f2 : ∀ k, k < 16 → J (19 + k) 2 = I (19 + k) 2 := fun k hk => e (19 + k) 2 (by unfold scr; omega) (by omega)
  have f3 : ∀ k, k < 16 → J (19 + k) 3 = I (19 + k) 3 := fun k hk => e (19 + k) 3 (by unfold scr; omega) (by omega)
  have f4 : ∀ k, k < 16 → J (19 + k) 4 = I (19 + k) 4 := fun k hk => e (19 + k) 4 (by unfold scr; omega) (by omega)
  have f5 : ∀ k, k < 16 → J (19 + k) 5 = I (19 + k) 5 := fun k hk => e (19 + k) 5 (by unfold scr; omega) (by omega)
  have g0 : ∀ d, d < 10 → J (R d) 0 = I (R d) 0 := fun d hd => by
    have := h.rr d hd
    exact e (R d) 0 (by unfold scr; omega) (by omega)
  have g1 : ∀ d, d < 10 → J (R d) 1 = I (R d) 1 := fun d hd => by
    have := h.rr d hd
    exact e (R d) 1 (by unfold scr; omega) (by omega)
  have g2 : ∀ d, d < 10 → J (R d) 2 = I (R d) 2 := fun d hd => by
    have := h.rr d hd
    exact e (R d) 2 (by unfold scr; omega) (by omega)
  refine ⟨m, ?_, ?_, ?_, ?_, ?_, ?_, ?_, ?_, ?_, ?_, ?_, ?_, ?_, ?_, ?_, ?_, ?_, ?_, ?_, ?_, ?_, ?_⟩
  · exact by rw [e 1 1 (by unfold scr; omega) (by omega), e 85 31 (by unfold scr; omega) (by omega)]; exact h.ch
  · exact by rw [e 1 2 (by unfold scr; omega) (by omega), e 85 32 (by unfold scr; omega) (by omega)]; exact h.dp
  · exact by rw [e 1 3 (by unfold scr; omega) (by omega), e 85 33 (by unfold scr; omega) (by omega)]; exact h.ap
  · exact by rw [e 1 6 (by unfold scr; omega) (by omega), e 85 34 (by unfold scr; omega) (by omega)]; exact h.sz
  · exact by rw [e 0 9 (by unfold scr; omega) (by omega), e 85 35 (by unfold scr; omega) (by omega)]; exact h.nk
  · exact by rw [e 0 10 (by unfold scr; omega) (by omega), e 85 36 (by unfold scr; omega) (by omega)]; exact h.nd
  · exact n_ct
  · exact by rw [e 0 12 (by unfold scr; omega) (by omega), e 85 46 (by unfold scr; omega) (by omega)]; exact h.nb
  · exact fun k hk => by
      rw [q_nk] at hk
      rw [eL0 k (by omega), q_dp, q_nc]; exact h.kc k hk
  · exact fun k hk => by
      rw [q_nk] at hk
      rw [e95, f1 k (by omega)]; exact h.kp k hk
  · exact fun k hk => by rw [e92, f2 k hk]; exact h.kl k hk
  · exact fun k hk => by rw [e89, f4 k hk]; exact h.kh k hk
  · exact fun k hk => by
      rw [q_nk] at hk
      rw [e89, e90, f5 k (by omega)]; exact h.kd k hk
  · exact fun k j hk hj => by
      rw [q_nk] at hk
      rw [f3 k (by omega), q_nk, e96, e96]; exact h.kr k j hk hj
  · exact fun d k hd hk => by rw [g1 d hd, e88]; exact h.wi d k hd hk
  · exact fun d k hd hk => by rw [g1 d hd]; exact h.w0 d k hd hk
  · exact fun d hd => by rw [e97, g0 d hd]; exact h.wa d hd
  · exact fun d hd => by rw [e98, g2 d hd]; exact h.bu d hd
  · exact h.rr
  · exact h.ri
  · exact by rw [eL1, q_sz]; simp only [e87]; exact h.to
  · exact fun b hb => by
      rw [q_nb] at hb
      rw [eL15]; simp only [e104, e105]; exact h.bl b hb
theorem MI_up_exch {I J : Nat → Nat → Int32} (hm : MI I) (e : ∀ a b, ¬ scr a b → ¬ (a = 88 ∨ a = 97 ∨ a = 98) → J a b = I a b)
    (n_wu : ∀ d k, k < 16 → tb (J 88 k) d = true → k < nkI J ∧ d < ndI J)
    (n_wf : ∀ d k, k < 16 → tb (J 88 k) d = true → (J 95 k &&& J 97 d) = 0) : MI J := by
  have e86 : ∀ b, J 86 b = I 86 b := fun b => e 86 b (by unfold scr; omega) (by omega)
  have e87 : ∀ b, J 87 b = I 87 b := fun b => e 87 b (by unfold scr; omega) (by omega)
  have e89 : ∀ b, J 89 b = I 89 b := fun b => e 89 b (by unfold scr; omega) (by omega)
  have e90 : ∀ b, J 90 b = I 90 b := fun b => e 90 b (by unfold scr; omega) (by omega)
  have e92 : ∀ b, J 92 b = I 92 b := fun b => e 92 b (by unfold scr; omega) (by omega)
  have e95 : ∀ b, J 95 b = I 95 b := fun b => e 95 b (by unfold scr; omega) (by omega)
  have e96 : ∀ b, J 96 b = I 96 b := fun b => e 96 b (by unfold scr; omega) (by omega)
  have e104 : ∀ b, J 104 b = I 104 b := fun b => e 104 b (by unfold scr; omega) (by omega)
  have e105 : ∀ b, J 105 b = I 105 b := fun b => e 105 b (by unfold scr; omega) (by omega)
  have q_nk : nkI J = nkI I := by unfold nkI; rw [e 85 35 (by unfold scr; omega) (by omega)]
  have q_nd : ndI J = ndI I := by unfold ndI; rw [e 85 36 (by unfold scr; omega) (by omega)]
  have q_nc : ncI J = ncI I := by unfold ncI; rw [e 85 31 (by unfold scr; omega) (by omega)]
  have q_md : mdI J = mdI I := by unfold mdI; rw [e 85 32 (by unfold scr; omega) (by omega)]
  have q_sz : szI J = szI I := by unfold szI; rw [e 85 34 (by unfold scr; omega) (by omega)]
  have q_nb : nbI J = nbI I := by unfold nbI; rw [e 85 46 (by unfold scr; omega) (by omega)]
  have q_ca : cA J = cA I := by funext d e2; unfold cA; rw [e 85 33 (by unfold scr; omega) (by omega)]
  have q_dp : dpM J = dpM I := by funext k c; unfold dpM; rw [e86]
  refine ⟨?_, ?_, ?_, ?_, ?_, ?_, ?_, ?_, ?_, ?_, ?_, ?_, ?_, ?_, ?_, ?_, ?_, ?_, ?_, ?_, ?_, ?_, ?_, ?_, ?_, ?_, ?_⟩
  · rw [e 85 35 (by unfold scr; omega) (by omega), q_nk]; exact hm.k
  · simp only [e86, e87, e89, e90, e92, e95, e96, e104, e105, q_nk, q_nd, q_nc, q_md, q_sz, q_nb, q_ca, q_dp]; exact hm.kb
  · rw [e 85 36 (by unfold scr; omega) (by omega), q_nd]; exact hm.d
  · simp only [e86, e87, e89, e90, e92, e95, e96, e104, e105, q_nk, q_nd, q_nc, q_md, q_sz, q_nb, q_ca, q_dp]; exact hm.db
  · rw [e 85 31 (by unfold scr; omega) (by omega), q_nc]; exact hm.c
  · simp only [e86, e87, e89, e90, e92, e95, e96, e104, e105, q_nk, q_nd, q_nc, q_md, q_sz, q_nb, q_ca, q_dp]; exact hm.c3
  · simp only [e86, e87, e89, e90, e92, e95, e96, e104, e105, q_nk, q_nd, q_nc, q_md, q_sz, q_nb, q_ca, q_dp]; exact hm.c6
  · rw [e 85 32 (by unfold scr; omega) (by omega), q_md]; exact hm.m
  · simp only [e86, e87, e89, e90, e92, e95, e96, e104, e105, q_nk, q_nd, q_nc, q_md, q_sz, q_nb, q_ca, q_dp]; exact hm.m2
  · simp only [e86, e87, e89, e90, e92, e95, e96, e104, e105, q_nk, q_nd, q_nc, q_md, q_sz, q_nb, q_ca, q_dp]; exact hm.m6
  · rw [e 85 34 (by unfold scr; omega) (by omega), q_sz]; exact hm.s
  · simp only [e86, e87, e89, e90, e92, e95, e96, e104, e105, q_nk, q_nd, q_nc, q_md, q_sz, q_nb, q_ca, q_dp]; exact hm.sc
  · rw [e 85 46 (by unfold scr; omega) (by omega), q_nb]; exact hm.b
  · simp only [e86, e87, e89, e90, e92, e95, e96, e104, e105, q_nk, q_nd, q_nc, q_md, q_sz, q_nb, q_ca, q_dp]; exact hm.bb
  · rw [e 85 33 (by unfold scr; omega) (by omega)]; exact hm.ap
  · simp only [e86, e87, e89, e90, e92, e95, e96, e104, e105, q_nk, q_nd, q_nc, q_md, q_sz, q_nb, q_ca, q_dp]; exact hm.dep
  · simp only [e86, e87, e89, e90, e92, e95, e96, e104, e105, q_nk, q_nd, q_nc, q_md, q_sz, q_nb, q_ca, q_dp]; exact hm.near
  · simp only [e86, e87, e89, e90, e92, e95, e96, e104, e105, q_nk, q_nd, q_nc, q_md, q_sz, q_nb, q_ca, q_dp]; exact hm.told
  · simp only [e86, e87, e89, e90, e92, e95, e96, e104, e105, q_nk, q_nd, q_nc, q_md, q_sz, q_nb, q_ca, q_dp]; exact hm.toldn
  · simp only [e86, e87, e89, e90, e92, e95, e96, e104, e105, q_nk, q_nd, q_nc, q_md, q_sz, q_nb, q_ca, q_dp]; exact hm.bs
  · simp only [e86, e87, e89, e90, e92, e95, e96, e104, e105, q_nk, q_nd, q_nc, q_md, q_sz, q_nb, q_ca, q_dp]; exact hm.bd
  · simp only [e86, e87, e89, e90, e92, e95, e96, e104, e105, q_nk, q_nd, q_nc, q_md, q_sz, q_nb, q_ca, q_dp]; exact hm.bp
  · simp only [e86, e87, e89, e90, e92, e95, e96, e104, e105, q_nk, q_nd, q_nc, q_md, q_sz, q_nb, q_ca, q_dp]; exact hm.rb
  · simp only [e86, e87, e89, e90, e92, e95, e96, e104, e105, q_nk, q_nd, q_nc, q_md, q_sz, q_nb, q_ca, q_dp]; exact hm.ru
  · exact n_wu
  · exact n_wf
  · simp only [e86, e87, e89, e90, e92, e95, e96, e104, e105, q_nk, q_nd, q_nc, q_md, q_sz, q_nb, q_ca, q_dp]; exact hm.hu
theorem RK_up_exch {I J : Nat → Nat → Int32} {L K : Nat → Nat → Int64} {R S : Nat → Nat} (h : RK I L R) (e : ∀ a b, ¬ scr a b → ¬ (a = 88 ∨ a = 97 ∨ a = 98) → J a b = I a b) (eL0 : ∀ k, k < 16 → K (19 + k) 0 = L (19 + k) 0) (eL1 : K 1 5 = L 1 5) (eL15 : ∀ b, K 15 b = L 15 b) (m : MI J)
    (n_wi : ∀ d k, d < 10 → k < 16 → tb (J (S d) 1) k = tb (J 88 k) d)
    (n_w0 : ∀ d k, d < 10 → 16 ≤ k → tb (J (S d) 1) k = false)
    (n_wa : ∀ d, d < 10 → J 97 d = J (S d) 0)
    (n_bu : ∀ d, d < 10 → J 98 d = J (S d) 2)
    (n_rr : ∀ d, d < 10 → 35 ≤ S d ∧ S d ≤ 44)
    (n_ri : ∀ d e, d < 10 → e < 10 → S d = S e → d = e) : RK J K S := by
  have e86 : ∀ b, J 86 b = I 86 b := fun b => e 86 b (by unfold scr; omega) (by omega)
  have e87 : ∀ b, J 87 b = I 87 b := fun b => e 87 b (by unfold scr; omega) (by omega)
  have e89 : ∀ b, J 89 b = I 89 b := fun b => e 89 b (by unfold scr; omega) (by omega)
  have e90 : ∀ b, J 90 b = I 90 b := fun b => e 90 b (by unfold scr; omega) (by omega)
  have e92 : ∀ b, J 92 b = I 92 b := fun b => e 92 b (by unfold scr; omega) (by omega)
  have e95 : ∀ b, J 95 b = I 95 b := fun b => e 95 b (by unfold scr; omega) (by omega)
  have e96 : ∀ b, J 96 b = I 96 b := fun b => e 96 b (by unfold scr; omega) (by omega)
  have e104 : ∀ b, J 104 b = I 104 b := fun b => e 104 b (by unfold scr; omega) (by omega)
  have e105 : ∀ b, J 105 b = I 105 b := fun b => e 105 b (by unfold scr; omega) (by omega)
  have q_nk : nkI J = nkI I := by unfold nkI; rw [e 85 35 (by unfold scr; omega) (by omega)]
  have q_nd : ndI J = ndI I := by unfold ndI; rw [e 85 36 (by unfold scr; omega) (by omega)]
  have q_nc : ncI J = ncI I := by unfold ncI; rw [e 85 31 (by unfold scr; omega) (by omega)]
  have q_md : mdI J = mdI I := by unfold mdI; rw [e 85 32 (by unfold scr; omega) (by omega)]
  have q_sz : szI J = szI I := by unfold szI; rw [e 85 34 (by unfold scr; omega) (by omega)]
  have q_nb : nbI J = nbI I := by unfold nbI; rw [e 85 46 (by unfold scr; omega) (by omega)]
  have q_dp : dpM J = dpM I := by funext k c; unfold dpM; rw [e86]
  have hkb := h.mi.kb
  have f1 : ∀ k, k < 16 → J (19 + k) 1 = I (19 + k) 1 := fun k hk => e (19 + k) 1 (by unfold scr; omega) (by omega)
  have f2 : ∀ k, k < 16 → J (19 + k) 2 = I (19 + k) 2 := fun k hk => e (19 + k) 2 (by unfold scr; omega) (by omega)
  have f3 : ∀ k, k < 16 → J (19 + k) 3 = I (19 + k) 3 := fun k hk => e (19 + k) 3 (by unfold scr; omega) (by omega)
  have f4 : ∀ k, k < 16 → J (19 + k) 4 = I (19 + k) 4 := fun k hk => e (19 + k) 4 (by unfold scr; omega) (by omega)
  have f5 : ∀ k, k < 16 → J (19 + k) 5 = I (19 + k) 5 := fun k hk => e (19 + k) 5 (by unfold scr; omega) (by omega)
  refine ⟨m, ?_, ?_, ?_, ?_, ?_, ?_, ?_, ?_, ?_, ?_, ?_, ?_, ?_, ?_, ?_, ?_, ?_, ?_, ?_, ?_, ?_, ?_⟩
  · exact by rw [e 1 1 (by unfold scr; omega) (by omega), e 85 31 (by unfold scr; omega) (by omega)]; exact h.ch
  · exact by rw [e 1 2 (by unfold scr; omega) (by omega), e 85 32 (by unfold scr; omega) (by omega)]; exact h.dp
  · exact by rw [e 1 3 (by unfold scr; omega) (by omega), e 85 33 (by unfold scr; omega) (by omega)]; exact h.ap
  · exact by rw [e 1 6 (by unfold scr; omega) (by omega), e 85 34 (by unfold scr; omega) (by omega)]; exact h.sz
  · exact by rw [e 0 9 (by unfold scr; omega) (by omega), e 85 35 (by unfold scr; omega) (by omega)]; exact h.nk
  · exact by rw [e 0 10 (by unfold scr; omega) (by omega), e 85 36 (by unfold scr; omega) (by omega)]; exact h.nd
  · exact by rw [e 0 17 (by unfold scr; omega) (by omega), e 85 44 (by unfold scr; omega) (by omega)]; exact h.ct
  · exact by rw [e 0 12 (by unfold scr; omega) (by omega), e 85 46 (by unfold scr; omega) (by omega)]; exact h.nb
  · exact fun k hk => by
      rw [q_nk] at hk
      rw [eL0 k (by omega), q_dp, q_nc]; exact h.kc k hk
  · exact fun k hk => by
      rw [q_nk] at hk
      rw [e95, f1 k (by omega)]; exact h.kp k hk
  · exact fun k hk => by rw [e92, f2 k hk]; exact h.kl k hk
  · exact fun k hk => by rw [e89, f4 k hk]; exact h.kh k hk
  · exact fun k hk => by
      rw [q_nk] at hk
      rw [e89, e90, f5 k (by omega)]; exact h.kd k hk
  · exact fun k j hk hj => by
      rw [q_nk] at hk
      rw [f3 k (by omega), q_nk, e96, e96]; exact h.kr k j hk hj
  · exact n_wi
  · exact n_w0
  · exact n_wa
  · exact n_bu
  · exact n_rr
  · exact n_ri
  · exact by rw [eL1, q_sz]; simp only [e87]; exact h.to
  · exact fun b hb => by
      rw [q_nb] at hb
      rw [eL15]; simp only [e104, e105]; exact h.bl b hb
theorem MI_up_ring {I J : Nat → Nat → Int32} (hm : MI I) (e : ∀ a b, ¬ scr a b → ¬ (a = 96 ∨ (19 ≤ a ∧ a ≤ 34 ∧ b = 3)) → J a b = I a b)
    (n_rb : ∀ k, k < nkI J → ∃ e, e < nkI J ∧ J 96 k = Int32.ofNat e)
    (n_ru : ∀ k, nkI J ≤ k → k < 16 → J 96 k = Int32.ofNat k) : MI J := by
  have e86 : ∀ b, J 86 b = I 86 b := fun b => e 86 b (by unfold scr; omega) (by omega)
  have e87 : ∀ b, J 87 b = I 87 b := fun b => e 87 b (by unfold scr; omega) (by omega)
  have e88 : ∀ b, J 88 b = I 88 b := fun b => e 88 b (by unfold scr; omega) (by omega)
  have e89 : ∀ b, J 89 b = I 89 b := fun b => e 89 b (by unfold scr; omega) (by omega)
  have e90 : ∀ b, J 90 b = I 90 b := fun b => e 90 b (by unfold scr; omega) (by omega)
  have e92 : ∀ b, J 92 b = I 92 b := fun b => e 92 b (by unfold scr; omega) (by omega)
  have e95 : ∀ b, J 95 b = I 95 b := fun b => e 95 b (by unfold scr; omega) (by omega)
  have e97 : ∀ b, J 97 b = I 97 b := fun b => e 97 b (by unfold scr; omega) (by omega)
  have e98 : ∀ b, J 98 b = I 98 b := fun b => e 98 b (by unfold scr; omega) (by omega)
  have e104 : ∀ b, J 104 b = I 104 b := fun b => e 104 b (by unfold scr; omega) (by omega)
  have e105 : ∀ b, J 105 b = I 105 b := fun b => e 105 b (by unfold scr; omega) (by omega)
  have q_nk : nkI J = nkI I := by unfold nkI; rw [e 85 35 (by unfold scr; omega) (by omega)]
  have q_nd : ndI J = ndI I := by unfold ndI; rw [e 85 36 (by unfold scr; omega) (by omega)]
  have q_nc : ncI J = ncI I := by unfold ncI; rw [e 85 31 (by unfold scr; omega) (by omega)]
  have q_md : mdI J = mdI I := by unfold mdI; rw [e 85 32 (by unfold scr; omega) (by omega)]
  have q_sz : szI J = szI I := by unfold szI; rw [e 85 34 (by unfold scr; omega) (by omega)]
  have q_nb : nbI J = nbI I := by unfold nbI; rw [e 85 46 (by unfold scr; omega) (by omega)]
  have q_ca : cA J = cA I := by funext d e2; unfold cA; rw [e 85 33 (by unfold scr; omega) (by omega)]
  have q_dp : dpM J = dpM I := by funext k c; unfold dpM; rw [e86]
  refine ⟨?_, ?_, ?_, ?_, ?_, ?_, ?_, ?_, ?_, ?_, ?_, ?_, ?_, ?_, ?_, ?_, ?_, ?_, ?_, ?_, ?_, ?_, ?_, ?_, ?_, ?_, ?_⟩
  · rw [e 85 35 (by unfold scr; omega) (by omega), q_nk]; exact hm.k
  · simp only [e86, e87, e88, e89, e90, e92, e95, e97, e98, e104, e105, q_nk, q_nd, q_nc, q_md, q_sz, q_nb, q_ca, q_dp]; exact hm.kb
  · rw [e 85 36 (by unfold scr; omega) (by omega), q_nd]; exact hm.d
  · simp only [e86, e87, e88, e89, e90, e92, e95, e97, e98, e104, e105, q_nk, q_nd, q_nc, q_md, q_sz, q_nb, q_ca, q_dp]; exact hm.db
  · rw [e 85 31 (by unfold scr; omega) (by omega), q_nc]; exact hm.c
  · simp only [e86, e87, e88, e89, e90, e92, e95, e97, e98, e104, e105, q_nk, q_nd, q_nc, q_md, q_sz, q_nb, q_ca, q_dp]; exact hm.c3
  · simp only [e86, e87, e88, e89, e90, e92, e95, e97, e98, e104, e105, q_nk, q_nd, q_nc, q_md, q_sz, q_nb, q_ca, q_dp]; exact hm.c6
  · rw [e 85 32 (by unfold scr; omega) (by omega), q_md]; exact hm.m
  · simp only [e86, e87, e88, e89, e90, e92, e95, e97, e98, e104, e105, q_nk, q_nd, q_nc, q_md, q_sz, q_nb, q_ca, q_dp]; exact hm.m2
  · simp only [e86, e87, e88, e89, e90, e92, e95, e97, e98, e104, e105, q_nk, q_nd, q_nc, q_md, q_sz, q_nb, q_ca, q_dp]; exact hm.m6
  · rw [e 85 34 (by unfold scr; omega) (by omega), q_sz]; exact hm.s
  · simp only [e86, e87, e88, e89, e90, e92, e95, e97, e98, e104, e105, q_nk, q_nd, q_nc, q_md, q_sz, q_nb, q_ca, q_dp]; exact hm.sc
  · rw [e 85 46 (by unfold scr; omega) (by omega), q_nb]; exact hm.b
  · simp only [e86, e87, e88, e89, e90, e92, e95, e97, e98, e104, e105, q_nk, q_nd, q_nc, q_md, q_sz, q_nb, q_ca, q_dp]; exact hm.bb
  · rw [e 85 33 (by unfold scr; omega) (by omega)]; exact hm.ap
  · simp only [e86, e87, e88, e89, e90, e92, e95, e97, e98, e104, e105, q_nk, q_nd, q_nc, q_md, q_sz, q_nb, q_ca, q_dp]; exact hm.dep
  · simp only [e86, e87, e88, e89, e90, e92, e95, e97, e98, e104, e105, q_nk, q_nd, q_nc, q_md, q_sz, q_nb, q_ca, q_dp]; exact hm.near
  · simp only [e86, e87, e88, e89, e90, e92, e95, e97, e98, e104, e105, q_nk, q_nd, q_nc, q_md, q_sz, q_nb, q_ca, q_dp]; exact hm.told
  · simp only [e86, e87, e88, e89, e90, e92, e95, e97, e98, e104, e105, q_nk, q_nd, q_nc, q_md, q_sz, q_nb, q_ca, q_dp]; exact hm.toldn
  · simp only [e86, e87, e88, e89, e90, e92, e95, e97, e98, e104, e105, q_nk, q_nd, q_nc, q_md, q_sz, q_nb, q_ca, q_dp]; exact hm.bs
  · simp only [e86, e87, e88, e89, e90, e92, e95, e97, e98, e104, e105, q_nk, q_nd, q_nc, q_md, q_sz, q_nb, q_ca, q_dp]; exact hm.bd
  · simp only [e86, e87, e88, e89, e90, e92, e95, e97, e98, e104, e105, q_nk, q_nd, q_nc, q_md, q_sz, q_nb, q_ca, q_dp]; exact hm.bp
  · exact n_rb
  · exact n_ru
  · simp only [e86, e87, e88, e89, e90, e92, e95, e97, e98, e104, e105, q_nk, q_nd, q_nc, q_md, q_sz, q_nb, q_ca, q_dp]; exact hm.wu
  · simp only [e86, e87, e88, e89, e90, e92, e95, e97, e98, e104, e105, q_nk, q_nd, q_nc, q_md, q_sz, q_nb, q_ca, q_dp]; exact hm.wf
  · simp only [e86, e87, e88, e89, e90, e92, e95, e97, e98, e104, e105, q_nk, q_nd, q_nc, q_md, q_sz, q_nb, q_ca, q_dp]; exact hm.hu
theorem RK_up_ring {I J : Nat → Nat → Int32} {L K : Nat → Nat → Int64} {R : Nat → Nat} (h : RK I L R) (e : ∀ a b, ¬ scr a b → ¬ (a = 96 ∨ (19 ≤ a ∧ a ≤ 34 ∧ b = 3)) → J a b = I a b) (eL0 : ∀ k, k < 16 → K (19 + k) 0 = L (19 + k) 0) (eL1 : K 1 5 = L 1 5) (eL15 : ∀ b, K 15 b = L 15 b) (m : MI J)
    (n_kr : ∀ k j, k < nkI J → j < 32 → (tb (J (19 + k) 3) j = true ↔ j < nkI J ∧ J 96 j = J 96 k)) : RK J K R := by
  have e86 : ∀ b, J 86 b = I 86 b := fun b => e 86 b (by unfold scr; omega) (by omega)
  have e87 : ∀ b, J 87 b = I 87 b := fun b => e 87 b (by unfold scr; omega) (by omega)
  have e88 : ∀ b, J 88 b = I 88 b := fun b => e 88 b (by unfold scr; omega) (by omega)
  have e89 : ∀ b, J 89 b = I 89 b := fun b => e 89 b (by unfold scr; omega) (by omega)
  have e90 : ∀ b, J 90 b = I 90 b := fun b => e 90 b (by unfold scr; omega) (by omega)
  have e92 : ∀ b, J 92 b = I 92 b := fun b => e 92 b (by unfold scr; omega) (by omega)
  have e95 : ∀ b, J 95 b = I 95 b := fun b => e 95 b (by unfold scr; omega) (by omega)
  have e97 : ∀ b, J 97 b = I 97 b := fun b => e 97 b (by unfold scr; omega) (by omega)
  have e98 : ∀ b, J 98 b = I 98 b := fun b => e 98 b (by unfold scr; omega) (by omega)
  have e104 : ∀ b, J 104 b = I 104 b := fun b => e 104 b (by unfold scr; omega) (by omega)
  have e105 : ∀ b, J 105 b = I 105 b := fun b => e 105 b (by unfold scr; omega) (by omega)
  have q_nk : nkI J = nkI I := by unfold nkI; rw [e 85 35 (by unfold scr; omega) (by omega)]
  have q_nd : ndI J = ndI I := by unfold ndI; rw [e 85 36 (by unfold scr; omega) (by omega)]
  have q_nc : ncI J = ncI I := by unfold ncI; rw [e 85 31 (by unfold scr; omega) (by omega)]
  have q_md : mdI J = mdI I := by unfold mdI; rw [e 85 32 (by unfold scr; omega) (by omega)]
  have q_sz : szI J = szI I := by unfold szI; rw [e 85 34 (by unfold scr; omega) (by omega)]
  have q_nb : nbI J = nbI I := by unfold nbI; rw [e 85 46 (by unfold scr; omega) (by omega)]
  have q_dp : dpM J = dpM I := by funext k c; unfold dpM; rw [e86]
  have hkb := h.mi.kb
  have f1 : ∀ k, k < 16 → J (19 + k) 1 = I (19 + k) 1 := fun k hk => e (19 + k) 1 (by unfold scr; omega) (by omega)
  have f2 : ∀ k, k < 16 → J (19 + k) 2 = I (19 + k) 2 := fun k hk => e (19 + k) 2 (by unfold scr; omega) (by omega)
  have f4 : ∀ k, k < 16 → J (19 + k) 4 = I (19 + k) 4 := fun k hk => e (19 + k) 4 (by unfold scr; omega) (by omega)
  have f5 : ∀ k, k < 16 → J (19 + k) 5 = I (19 + k) 5 := fun k hk => e (19 + k) 5 (by unfold scr; omega) (by omega)
  have g0 : ∀ d, d < 10 → J (R d) 0 = I (R d) 0 := fun d hd => by
    have := h.rr d hd
    exact e (R d) 0 (by unfold scr; omega) (by omega)
  have g1 : ∀ d, d < 10 → J (R d) 1 = I (R d) 1 := fun d hd => by
    have := h.rr d hd
    exact e (R d) 1 (by unfold scr; omega) (by omega)
  have g2 : ∀ d, d < 10 → J (R d) 2 = I (R d) 2 := fun d hd => by
    have := h.rr d hd
    exact e (R d) 2 (by unfold scr; omega) (by omega)
  refine ⟨m, ?_, ?_, ?_, ?_, ?_, ?_, ?_, ?_, ?_, ?_, ?_, ?_, ?_, ?_, ?_, ?_, ?_, ?_, ?_, ?_, ?_, ?_⟩
  · exact by rw [e 1 1 (by unfold scr; omega) (by omega), e 85 31 (by unfold scr; omega) (by omega)]; exact h.ch
  · exact by rw [e 1 2 (by unfold scr; omega) (by omega), e 85 32 (by unfold scr; omega) (by omega)]; exact h.dp
  · exact by rw [e 1 3 (by unfold scr; omega) (by omega), e 85 33 (by unfold scr; omega) (by omega)]; exact h.ap
  · exact by rw [e 1 6 (by unfold scr; omega) (by omega), e 85 34 (by unfold scr; omega) (by omega)]; exact h.sz
  · exact by rw [e 0 9 (by unfold scr; omega) (by omega), e 85 35 (by unfold scr; omega) (by omega)]; exact h.nk
  · exact by rw [e 0 10 (by unfold scr; omega) (by omega), e 85 36 (by unfold scr; omega) (by omega)]; exact h.nd
  · exact by rw [e 0 17 (by unfold scr; omega) (by omega), e 85 44 (by unfold scr; omega) (by omega)]; exact h.ct
  · exact by rw [e 0 12 (by unfold scr; omega) (by omega), e 85 46 (by unfold scr; omega) (by omega)]; exact h.nb
  · exact fun k hk => by
      rw [q_nk] at hk
      rw [eL0 k (by omega), q_dp, q_nc]; exact h.kc k hk
  · exact fun k hk => by
      rw [q_nk] at hk
      rw [e95, f1 k (by omega)]; exact h.kp k hk
  · exact fun k hk => by rw [e92, f2 k hk]; exact h.kl k hk
  · exact fun k hk => by rw [e89, f4 k hk]; exact h.kh k hk
  · exact fun k hk => by
      rw [q_nk] at hk
      rw [e89, e90, f5 k (by omega)]; exact h.kd k hk
  · exact n_kr
  · exact fun d k hd hk => by rw [g1 d hd, e88]; exact h.wi d k hd hk
  · exact fun d k hd hk => by rw [g1 d hd]; exact h.w0 d k hd hk
  · exact fun d hd => by rw [e97, g0 d hd]; exact h.wa d hd
  · exact fun d hd => by rw [e98, g2 d hd]; exact h.bu d hd
  · exact h.rr
  · exact h.ri
  · exact by rw [eL1, q_sz]; simp only [e87]; exact h.to
  · exact fun b hb => by
      rw [q_nb] at hb
      rw [eL15]; simp only [e104, e105]; exact h.bl b hb
theorem MI_up_lend {I J : Nat → Nat → Int32} (hm : MI I) (e : ∀ a b, ¬ scr a b → ¬ (a = 89 ∨ a = 90 ∨ (19 ≤ a ∧ a ≤ 34 ∧ b = 4) ∨ (19 ≤ a ∧ a ≤ 34 ∧ b = 5)) → J a b = I a b)
    (n_hu : ∀ k, nkI J ≤ k → k < 16 → J 89 k = -1) : MI J := by
  have e86 : ∀ b, J 86 b = I 86 b := fun b => e 86 b (by unfold scr; omega) (by omega)
  have e87 : ∀ b, J 87 b = I 87 b := fun b => e 87 b (by unfold scr; omega) (by omega)
  have e88 : ∀ b, J 88 b = I 88 b := fun b => e 88 b (by unfold scr; omega) (by omega)
  have e92 : ∀ b, J 92 b = I 92 b := fun b => e 92 b (by unfold scr; omega) (by omega)
  have e95 : ∀ b, J 95 b = I 95 b := fun b => e 95 b (by unfold scr; omega) (by omega)
  have e96 : ∀ b, J 96 b = I 96 b := fun b => e 96 b (by unfold scr; omega) (by omega)
  have e97 : ∀ b, J 97 b = I 97 b := fun b => e 97 b (by unfold scr; omega) (by omega)
  have e98 : ∀ b, J 98 b = I 98 b := fun b => e 98 b (by unfold scr; omega) (by omega)
  have e104 : ∀ b, J 104 b = I 104 b := fun b => e 104 b (by unfold scr; omega) (by omega)
  have e105 : ∀ b, J 105 b = I 105 b := fun b => e 105 b (by unfold scr; omega) (by omega)
  have q_nk : nkI J = nkI I := by unfold nkI; rw [e 85 35 (by unfold scr; omega) (by omega)]
  have q_nd : ndI J = ndI I := by unfold ndI; rw [e 85 36 (by unfold scr; omega) (by omega)]
  have q_nc : ncI J = ncI I := by unfold ncI; rw [e 85 31 (by unfold scr; omega) (by omega)]
  have q_md : mdI J = mdI I := by unfold mdI; rw [e 85 32 (by unfold scr; omega) (by omega)]
  have q_sz : szI J = szI I := by unfold szI; rw [e 85 34 (by unfold scr; omega) (by omega)]
  have q_nb : nbI J = nbI I := by unfold nbI; rw [e 85 46 (by unfold scr; omega) (by omega)]
  have q_ca : cA J = cA I := by funext d e2; unfold cA; rw [e 85 33 (by unfold scr; omega) (by omega)]
  have q_dp : dpM J = dpM I := by funext k c; unfold dpM; rw [e86]
  refine ⟨?_, ?_, ?_, ?_, ?_, ?_, ?_, ?_, ?_, ?_, ?_, ?_, ?_, ?_, ?_, ?_, ?_, ?_, ?_, ?_, ?_, ?_, ?_, ?_, ?_, ?_, ?_⟩
  · rw [e 85 35 (by unfold scr; omega) (by omega), q_nk]; exact hm.k
  · simp only [e86, e87, e88, e92, e95, e96, e97, e98, e104, e105, q_nk, q_nd, q_nc, q_md, q_sz, q_nb, q_ca, q_dp]; exact hm.kb
  · rw [e 85 36 (by unfold scr; omega) (by omega), q_nd]; exact hm.d
  · simp only [e86, e87, e88, e92, e95, e96, e97, e98, e104, e105, q_nk, q_nd, q_nc, q_md, q_sz, q_nb, q_ca, q_dp]; exact hm.db
  · rw [e 85 31 (by unfold scr; omega) (by omega), q_nc]; exact hm.c
  · simp only [e86, e87, e88, e92, e95, e96, e97, e98, e104, e105, q_nk, q_nd, q_nc, q_md, q_sz, q_nb, q_ca, q_dp]; exact hm.c3
  · simp only [e86, e87, e88, e92, e95, e96, e97, e98, e104, e105, q_nk, q_nd, q_nc, q_md, q_sz, q_nb, q_ca, q_dp]; exact hm.c6
  · rw [e 85 32 (by unfold scr; omega) (by omega), q_md]; exact hm.m
  · simp only [e86, e87, e88, e92, e95, e96, e97, e98, e104, e105, q_nk, q_nd, q_nc, q_md, q_sz, q_nb, q_ca, q_dp]; exact hm.m2
  · simp only [e86, e87, e88, e92, e95, e96, e97, e98, e104, e105, q_nk, q_nd, q_nc, q_md, q_sz, q_nb, q_ca, q_dp]; exact hm.m6
  · rw [e 85 34 (by unfold scr; omega) (by omega), q_sz]; exact hm.s
  · simp only [e86, e87, e88, e92, e95, e96, e97, e98, e104, e105, q_nk, q_nd, q_nc, q_md, q_sz, q_nb, q_ca, q_dp]; exact hm.sc
  · rw [e 85 46 (by unfold scr; omega) (by omega), q_nb]; exact hm.b
  · simp only [e86, e87, e88, e92, e95, e96, e97, e98, e104, e105, q_nk, q_nd, q_nc, q_md, q_sz, q_nb, q_ca, q_dp]; exact hm.bb
  · rw [e 85 33 (by unfold scr; omega) (by omega)]; exact hm.ap
  · simp only [e86, e87, e88, e92, e95, e96, e97, e98, e104, e105, q_nk, q_nd, q_nc, q_md, q_sz, q_nb, q_ca, q_dp]; exact hm.dep
  · simp only [e86, e87, e88, e92, e95, e96, e97, e98, e104, e105, q_nk, q_nd, q_nc, q_md, q_sz, q_nb, q_ca, q_dp]; exact hm.near
  · simp only [e86, e87, e88, e92, e95, e96, e97, e98, e104, e105, q_nk, q_nd, q_nc, q_md, q_sz, q_nb, q_ca, q_dp]; exact hm.told
  · simp only [e86, e87, e88, e92, e95, e96, e97, e98, e104, e105, q_nk, q_nd, q_nc, q_md, q_sz, q_nb, q_ca, q_dp]; exact hm.toldn
  · simp only [e86, e87, e88, e92, e95, e96, e97, e98, e104, e105, q_nk, q_nd, q_nc, q_md, q_sz, q_nb, q_ca, q_dp]; exact hm.bs
  · simp only [e86, e87, e88, e92, e95, e96, e97, e98, e104, e105, q_nk, q_nd, q_nc, q_md, q_sz, q_nb, q_ca, q_dp]; exact hm.bd
  · simp only [e86, e87, e88, e92, e95, e96, e97, e98, e104, e105, q_nk, q_nd, q_nc, q_md, q_sz, q_nb, q_ca, q_dp]; exact hm.bp
  · simp only [e86, e87, e88, e92, e95, e96, e97, e98, e104, e105, q_nk, q_nd, q_nc, q_md, q_sz, q_nb, q_ca, q_dp]; exact hm.rb
  · simp only [e86, e87, e88, e92, e95, e96, e97, e98, e104, e105, q_nk, q_nd, q_nc, q_md, q_sz, q_nb, q_ca, q_dp]; exact hm.ru
  · simp only [e86, e87, e88, e92, e95, e96, e97, e98, e104, e105, q_nk, q_nd, q_nc, q_md, q_sz, q_nb, q_ca, q_dp]; exact hm.wu
  · simp only [e86, e87, e88, e92, e95, e96, e97, e98, e104, e105, q_nk, q_nd, q_nc, q_md, q_sz, q_nb, q_ca, q_dp]; exact hm.wf
  · exact n_hu
theorem RK_up_lend {I J : Nat → Nat → Int32} {L K : Nat → Nat → Int64} {R : Nat → Nat} (h : RK I L R) (e : ∀ a b, ¬ scr a b → ¬ (a = 89 ∨ a = 90 ∨ (19 ≤ a ∧ a ≤ 34 ∧ b = 4) ∨ (19 ≤ a ∧ a ≤ 34 ∧ b = 5)) → J a b = I a b) (eL0 : ∀ k, k < 16 → K (19 + k) 0 = L (19 + k) 0) (eL1 : K 1 5 = L 1 5) (eL15 : ∀ b, K 15 b = L 15 b) (m : MI J)
    (n_kh : ∀ k, k < 16 → J 89 k = J (19 + k) 4)
    (n_kd : ∀ k, k < nkI J → ¬ J 89 k = -1 → J 90 k = J (19 + k) 5) : RK J K R := by
  have e86 : ∀ b, J 86 b = I 86 b := fun b => e 86 b (by unfold scr; omega) (by omega)
  have e87 : ∀ b, J 87 b = I 87 b := fun b => e 87 b (by unfold scr; omega) (by omega)
  have e88 : ∀ b, J 88 b = I 88 b := fun b => e 88 b (by unfold scr; omega) (by omega)
  have e92 : ∀ b, J 92 b = I 92 b := fun b => e 92 b (by unfold scr; omega) (by omega)
  have e95 : ∀ b, J 95 b = I 95 b := fun b => e 95 b (by unfold scr; omega) (by omega)
  have e96 : ∀ b, J 96 b = I 96 b := fun b => e 96 b (by unfold scr; omega) (by omega)
  have e97 : ∀ b, J 97 b = I 97 b := fun b => e 97 b (by unfold scr; omega) (by omega)
  have e98 : ∀ b, J 98 b = I 98 b := fun b => e 98 b (by unfold scr; omega) (by omega)
  have e104 : ∀ b, J 104 b = I 104 b := fun b => e 104 b (by unfold scr; omega) (by omega)
  have e105 : ∀ b, J 105 b = I 105 b := fun b => e 105 b (by unfold scr; omega) (by omega)
  have q_nk : nkI J = nkI I := by unfold nkI; rw [e 85 35 (by unfold scr; omega) (by omega)]
  have q_nd : ndI J = ndI I := by unfold ndI; rw [e 85 36 (by unfold scr; omega) (by omega)]
  have q_nc : ncI J = ncI I := by unfold ncI; rw [e 85 31 (by unfold scr; omega) (by omega)]
  have q_md : mdI J = mdI I := by unfold mdI; rw [e 85 32 (by unfold scr; omega) (by omega)]
  have q_sz : szI J = szI I := by unfold szI; rw [e 85 34 (by unfold scr; omega) (by omega)]
  have q_nb : nbI J = nbI I := by unfold nbI; rw [e 85 46 (by unfold scr; omega) (by omega)]
  have q_dp : dpM J = dpM I := by funext k c; unfold dpM; rw [e86]
  have hkb := h.mi.kb
  have f1 : ∀ k, k < 16 → J (19 + k) 1 = I (19 + k) 1 := fun k hk => e (19 + k) 1 (by unfold scr; omega) (by omega)
  have f2 : ∀ k, k < 16 → J (19 + k) 2 = I (19 + k) 2 := fun k hk => e (19 + k) 2 (by unfold scr; omega) (by omega)
  have f3 : ∀ k, k < 16 → J (19 + k) 3 = I (19 + k) 3 := fun k hk => e (19 + k) 3 (by unfold scr; omega) (by omega)
  have g0 : ∀ d, d < 10 → J (R d) 0 = I (R d) 0 := fun d hd => by
    have := h.rr d hd
    exact e (R d) 0 (by unfold scr; omega) (by omega)
  have g1 : ∀ d, d < 10 → J (R d) 1 = I (R d) 1 := fun d hd => by
    have := h.rr d hd
    exact e (R d) 1 (by unfold scr; omega) (by omega)
  have g2 : ∀ d, d < 10 → J (R d) 2 = I (R d) 2 := fun d hd => by
    have := h.rr d hd
    exact e (R d) 2 (by unfold scr; omega) (by omega)
  refine ⟨m, ?_, ?_, ?_, ?_, ?_, ?_, ?_, ?_, ?_, ?_, ?_, ?_, ?_, ?_, ?_, ?_, ?_, ?_, ?_, ?_, ?_, ?_⟩
  · exact by rw [e 1 1 (by unfold scr; omega) (by omega), e 85 31 (by unfold scr; omega) (by omega)]; exact h.ch
  · exact by rw [e 1 2 (by unfold scr; omega) (by omega), e 85 32 (by unfold scr; omega) (by omega)]; exact h.dp
  · exact by rw [e 1 3 (by unfold scr; omega) (by omega), e 85 33 (by unfold scr; omega) (by omega)]; exact h.ap
  · exact by rw [e 1 6 (by unfold scr; omega) (by omega), e 85 34 (by unfold scr; omega) (by omega)]; exact h.sz
  · exact by rw [e 0 9 (by unfold scr; omega) (by omega), e 85 35 (by unfold scr; omega) (by omega)]; exact h.nk
  · exact by rw [e 0 10 (by unfold scr; omega) (by omega), e 85 36 (by unfold scr; omega) (by omega)]; exact h.nd
  · exact by rw [e 0 17 (by unfold scr; omega) (by omega), e 85 44 (by unfold scr; omega) (by omega)]; exact h.ct
  · exact by rw [e 0 12 (by unfold scr; omega) (by omega), e 85 46 (by unfold scr; omega) (by omega)]; exact h.nb
  · exact fun k hk => by
      rw [q_nk] at hk
      rw [eL0 k (by omega), q_dp, q_nc]; exact h.kc k hk
  · exact fun k hk => by
      rw [q_nk] at hk
      rw [e95, f1 k (by omega)]; exact h.kp k hk
  · exact fun k hk => by rw [e92, f2 k hk]; exact h.kl k hk
  · exact n_kh
  · exact n_kd
  · exact fun k j hk hj => by
      rw [q_nk] at hk
      rw [f3 k (by omega), q_nk, e96, e96]; exact h.kr k j hk hj
  · exact fun d k hd hk => by rw [g1 d hd, e88]; exact h.wi d k hd hk
  · exact fun d k hd hk => by rw [g1 d hd]; exact h.w0 d k hd hk
  · exact fun d hd => by rw [e97, g0 d hd]; exact h.wa d hd
  · exact fun d hd => by rw [e98, g2 d hd]; exact h.bu d hd
  · exact h.rr
  · exact h.ri
  · exact by rw [eL1, q_sz]; simp only [e87]; exact h.to
  · exact fun b hb => by
      rw [q_nb] at hb
      rw [eL15]; simp only [e104, e105]; exact h.bl b hb
theorem MI_up_mach {I J : Nat → Nat → Int32} (hm : MI I) (e : ∀ a b, ¬ scr a b → ¬ ((a = 85 ∧ b = 33) ∨ (a = 1 ∧ b = 3) ∨ (a = 1 ∧ b = 2) ∨ (a = 1 ∧ b = 1) ∨ (a = 1 ∧ b = 6) ∨ (a = 85 ∧ b = 32) ∨ (a = 85 ∧ b = 31) ∨ (a = 85 ∧ b = 34)) → J a b = I a b)
    (n_c : J 85 31 = Int32.ofNat (ncI J))
    (n_c3 : 3 ≤ ncI J)
    (n_c6 : ncI J ≤ 6)
    (n_m : J 85 32 = Int32.ofNat (mdI J))
    (n_m2 : 2 ≤ mdI J)
    (n_m6 : mdI J ≤ 6)
    (n_s : J 85 34 = Int32.ofNat (szI J))
    (n_sc : szI J ≤ ncI J)
    (n_ap : inR (J 85 33) 1 5)
    (n_dep : ∀ k c, k < nkI J → c < ncI J → ∃ e, e < mdI J ∧ J 86 (6 * k + c) = Int32.ofNat e)
    (n_near : ∀ k c, k < nkI J → c + 1 < ncI J → cA J (dpM J k (c + 1)) (dpM J k c) = true)
    (n_told : ∀ c, c < szI J → ∃ e, e < mdI J ∧ J 87 c = Int32.ofNat e)
    (n_toldn : ∀ c, c + 1 < szI J → cA J (J 87 (c + 1)).toNatClampNeg (J 87 c).toNatClampNeg = true)
    (n_bs : ∀ b, b < nbI J → ∃ e, 1 ≤ e ∧ e ≤ ncI J ∧ J 104 b = Int32.ofNat e)
    (n_bd : ∀ b c, b < nbI J → c < (J 104 b).toNatClampNeg → ∃ e, e < mdI J ∧ J 105 (6 * b + c) = Int32.ofNat e) : MI J := by
  have e86 : ∀ b, J 86 b = I 86 b := fun b => e 86 b (by unfold scr; omega) (by omega)
  have e87 : ∀ b, J 87 b = I 87 b := fun b => e 87 b (by unfold scr; omega) (by omega)
  have e88 : ∀ b, J 88 b = I 88 b := fun b => e 88 b (by unfold scr; omega) (by omega)
  have e89 : ∀ b, J 89 b = I 89 b := fun b => e 89 b (by unfold scr; omega) (by omega)
  have e90 : ∀ b, J 90 b = I 90 b := fun b => e 90 b (by unfold scr; omega) (by omega)
  have e92 : ∀ b, J 92 b = I 92 b := fun b => e 92 b (by unfold scr; omega) (by omega)
  have e95 : ∀ b, J 95 b = I 95 b := fun b => e 95 b (by unfold scr; omega) (by omega)
  have e96 : ∀ b, J 96 b = I 96 b := fun b => e 96 b (by unfold scr; omega) (by omega)
  have e97 : ∀ b, J 97 b = I 97 b := fun b => e 97 b (by unfold scr; omega) (by omega)
  have e98 : ∀ b, J 98 b = I 98 b := fun b => e 98 b (by unfold scr; omega) (by omega)
  have e104 : ∀ b, J 104 b = I 104 b := fun b => e 104 b (by unfold scr; omega) (by omega)
  have e105 : ∀ b, J 105 b = I 105 b := fun b => e 105 b (by unfold scr; omega) (by omega)
  have q_nk : nkI J = nkI I := by unfold nkI; rw [e 85 35 (by unfold scr; omega) (by omega)]
  have q_nd : ndI J = ndI I := by unfold ndI; rw [e 85 36 (by unfold scr; omega) (by omega)]
  have q_nb : nbI J = nbI I := by unfold nbI; rw [e 85 46 (by unfold scr; omega) (by omega)]
  have q_dp : dpM J = dpM I := by funext k c; unfold dpM; rw [e86]
  refine ⟨?_, ?_, ?_, ?_, ?_, ?_, ?_, ?_, ?_, ?_, ?_, ?_, ?_, ?_, ?_, ?_, ?_, ?_, ?_, ?_, ?_, ?_, ?_, ?_, ?_, ?_, ?_⟩
  · rw [e 85 35 (by unfold scr; omega) (by omega), q_nk]; exact hm.k
  · simp only [e86, e87, e88, e89, e90, e92, e95, e96, e97, e98, e104, e105, q_nk, q_nd, q_nb, q_dp]; exact hm.kb
  · rw [e 85 36 (by unfold scr; omega) (by omega), q_nd]; exact hm.d
  · simp only [e86, e87, e88, e89, e90, e92, e95, e96, e97, e98, e104, e105, q_nk, q_nd, q_nb, q_dp]; exact hm.db
  · exact n_c
  · exact n_c3
  · exact n_c6
  · exact n_m
  · exact n_m2
  · exact n_m6
  · exact n_s
  · exact n_sc
  · rw [e 85 46 (by unfold scr; omega) (by omega), q_nb]; exact hm.b
  · simp only [e86, e87, e88, e89, e90, e92, e95, e96, e97, e98, e104, e105, q_nk, q_nd, q_nb, q_dp]; exact hm.bb
  · exact n_ap
  · exact n_dep
  · exact n_near
  · exact n_told
  · exact n_toldn
  · exact n_bs
  · exact n_bd
  · simp only [e86, e87, e88, e89, e90, e92, e95, e96, e97, e98, e104, e105, q_nk, q_nd, q_nb, q_dp]; exact hm.bp
  · simp only [e86, e87, e88, e89, e90, e92, e95, e96, e97, e98, e104, e105, q_nk, q_nd, q_nb, q_dp]; exact hm.rb
  · simp only [e86, e87, e88, e89, e90, e92, e95, e96, e97, e98, e104, e105, q_nk, q_nd, q_nb, q_dp]; exact hm.ru
  · simp only [e86, e87, e88, e89, e90, e92, e95, e96, e97, e98, e104, e105, q_nk, q_nd, q_nb, q_dp]; exact hm.wu
  · simp only [e86, e87, e88, e89, e90, e92, e95, e96, e97, e98, e104, e105, q_nk, q_nd, q_nb, q_dp]; exact hm.wf
  · simp only [e86, e87, e88, e89, e90, e92, e95, e96, e97, e98, e104, e105, q_nk, q_nd, q_nb, q_dp]; exact hm.hu
theorem RK_up_mach {I J : Nat → Nat → Int32} {L K : Nat → Nat → Int64} {R : Nat → Nat} (h : RK I L R) (e : ∀ a b, ¬ scr a b → ¬ ((a = 85 ∧ b = 33) ∨ (a = 1 ∧ b = 3) ∨ (a = 1 ∧ b = 2) ∨ (a = 1 ∧ b = 1) ∨ (a = 1 ∧ b = 6) ∨ (a = 85 ∧ b = 32) ∨ (a = 85 ∧ b = 31) ∨ (a = 85 ∧ b = 34)) → J a b = I a b) (eL0 : ∀ k, k < 16 → K (19 + k) 0 = L (19 + k) 0) (eL15 : ∀ b, K 15 b = L 15 b) (m : MI J)
    (n_ch : J 1 1 = J 85 31)
    (n_dp : J 1 2 = J 85 32)
    (n_ap : J 1 3 = J 85 33)
    (n_sz : J 1 6 = J 85 34)
    (n_kc : ∀ k, k < nkI J → isCuts (K (19 + k) 0) (dpM J k) (ncI J))
    (n_to : isCuts (K 1 5) (fun c => (J 87 c).toNatClampNeg) (szI J)) : RK J K R := by
  have e86 : ∀ b, J 86 b = I 86 b := fun b => e 86 b (by unfold scr; omega) (by omega)
  have e87 : ∀ b, J 87 b = I 87 b := fun b => e 87 b (by unfold scr; omega) (by omega)
  have e88 : ∀ b, J 88 b = I 88 b := fun b => e 88 b (by unfold scr; omega) (by omega)
  have e89 : ∀ b, J 89 b = I 89 b := fun b => e 89 b (by unfold scr; omega) (by omega)
  have e90 : ∀ b, J 90 b = I 90 b := fun b => e 90 b (by unfold scr; omega) (by omega)
  have e92 : ∀ b, J 92 b = I 92 b := fun b => e 92 b (by unfold scr; omega) (by omega)
  have e95 : ∀ b, J 95 b = I 95 b := fun b => e 95 b (by unfold scr; omega) (by omega)
  have e96 : ∀ b, J 96 b = I 96 b := fun b => e 96 b (by unfold scr; omega) (by omega)
  have e97 : ∀ b, J 97 b = I 97 b := fun b => e 97 b (by unfold scr; omega) (by omega)
  have e98 : ∀ b, J 98 b = I 98 b := fun b => e 98 b (by unfold scr; omega) (by omega)
  have e104 : ∀ b, J 104 b = I 104 b := fun b => e 104 b (by unfold scr; omega) (by omega)
  have e105 : ∀ b, J 105 b = I 105 b := fun b => e 105 b (by unfold scr; omega) (by omega)
  have q_nk : nkI J = nkI I := by unfold nkI; rw [e 85 35 (by unfold scr; omega) (by omega)]
  have q_nd : ndI J = ndI I := by unfold ndI; rw [e 85 36 (by unfold scr; omega) (by omega)]
  have q_nb : nbI J = nbI I := by unfold nbI; rw [e 85 46 (by unfold scr; omega) (by omega)]
  have q_dp : dpM J = dpM I := by funext k c; unfold dpM; rw [e86]
  have hkb := h.mi.kb
  have f1 : ∀ k, k < 16 → J (19 + k) 1 = I (19 + k) 1 := fun k hk => e (19 + k) 1 (by unfold scr; omega) (by omega)
  have f2 : ∀ k, k < 16 → J (19 + k) 2 = I (19 + k) 2 := fun k hk => e (19 + k) 2 (by unfold scr; omega) (by omega)
  have f3 : ∀ k, k < 16 → J (19 + k) 3 = I (19 + k) 3 := fun k hk => e (19 + k) 3 (by unfold scr; omega) (by omega)
  have f4 : ∀ k, k < 16 → J (19 + k) 4 = I (19 + k) 4 := fun k hk => e (19 + k) 4 (by unfold scr; omega) (by omega)
  have f5 : ∀ k, k < 16 → J (19 + k) 5 = I (19 + k) 5 := fun k hk => e (19 + k) 5 (by unfold scr; omega) (by omega)
  have g0 : ∀ d, d < 10 → J (R d) 0 = I (R d) 0 := fun d hd => by
    have := h.rr d hd
    exact e (R d) 0 (by unfold scr; omega) (by omega)
  have g1 : ∀ d, d < 10 → J (R d) 1 = I (R d) 1 := fun d hd => by
    have := h.rr d hd
    exact e (R d) 1 (by unfold scr; omega) (by omega)
  have g2 : ∀ d, d < 10 → J (R d) 2 = I (R d) 2 := fun d hd => by
    have := h.rr d hd
    exact e (R d) 2 (by unfold scr; omega) (by omega)
  refine ⟨m, ?_, ?_, ?_, ?_, ?_, ?_, ?_, ?_, ?_, ?_, ?_, ?_, ?_, ?_, ?_, ?_, ?_, ?_, ?_, ?_, ?_, ?_⟩
  · exact n_ch
  · exact n_dp
  · exact n_ap
  · exact n_sz
  · exact by rw [e 0 9 (by unfold scr; omega) (by omega), e 85 35 (by unfold scr; omega) (by omega)]; exact h.nk
  · exact by rw [e 0 10 (by unfold scr; omega) (by omega), e 85 36 (by unfold scr; omega) (by omega)]; exact h.nd
  · exact by rw [e 0 17 (by unfold scr; omega) (by omega), e 85 44 (by unfold scr; omega) (by omega)]; exact h.ct
  · exact by rw [e 0 12 (by unfold scr; omega) (by omega), e 85 46 (by unfold scr; omega) (by omega)]; exact h.nb
  · exact n_kc
  · exact fun k hk => by
      rw [q_nk] at hk
      rw [e95, f1 k (by omega)]; exact h.kp k hk
  · exact fun k hk => by rw [e92, f2 k hk]; exact h.kl k hk
  · exact fun k hk => by rw [e89, f4 k hk]; exact h.kh k hk
  · exact fun k hk => by
      rw [q_nk] at hk
      rw [e89, e90, f5 k (by omega)]; exact h.kd k hk
  · exact fun k j hk hj => by
      rw [q_nk] at hk
      rw [f3 k (by omega), q_nk, e96, e96]; exact h.kr k j hk hj
  · exact fun d k hd hk => by rw [g1 d hd, e88]; exact h.wi d k hd hk
  · exact fun d k hd hk => by rw [g1 d hd]; exact h.w0 d k hd hk
  · exact fun d hd => by rw [e97, g0 d hd]; exact h.wa d hd
  · exact fun d hd => by rw [e98, g2 d hd]; exact h.bu d hd
  · exact h.rr
  · exact h.ri
  · exact n_to
  · exact fun b hb => by
      rw [q_nb] at hb
      rw [eL15]; simp only [e104, e105]; exact h.bl b hb
theorem MI_up_cut {I J : Nat → Nat → Int32} (hm : MI I) (e : ∀ a b, ¬ scr a b → ¬ (a = 87 ∨ (a = 1 ∧ b = 6) ∨ (a = 85 ∧ b = 34)) → J a b = I a b)
    (n_s : J 85 34 = Int32.ofNat (szI J))
    (n_sc : szI J ≤ ncI J)
    (n_told : ∀ c, c < szI J → ∃ e, e < mdI J ∧ J 87 c = Int32.ofNat e)
    (n_toldn : ∀ c, c + 1 < szI J → cA J (J 87 (c + 1)).toNatClampNeg (J 87 c).toNatClampNeg = true) : MI J := by
  have e86 : ∀ b, J 86 b = I 86 b := fun b => e 86 b (by unfold scr; omega) (by omega)
  have e88 : ∀ b, J 88 b = I 88 b := fun b => e 88 b (by unfold scr; omega) (by omega)
  have e89 : ∀ b, J 89 b = I 89 b := fun b => e 89 b (by unfold scr; omega) (by omega)
  have e90 : ∀ b, J 90 b = I 90 b := fun b => e 90 b (by unfold scr; omega) (by omega)
  have e92 : ∀ b, J 92 b = I 92 b := fun b => e 92 b (by unfold scr; omega) (by omega)
  have e95 : ∀ b, J 95 b = I 95 b := fun b => e 95 b (by unfold scr; omega) (by omega)
  have e96 : ∀ b, J 96 b = I 96 b := fun b => e 96 b (by unfold scr; omega) (by omega)
  have e97 : ∀ b, J 97 b = I 97 b := fun b => e 97 b (by unfold scr; omega) (by omega)
  have e98 : ∀ b, J 98 b = I 98 b := fun b => e 98 b (by unfold scr; omega) (by omega)
  have e104 : ∀ b, J 104 b = I 104 b := fun b => e 104 b (by unfold scr; omega) (by omega)
  have e105 : ∀ b, J 105 b = I 105 b := fun b => e 105 b (by unfold scr; omega) (by omega)
  have q_nk : nkI J = nkI I := by unfold nkI; rw [e 85 35 (by unfold scr; omega) (by omega)]
  have q_nd : ndI J = ndI I := by unfold ndI; rw [e 85 36 (by unfold scr; omega) (by omega)]
  have q_nc : ncI J = ncI I := by unfold ncI; rw [e 85 31 (by unfold scr; omega) (by omega)]
  have q_md : mdI J = mdI I := by unfold mdI; rw [e 85 32 (by unfold scr; omega) (by omega)]
  have q_nb : nbI J = nbI I := by unfold nbI; rw [e 85 46 (by unfold scr; omega) (by omega)]
  have q_ca : cA J = cA I := by funext d e2; unfold cA; rw [e 85 33 (by unfold scr; omega) (by omega)]
  have q_dp : dpM J = dpM I := by funext k c; unfold dpM; rw [e86]
  refine ⟨?_, ?_, ?_, ?_, ?_, ?_, ?_, ?_, ?_, ?_, ?_, ?_, ?_, ?_, ?_, ?_, ?_, ?_, ?_, ?_, ?_, ?_, ?_, ?_, ?_, ?_, ?_⟩
  · rw [e 85 35 (by unfold scr; omega) (by omega), q_nk]; exact hm.k
  · simp only [e86, e88, e89, e90, e92, e95, e96, e97, e98, e104, e105, q_nk, q_nd, q_nc, q_md, q_nb, q_ca, q_dp]; exact hm.kb
  · rw [e 85 36 (by unfold scr; omega) (by omega), q_nd]; exact hm.d
  · simp only [e86, e88, e89, e90, e92, e95, e96, e97, e98, e104, e105, q_nk, q_nd, q_nc, q_md, q_nb, q_ca, q_dp]; exact hm.db
  · rw [e 85 31 (by unfold scr; omega) (by omega), q_nc]; exact hm.c
  · simp only [e86, e88, e89, e90, e92, e95, e96, e97, e98, e104, e105, q_nk, q_nd, q_nc, q_md, q_nb, q_ca, q_dp]; exact hm.c3
  · simp only [e86, e88, e89, e90, e92, e95, e96, e97, e98, e104, e105, q_nk, q_nd, q_nc, q_md, q_nb, q_ca, q_dp]; exact hm.c6
  · rw [e 85 32 (by unfold scr; omega) (by omega), q_md]; exact hm.m
  · simp only [e86, e88, e89, e90, e92, e95, e96, e97, e98, e104, e105, q_nk, q_nd, q_nc, q_md, q_nb, q_ca, q_dp]; exact hm.m2
  · simp only [e86, e88, e89, e90, e92, e95, e96, e97, e98, e104, e105, q_nk, q_nd, q_nc, q_md, q_nb, q_ca, q_dp]; exact hm.m6
  · exact n_s
  · exact n_sc
  · rw [e 85 46 (by unfold scr; omega) (by omega), q_nb]; exact hm.b
  · simp only [e86, e88, e89, e90, e92, e95, e96, e97, e98, e104, e105, q_nk, q_nd, q_nc, q_md, q_nb, q_ca, q_dp]; exact hm.bb
  · rw [e 85 33 (by unfold scr; omega) (by omega)]; exact hm.ap
  · simp only [e86, e88, e89, e90, e92, e95, e96, e97, e98, e104, e105, q_nk, q_nd, q_nc, q_md, q_nb, q_ca, q_dp]; exact hm.dep
  · simp only [e86, e88, e89, e90, e92, e95, e96, e97, e98, e104, e105, q_nk, q_nd, q_nc, q_md, q_nb, q_ca, q_dp]; exact hm.near
  · exact n_told
  · exact n_toldn
  · simp only [e86, e88, e89, e90, e92, e95, e96, e97, e98, e104, e105, q_nk, q_nd, q_nc, q_md, q_nb, q_ca, q_dp]; exact hm.bs
  · simp only [e86, e88, e89, e90, e92, e95, e96, e97, e98, e104, e105, q_nk, q_nd, q_nc, q_md, q_nb, q_ca, q_dp]; exact hm.bd
  · simp only [e86, e88, e89, e90, e92, e95, e96, e97, e98, e104, e105, q_nk, q_nd, q_nc, q_md, q_nb, q_ca, q_dp]; exact hm.bp
  · simp only [e86, e88, e89, e90, e92, e95, e96, e97, e98, e104, e105, q_nk, q_nd, q_nc, q_md, q_nb, q_ca, q_dp]; exact hm.rb
  · simp only [e86, e88, e89, e90, e92, e95, e96, e97, e98, e104, e105, q_nk, q_nd, q_nc, q_md, q_nb, q_ca, q_dp]; exact hm.ru
  · simp only [e86, e88, e89, e90, e92, e95, e96, e97, e98, e104, e105, q_nk, q_nd, q_nc, q_md, q_nb, q_ca, q_dp]; exact hm.wu
  · simp only [e86, e88, e89, e90, e92, e95, e96, e97, e98, e104, e105, q_nk, q_nd, q_nc, q_md, q_nb, q_ca, q_dp]; exact hm.wf
  · simp only [e86, e88, e89, e90, e92, e95, e96, e97, e98, e104, e105, q_nk, q_nd, q_nc, q_md, q_nb, q_ca, q_dp]; exact hm.hu
theorem RK_up_cut {I J : Nat → Nat → Int32} {L K : Nat → Nat → Int64} {R : Nat → Nat} (h : RK I L R) (e : ∀ a b, ¬ scr a b → ¬ (a = 87 ∨ (a = 1 ∧ b = 6) ∨ (a = 85 ∧ b = 34)) → J a b = I a b) (eL0 : ∀ k, k < 16 → K (19 + k) 0 = L (19 + k) 0) (eL15 : ∀ b, K 15 b = L 15 b) (m : MI J)
    (n_sz : J 1 6 = J 85 34)
    (n_to : isCuts (K 1 5) (fun c => (J 87 c).toNatClampNeg) (szI J)) : RK J K R := by
  have e86 : ∀ b, J 86 b = I 86 b := fun b => e 86 b (by unfold scr; omega) (by omega)
  have e88 : ∀ b, J 88 b = I 88 b := fun b => e 88 b (by unfold scr; omega) (by omega)
  have e89 : ∀ b, J 89 b = I 89 b := fun b => e 89 b (by unfold scr; omega) (by omega)
  have e90 : ∀ b, J 90 b = I 90 b := fun b => e 90 b (by unfold scr; omega) (by omega)
  have e92 : ∀ b, J 92 b = I 92 b := fun b => e 92 b (by unfold scr; omega) (by omega)
  have e95 : ∀ b, J 95 b = I 95 b := fun b => e 95 b (by unfold scr; omega) (by omega)
  have e96 : ∀ b, J 96 b = I 96 b := fun b => e 96 b (by unfold scr; omega) (by omega)
  have e97 : ∀ b, J 97 b = I 97 b := fun b => e 97 b (by unfold scr; omega) (by omega)
  have e98 : ∀ b, J 98 b = I 98 b := fun b => e 98 b (by unfold scr; omega) (by omega)
  have e104 : ∀ b, J 104 b = I 104 b := fun b => e 104 b (by unfold scr; omega) (by omega)
  have e105 : ∀ b, J 105 b = I 105 b := fun b => e 105 b (by unfold scr; omega) (by omega)
  have q_nk : nkI J = nkI I := by unfold nkI; rw [e 85 35 (by unfold scr; omega) (by omega)]
  have q_nd : ndI J = ndI I := by unfold ndI; rw [e 85 36 (by unfold scr; omega) (by omega)]
  have q_nc : ncI J = ncI I := by unfold ncI; rw [e 85 31 (by unfold scr; omega) (by omega)]
  have q_md : mdI J = mdI I := by unfold mdI; rw [e 85 32 (by unfold scr; omega) (by omega)]
  have q_nb : nbI J = nbI I := by unfold nbI; rw [e 85 46 (by unfold scr; omega) (by omega)]
  have q_dp : dpM J = dpM I := by funext k c; unfold dpM; rw [e86]
  have hkb := h.mi.kb
  have f1 : ∀ k, k < 16 → J (19 + k) 1 = I (19 + k) 1 := fun k hk => e (19 + k) 1 (by unfold scr; omega) (by omega)
  have f2 : ∀ k, k < 16 → J (19 + k) 2 = I (19 + k) 2 := fun k hk => e (19 + k) 2 (by unfold scr; omega) (by omega)
  have f3 : ∀ k, k < 16 → J (19 + k) 3 = I (19 + k) 3 := fun k hk => e (19 + k) 3 (by unfold scr; omega) (by omega)
  have f4 : ∀ k, k < 16 → J (19 + k) 4 = I (19 + k) 4 := fun k hk => e (19 + k) 4 (by unfold scr; omega) (by omega)
  have f5 : ∀ k, k < 16 → J (19 + k) 5 = I (19 + k) 5 := fun k hk => e (19 + k) 5 (by unfold scr; omega) (by omega)
  have g0 : ∀ d, d < 10 → J (R d) 0 = I (R d) 0 := fun d hd => by
    have := h.rr d hd
    exact e (R d) 0 (by unfold scr; omega) (by omega)
  have g1 : ∀ d, d < 10 → J (R d) 1 = I (R d) 1 := fun d hd => by
    have := h.rr d hd
    exact e (R d) 1 (by unfold scr; omega) (by omega)
  have g2 : ∀ d, d < 10 → J (R d) 2 = I (R d) 2 := fun d hd => by
    have := h.rr d hd
    exact e (R d) 2 (by unfold scr; omega) (by omega)
  refine ⟨m, ?_, ?_, ?_, ?_, ?_, ?_, ?_, ?_, ?_, ?_, ?_, ?_, ?_, ?_, ?_, ?_, ?_, ?_, ?_, ?_, ?_, ?_⟩
  · exact by rw [e 1 1 (by unfold scr; omega) (by omega), e 85 31 (by unfold scr; omega) (by omega)]; exact h.ch
  · exact by rw [e 1 2 (by unfold scr; omega) (by omega), e 85 32 (by unfold scr; omega) (by omega)]; exact h.dp
  · exact by rw [e 1 3 (by unfold scr; omega) (by omega), e 85 33 (by unfold scr; omega) (by omega)]; exact h.ap
  · exact n_sz
  · exact by rw [e 0 9 (by unfold scr; omega) (by omega), e 85 35 (by unfold scr; omega) (by omega)]; exact h.nk
  · exact by rw [e 0 10 (by unfold scr; omega) (by omega), e 85 36 (by unfold scr; omega) (by omega)]; exact h.nd
  · exact by rw [e 0 17 (by unfold scr; omega) (by omega), e 85 44 (by unfold scr; omega) (by omega)]; exact h.ct
  · exact by rw [e 0 12 (by unfold scr; omega) (by omega), e 85 46 (by unfold scr; omega) (by omega)]; exact h.nb
  · exact fun k hk => by
      rw [q_nk] at hk
      rw [eL0 k (by omega), q_dp, q_nc]; exact h.kc k hk
  · exact fun k hk => by
      rw [q_nk] at hk
      rw [e95, f1 k (by omega)]; exact h.kp k hk
  · exact fun k hk => by rw [e92, f2 k hk]; exact h.kl k hk
  · exact fun k hk => by rw [e89, f4 k hk]; exact h.kh k hk
  · exact fun k hk => by
      rw [q_nk] at hk
      rw [e89, e90, f5 k (by omega)]; exact h.kd k hk
  · exact fun k j hk hj => by
      rw [q_nk] at hk
      rw [f3 k (by omega), q_nk, e96, e96]; exact h.kr k j hk hj
  · exact fun d k hd hk => by rw [g1 d hd, e88]; exact h.wi d k hd hk
  · exact fun d k hd hk => by rw [g1 d hd]; exact h.w0 d k hd hk
  · exact fun d hd => by rw [e97, g0 d hd]; exact h.wa d hd
  · exact fun d hd => by rw [e98, g2 d hd]; exact h.bu d hd
  · exact h.rr
  · exact h.ri
  · exact n_to
  · exact fun b hb => by
      rw [q_nb] at hb
      rw [eL15]; simp only [e104, e105]; exact h.bl b hb
theorem MI_up_key {I J : Nat → Nat → Int32} (hm : MI I) (e : ∀ a b, ¬ scr a b → ¬ (a = 86 ∨ a = 88 ∨ a = 95 ∨ (a = 0 ∧ b = 9) ∨ (35 ≤ a ∧ a ≤ 44 ∧ b = 1) ∨ (19 ≤ a ∧ a ≤ 34 ∧ b = 1) ∨ (19 ≤ a ∧ a ≤ 34 ∧ b = 3) ∨ (a = 85 ∧ b = 35)) → J a b = I a b)
    (n_k : J 85 35 = Int32.ofNat (nkI J))
    (n_kb : nkI J ≤ 16)
    (n_dep : ∀ k c, k < nkI J → c < ncI J → ∃ e, e < mdI J ∧ J 86 (6 * k + c) = Int32.ofNat e)
    (n_near : ∀ k c, k < nkI J → c + 1 < ncI J → cA J (dpM J k (c + 1)) (dpM J k c) = true)
    (n_rb : ∀ k, k < nkI J → ∃ e, e < nkI J ∧ J 96 k = Int32.ofNat e)
    (n_ru : ∀ k, nkI J ≤ k → k < 16 → J 96 k = Int32.ofNat k)
    (n_wu : ∀ d k, k < 16 → tb (J 88 k) d = true → k < nkI J ∧ d < ndI J)
    (n_wf : ∀ d k, k < 16 → tb (J 88 k) d = true → (J 95 k &&& J 97 d) = 0)
    (n_hu : ∀ k, nkI J ≤ k → k < 16 → J 89 k = -1) : MI J := by
  have e87 : ∀ b, J 87 b = I 87 b := fun b => e 87 b (by unfold scr; omega) (by omega)
  have e89 : ∀ b, J 89 b = I 89 b := fun b => e 89 b (by unfold scr; omega) (by omega)
  have e90 : ∀ b, J 90 b = I 90 b := fun b => e 90 b (by unfold scr; omega) (by omega)
  have e92 : ∀ b, J 92 b = I 92 b := fun b => e 92 b (by unfold scr; omega) (by omega)
  have e96 : ∀ b, J 96 b = I 96 b := fun b => e 96 b (by unfold scr; omega) (by omega)
  have e97 : ∀ b, J 97 b = I 97 b := fun b => e 97 b (by unfold scr; omega) (by omega)
  have e98 : ∀ b, J 98 b = I 98 b := fun b => e 98 b (by unfold scr; omega) (by omega)
  have e104 : ∀ b, J 104 b = I 104 b := fun b => e 104 b (by unfold scr; omega) (by omega)
  have e105 : ∀ b, J 105 b = I 105 b := fun b => e 105 b (by unfold scr; omega) (by omega)
  have q_nd : ndI J = ndI I := by unfold ndI; rw [e 85 36 (by unfold scr; omega) (by omega)]
  have q_nc : ncI J = ncI I := by unfold ncI; rw [e 85 31 (by unfold scr; omega) (by omega)]
  have q_md : mdI J = mdI I := by unfold mdI; rw [e 85 32 (by unfold scr; omega) (by omega)]
  have q_sz : szI J = szI I := by unfold szI; rw [e 85 34 (by unfold scr; omega) (by omega)]
  have q_nb : nbI J = nbI I := by unfold nbI; rw [e 85 46 (by unfold scr; omega) (by omega)]
  have q_ca : cA J = cA I := by funext d e2; unfold cA; rw [e 85 33 (by unfold scr; omega) (by omega)]
  refine ⟨?_, ?_, ?_, ?_, ?_, ?_, ?_, ?_, ?_, ?_, ?_, ?_, ?_, ?_, ?_, ?_, ?_, ?_, ?_, ?_, ?_, ?_, ?_, ?_, ?_, ?_, ?_⟩
  · exact n_k
  · exact n_kb
  · rw [e 85 36 (by unfold scr; omega) (by omega), q_nd]; exact hm.d
  · simp only [e87, e89, e90, e92, e96, e97, e98, e104, e105, q_nd, q_nc, q_md, q_sz, q_nb, q_ca]; exact hm.db
  · rw [e 85 31 (by unfold scr; omega) (by omega), q_nc]; exact hm.c
  · simp only [e87, e89, e90, e92, e96, e97, e98, e104, e105, q_nd, q_nc, q_md, q_sz, q_nb, q_ca]; exact hm.c3
  · simp only [e87, e89, e90, e92, e96, e97, e98, e104, e105, q_nd, q_nc, q_md, q_sz, q_nb, q_ca]; exact hm.c6
  · rw [e 85 32 (by unfold scr; omega) (by omega), q_md]; exact hm.m
  · simp only [e87, e89, e90, e92, e96, e97, e98, e104, e105, q_nd, q_nc, q_md, q_sz, q_nb, q_ca]; exact hm.m2
  · simp only [e87, e89, e90, e92, e96, e97, e98, e104, e105, q_nd, q_nc, q_md, q_sz, q_nb, q_ca]; exact hm.m6
  · rw [e 85 34 (by unfold scr; omega) (by omega), q_sz]; exact hm.s
  · simp only [e87, e89, e90, e92, e96, e97, e98, e104, e105, q_nd, q_nc, q_md, q_sz, q_nb, q_ca]; exact hm.sc
  · rw [e 85 46 (by unfold scr; omega) (by omega), q_nb]; exact hm.b
  · simp only [e87, e89, e90, e92, e96, e97, e98, e104, e105, q_nd, q_nc, q_md, q_sz, q_nb, q_ca]; exact hm.bb
  · rw [e 85 33 (by unfold scr; omega) (by omega)]; exact hm.ap
  · exact n_dep
  · exact n_near
  · simp only [e87, e89, e90, e92, e96, e97, e98, e104, e105, q_nd, q_nc, q_md, q_sz, q_nb, q_ca]; exact hm.told
  · simp only [e87, e89, e90, e92, e96, e97, e98, e104, e105, q_nd, q_nc, q_md, q_sz, q_nb, q_ca]; exact hm.toldn
  · simp only [e87, e89, e90, e92, e96, e97, e98, e104, e105, q_nd, q_nc, q_md, q_sz, q_nb, q_ca]; exact hm.bs
  · simp only [e87, e89, e90, e92, e96, e97, e98, e104, e105, q_nd, q_nc, q_md, q_sz, q_nb, q_ca]; exact hm.bd
  · simp only [e87, e89, e90, e92, e96, e97, e98, e104, e105, q_nd, q_nc, q_md, q_sz, q_nb, q_ca]; exact hm.bp
  · exact n_rb
  · exact n_ru
  · exact n_wu
  · exact n_wf
  · exact n_hu
theorem RK_up_key {I J : Nat → Nat → Int32} {L K : Nat → Nat → Int64} {R : Nat → Nat} (h : RK I L R) (e : ∀ a b, ¬ scr a b → ¬ (a = 86 ∨ a = 88 ∨ a = 95 ∨ (a = 0 ∧ b = 9) ∨ (35 ≤ a ∧ a ≤ 44 ∧ b = 1) ∨ (19 ≤ a ∧ a ≤ 34 ∧ b = 1) ∨ (19 ≤ a ∧ a ≤ 34 ∧ b = 3) ∨ (a = 85 ∧ b = 35)) → J a b = I a b) (eL1 : K 1 5 = L 1 5) (eL15 : ∀ b, K 15 b = L 15 b) (m : MI J)
    (n_nk : J 0 9 = J 85 35)
    (n_kc : ∀ k, k < nkI J → isCuts (K (19 + k) 0) (dpM J k) (ncI J))
    (n_kp : ∀ k, k < nkI J → J 95 k = J (19 + k) 1)
    (n_kd : ∀ k, k < nkI J → ¬ J 89 k = -1 → J 90 k = J (19 + k) 5)
    (n_kr : ∀ k j, k < nkI J → j < 32 → (tb (J (19 + k) 3) j = true ↔ j < nkI J ∧ J 96 j = J 96 k))
    (n_wi : ∀ d k, d < 10 → k < 16 → tb (J (R d) 1) k = tb (J 88 k) d)
    (n_w0 : ∀ d k, d < 10 → 16 ≤ k → tb (J (R d) 1) k = false) : RK J K R := by
  have e87 : ∀ b, J 87 b = I 87 b := fun b => e 87 b (by unfold scr; omega) (by omega)
  have e89 : ∀ b, J 89 b = I 89 b := fun b => e 89 b (by unfold scr; omega) (by omega)
  have e90 : ∀ b, J 90 b = I 90 b := fun b => e 90 b (by unfold scr; omega) (by omega)
  have e92 : ∀ b, J 92 b = I 92 b := fun b => e 92 b (by unfold scr; omega) (by omega)
  have e96 : ∀ b, J 96 b = I 96 b := fun b => e 96 b (by unfold scr; omega) (by omega)
  have e97 : ∀ b, J 97 b = I 97 b := fun b => e 97 b (by unfold scr; omega) (by omega)
  have e98 : ∀ b, J 98 b = I 98 b := fun b => e 98 b (by unfold scr; omega) (by omega)
  have e104 : ∀ b, J 104 b = I 104 b := fun b => e 104 b (by unfold scr; omega) (by omega)
  have e105 : ∀ b, J 105 b = I 105 b := fun b => e 105 b (by unfold scr; omega) (by omega)
  have q_nd : ndI J = ndI I := by unfold ndI; rw [e 85 36 (by unfold scr; omega) (by omega)]
  have q_nc : ncI J = ncI I := by unfold ncI; rw [e 85 31 (by unfold scr; omega) (by omega)]
  have q_md : mdI J = mdI I := by unfold mdI; rw [e 85 32 (by unfold scr; omega) (by omega)]
  have q_sz : szI J = szI I := by unfold szI; rw [e 85 34 (by unfold scr; omega) (by omega)]
  have q_nb : nbI J = nbI I := by unfold nbI; rw [e 85 46 (by unfold scr; omega) (by omega)]
  have hkb := h.mi.kb
  have f2 : ∀ k, k < 16 → J (19 + k) 2 = I (19 + k) 2 := fun k hk => e (19 + k) 2 (by unfold scr; omega) (by omega)
  have f4 : ∀ k, k < 16 → J (19 + k) 4 = I (19 + k) 4 := fun k hk => e (19 + k) 4 (by unfold scr; omega) (by omega)
  have f5 : ∀ k, k < 16 → J (19 + k) 5 = I (19 + k) 5 := fun k hk => e (19 + k) 5 (by unfold scr; omega) (by omega)
  have g0 : ∀ d, d < 10 → J (R d) 0 = I (R d) 0 := fun d hd => by
    have := h.rr d hd
    exact e (R d) 0 (by unfold scr; omega) (by omega)
  have g2 : ∀ d, d < 10 → J (R d) 2 = I (R d) 2 := fun d hd => by
    have := h.rr d hd
    exact e (R d) 2 (by unfold scr; omega) (by omega)
  refine ⟨m, ?_, ?_, ?_, ?_, ?_, ?_, ?_, ?_, ?_, ?_, ?_, ?_, ?_, ?_, ?_, ?_, ?_, ?_, ?_, ?_, ?_, ?_⟩
  · exact by rw [e 1 1 (by unfold scr; omega) (by omega), e 85 31 (by unfold scr; omega) (by omega)]; exact h.ch
  · exact by rw [e 1 2 (by unfold scr; omega) (by omega), e 85 32 (by unfold scr; omega) (by omega)]; exact h.dp
  · exact by rw [e 1 3 (by unfold scr; omega) (by omega), e 85 33 (by unfold scr; omega) (by omega)]; exact h.ap
  · exact by rw [e 1 6 (by unfold scr; omega) (by omega), e 85 34 (by unfold scr; omega) (by omega)]; exact h.sz
  · exact n_nk
  · exact by rw [e 0 10 (by unfold scr; omega) (by omega), e 85 36 (by unfold scr; omega) (by omega)]; exact h.nd
  · exact by rw [e 0 17 (by unfold scr; omega) (by omega), e 85 44 (by unfold scr; omega) (by omega)]; exact h.ct
  · exact by rw [e 0 12 (by unfold scr; omega) (by omega), e 85 46 (by unfold scr; omega) (by omega)]; exact h.nb
  · exact n_kc
  · exact n_kp
  · exact fun k hk => by rw [e92, f2 k hk]; exact h.kl k hk
  · exact fun k hk => by rw [e89, f4 k hk]; exact h.kh k hk
  · exact n_kd
  · exact n_kr
  · exact n_wi
  · exact n_w0
  · exact fun d hd => by rw [e97, g0 d hd]; exact h.wa d hd
  · exact fun d hd => by rw [e98, g2 d hd]; exact h.bu d hd
  · exact h.rr
  · exact h.ri
  · exact by rw [eL1, q_sz]; simp only [e87]; exact h.to
  · exact fun b hb => by
      rw [q_nb] at hb
      rw [eL15]; simp only [e104, e105]; exact h.bl b hb
theorem MI_up_told {I J : Nat → Nat → Int32} (hm : MI I) (e : ∀ a b, ¬ scr a b → ¬ ((a = 1 ∧ b = 6) ∨ (a = 85 ∧ b = 34)) → J a b = I a b)
    (n_s : J 85 34 = Int32.ofNat (szI J))
    (n_sc : szI J ≤ ncI J)
    (n_told : ∀ c, c < szI J → ∃ e, e < mdI J ∧ J 87 c = Int32.ofNat e)
    (n_toldn : ∀ c, c + 1 < szI J → cA J (J 87 (c + 1)).toNatClampNeg (J 87 c).toNatClampNeg = true) : MI J := by
  have e86 : ∀ b, J 86 b = I 86 b := fun b => e 86 b (by unfold scr; omega) (by omega)
  have e87 : ∀ b, J 87 b = I 87 b := fun b => e 87 b (by unfold scr; omega) (by omega)
  have e88 : ∀ b, J 88 b = I 88 b := fun b => e 88 b (by unfold scr; omega) (by omega)
  have e89 : ∀ b, J 89 b = I 89 b := fun b => e 89 b (by unfold scr; omega) (by omega)
  have e90 : ∀ b, J 90 b = I 90 b := fun b => e 90 b (by unfold scr; omega) (by omega)
  have e92 : ∀ b, J 92 b = I 92 b := fun b => e 92 b (by unfold scr; omega) (by omega)
  have e95 : ∀ b, J 95 b = I 95 b := fun b => e 95 b (by unfold scr; omega) (by omega)
  have e96 : ∀ b, J 96 b = I 96 b := fun b => e 96 b (by unfold scr; omega) (by omega)
  have e97 : ∀ b, J 97 b = I 97 b := fun b => e 97 b (by unfold scr; omega) (by omega)
  have e98 : ∀ b, J 98 b = I 98 b := fun b => e 98 b (by unfold scr; omega) (by omega)
  have e104 : ∀ b, J 104 b = I 104 b := fun b => e 104 b (by unfold scr; omega) (by omega)
  have e105 : ∀ b, J 105 b = I 105 b := fun b => e 105 b (by unfold scr; omega) (by omega)
  have q_nk : nkI J = nkI I := by unfold nkI; rw [e 85 35 (by unfold scr; omega) (by omega)]
  have q_nd : ndI J = ndI I := by unfold ndI; rw [e 85 36 (by unfold scr; omega) (by omega)]
  have q_nc : ncI J = ncI I := by unfold ncI; rw [e 85 31 (by unfold scr; omega) (by omega)]
  have q_md : mdI J = mdI I := by unfold mdI; rw [e 85 32 (by unfold scr; omega) (by omega)]
  have q_nb : nbI J = nbI I := by unfold nbI; rw [e 85 46 (by unfold scr; omega) (by omega)]
  have q_ca : cA J = cA I := by funext d e2; unfold cA; rw [e 85 33 (by unfold scr; omega) (by omega)]
  have q_dp : dpM J = dpM I := by funext k c; unfold dpM; rw [e86]
  refine ⟨?_, ?_, ?_, ?_, ?_, ?_, ?_, ?_, ?_, ?_, ?_, ?_, ?_, ?_, ?_, ?_, ?_, ?_, ?_, ?_, ?_, ?_, ?_, ?_, ?_, ?_, ?_⟩
  · rw [e 85 35 (by unfold scr; omega) (by omega), q_nk]; exact hm.k
  · simp only [e86, e87, e88, e89, e90, e92, e95, e96, e97, e98, e104, e105, q_nk, q_nd, q_nc, q_md, q_nb, q_ca, q_dp]; exact hm.kb
  · rw [e 85 36 (by unfold scr; omega) (by omega), q_nd]; exact hm.d
  · simp only [e86, e87, e88, e89, e90, e92, e95, e96, e97, e98, e104, e105, q_nk, q_nd, q_nc, q_md, q_nb, q_ca, q_dp]; exact hm.db
  · rw [e 85 31 (by unfold scr; omega) (by omega), q_nc]; exact hm.c
  · simp only [e86, e87, e88, e89, e90, e92, e95, e96, e97, e98, e104, e105, q_nk, q_nd, q_nc, q_md, q_nb, q_ca, q_dp]; exact hm.c3
  · simp only [e86, e87, e88, e89, e90, e92, e95, e96, e97, e98, e104, e105, q_nk, q_nd, q_nc, q_md, q_nb, q_ca, q_dp]; exact hm.c6
  · rw [e 85 32 (by unfold scr; omega) (by omega), q_md]; exact hm.m
  · simp only [e86, e87, e88, e89, e90, e92, e95, e96, e97, e98, e104, e105, q_nk, q_nd, q_nc, q_md, q_nb, q_ca, q_dp]; exact hm.m2
  · simp only [e86, e87, e88, e89, e90, e92, e95, e96, e97, e98, e104, e105, q_nk, q_nd, q_nc, q_md, q_nb, q_ca, q_dp]; exact hm.m6
  · exact n_s
  · exact n_sc
  · rw [e 85 46 (by unfold scr; omega) (by omega), q_nb]; exact hm.b
  · simp only [e86, e87, e88, e89, e90, e92, e95, e96, e97, e98, e104, e105, q_nk, q_nd, q_nc, q_md, q_nb, q_ca, q_dp]; exact hm.bb
  · rw [e 85 33 (by unfold scr; omega) (by omega)]; exact hm.ap
  · simp only [e86, e87, e88, e89, e90, e92, e95, e96, e97, e98, e104, e105, q_nk, q_nd, q_nc, q_md, q_nb, q_ca, q_dp]; exact hm.dep
  · simp only [e86, e87, e88, e89, e90, e92, e95, e96, e97, e98, e104, e105, q_nk, q_nd, q_nc, q_md, q_nb, q_ca, q_dp]; exact hm.near
  · exact n_told
  · exact n_toldn
  · simp only [e86, e87, e88, e89, e90, e92, e95, e96, e97, e98, e104, e105, q_nk, q_nd, q_nc, q_md, q_nb, q_ca, q_dp]; exact hm.bs
  · simp only [e86, e87, e88, e89, e90, e92, e95, e96, e97, e98, e104, e105, q_nk, q_nd, q_nc, q_md, q_nb, q_ca, q_dp]; exact hm.bd
  · simp only [e86, e87, e88, e89, e90, e92, e95, e96, e97, e98, e104, e105, q_nk, q_nd, q_nc, q_md, q_nb, q_ca, q_dp]; exact hm.bp
  · simp only [e86, e87, e88, e89, e90, e92, e95, e96, e97, e98, e104, e105, q_nk, q_nd, q_nc, q_md, q_nb, q_ca, q_dp]; exact hm.rb
  · simp only [e86, e87, e88, e89, e90, e92, e95, e96, e97, e98, e104, e105, q_nk, q_nd, q_nc, q_md, q_nb, q_ca, q_dp]; exact hm.ru
  · simp only [e86, e87, e88, e89, e90, e92, e95, e96, e97, e98, e104, e105, q_nk, q_nd, q_nc, q_md, q_nb, q_ca, q_dp]; exact hm.wu
  · simp only [e86, e87, e88, e89, e90, e92, e95, e96, e97, e98, e104, e105, q_nk, q_nd, q_nc, q_md, q_nb, q_ca, q_dp]; exact hm.wf
  · simp only [e86, e87, e88, e89, e90, e92, e95, e96, e97, e98, e104, e105, q_nk, q_nd, q_nc, q_md, q_nb, q_ca, q_dp]; exact hm.hu
theorem RK_up_told {I J : Nat → Nat → Int32} {L K : Nat → Nat → Int64} {R : Nat → Nat} (h : RK I L R) (e : ∀ a b, ¬ scr a b → ¬ ((a = 1 ∧ b = 6) ∨ (a = 85 ∧ b = 34)) → J a b = I a b) (eL0 : ∀ k, k < 16 → K (19 + k) 0 = L (19 + k) 0) (eL15 : ∀ b, K 15 b = L 15 b) (m : MI J)
    (n_sz : J 1 6 = J 85 34)
    (n_to : isCuts (K 1 5) (fun c => (J 87 c).toNatClampNeg) (szI J)) : RK J K R := by
  have e86 : ∀ b, J 86 b = I 86 b := fun b => e 86 b (by unfold scr; omega) (by omega)
  have e87 : ∀ b, J 87 b = I 87 b := fun b => e 87 b (by unfold scr; omega) (by omega)
  have e88 : ∀ b, J 88 b = I 88 b := fun b => e 88 b (by unfold scr; omega) (by omega)
  have e89 : ∀ b, J 89 b = I 89 b := fun b => e 89 b (by unfold scr; omega) (by omega)
  have e90 : ∀ b, J 90 b = I 90 b := fun b => e 90 b (by unfold scr; omega) (by omega)
  have e92 : ∀ b, J 92 b = I 92 b := fun b => e 92 b (by unfold scr; omega) (by omega)
  have e95 : ∀ b, J 95 b = I 95 b := fun b => e 95 b (by unfold scr; omega) (by omega)
  have e96 : ∀ b, J 96 b = I 96 b := fun b => e 96 b (by unfold scr; omega) (by omega)
  have e97 : ∀ b, J 97 b = I 97 b := fun b => e 97 b (by unfold scr; omega) (by omega)
  have e98 : ∀ b, J 98 b = I 98 b := fun b => e 98 b (by unfold scr; omega) (by omega)
  have e104 : ∀ b, J 104 b = I 104 b := fun b => e 104 b (by unfold scr; omega) (by omega)
  have e105 : ∀ b, J 105 b = I 105 b := fun b => e 105 b (by unfold scr; omega) (by omega)
  have q_nk : nkI J = nkI I := by unfold nkI; rw [e 85 35 (by unfold scr; omega) (by omega)]
  have q_nd : ndI J = ndI I := by unfold ndI; rw [e 85 36 (by unfold scr; omega) (by omega)]
  have q_nc : ncI J = ncI I := by unfold ncI; rw [e 85 31 (by unfold scr; omega) (by omega)]
  have q_md : mdI J = mdI I := by unfold mdI; rw [e 85 32 (by unfold scr; omega) (by omega)]
  have q_nb : nbI J = nbI I := by unfold nbI; rw [e 85 46 (by unfold scr; omega) (by omega)]
  have q_dp : dpM J = dpM I := by funext k c; unfold dpM; rw [e86]
  have hkb := h.mi.kb
  have f1 : ∀ k, k < 16 → J (19 + k) 1 = I (19 + k) 1 := fun k hk => e (19 + k) 1 (by unfold scr; omega) (by omega)
  have f2 : ∀ k, k < 16 → J (19 + k) 2 = I (19 + k) 2 := fun k hk => e (19 + k) 2 (by unfold scr; omega) (by omega)
  have f3 : ∀ k, k < 16 → J (19 + k) 3 = I (19 + k) 3 := fun k hk => e (19 + k) 3 (by unfold scr; omega) (by omega)
  have f4 : ∀ k, k < 16 → J (19 + k) 4 = I (19 + k) 4 := fun k hk => e (19 + k) 4 (by unfold scr; omega) (by omega)
  have f5 : ∀ k, k < 16 → J (19 + k) 5 = I (19 + k) 5 := fun k hk => e (19 + k) 5 (by unfold scr; omega) (by omega)
  have g0 : ∀ d, d < 10 → J (R d) 0 = I (R d) 0 := fun d hd => by
    have := h.rr d hd
    exact e (R d) 0 (by unfold scr; omega) (by omega)
  have g1 : ∀ d, d < 10 → J (R d) 1 = I (R d) 1 := fun d hd => by
    have := h.rr d hd
    exact e (R d) 1 (by unfold scr; omega) (by omega)
  have g2 : ∀ d, d < 10 → J (R d) 2 = I (R d) 2 := fun d hd => by
    have := h.rr d hd
    exact e (R d) 2 (by unfold scr; omega) (by omega)
  refine ⟨m, ?_, ?_, ?_, ?_, ?_, ?_, ?_, ?_, ?_, ?_, ?_, ?_, ?_, ?_, ?_, ?_, ?_, ?_, ?_, ?_, ?_, ?_⟩
  · exact by rw [e 1 1 (by unfold scr; omega) (by omega), e 85 31 (by unfold scr; omega) (by omega)]; exact h.ch
  · exact by rw [e 1 2 (by unfold scr; omega) (by omega), e 85 32 (by unfold scr; omega) (by omega)]; exact h.dp
  · exact by rw [e 1 3 (by unfold scr; omega) (by omega), e 85 33 (by unfold scr; omega) (by omega)]; exact h.ap
  · exact n_sz
  · exact by rw [e 0 9 (by unfold scr; omega) (by omega), e 85 35 (by unfold scr; omega) (by omega)]; exact h.nk
  · exact by rw [e 0 10 (by unfold scr; omega) (by omega), e 85 36 (by unfold scr; omega) (by omega)]; exact h.nd
  · exact by rw [e 0 17 (by unfold scr; omega) (by omega), e 85 44 (by unfold scr; omega) (by omega)]; exact h.ct
  · exact by rw [e 0 12 (by unfold scr; omega) (by omega), e 85 46 (by unfold scr; omega) (by omega)]; exact h.nb
  · exact fun k hk => by
      rw [q_nk] at hk
      rw [eL0 k (by omega), q_dp, q_nc]; exact h.kc k hk
  · exact fun k hk => by
      rw [q_nk] at hk
      rw [e95, f1 k (by omega)]; exact h.kp k hk
  · exact fun k hk => by rw [e92, f2 k hk]; exact h.kl k hk
  · exact fun k hk => by rw [e89, f4 k hk]; exact h.kh k hk
  · exact fun k hk => by
      rw [q_nk] at hk
      rw [e89, e90, f5 k (by omega)]; exact h.kd k hk
  · exact fun k j hk hj => by
      rw [q_nk] at hk
      rw [f3 k (by omega), q_nk, e96, e96]; exact h.kr k j hk hj
  · exact fun d k hd hk => by rw [g1 d hd, e88]; exact h.wi d k hd hk
  · exact fun d k hd hk => by rw [g1 d hd]; exact h.w0 d k hd hk
  · exact fun d hd => by rw [e97, g0 d hd]; exact h.wa d hd
  · exact fun d hd => by rw [e98, g2 d hd]; exact h.bu d hd
  · exact h.rr
  · exact h.ri
  · exact n_to
  · exact fun b hb => by
      rw [q_nb] at hb
      rw [eL15]; simp only [e104, e105]; exact h.bl b hb
theorem MI_up_blk {I J : Nat → Nat → Int32} (hm : MI I) (e : ∀ a b, ¬ scr a b → ¬ (a = 104 ∨ a = 105 ∨ (a = 0 ∧ b = 12) ∨ (a = 1 ∧ b = 6) ∨ (a = 85 ∧ b = 46) ∨ (a = 85 ∧ b = 34)) → J a b = I a b)
    (n_s : J 85 34 = Int32.ofNat (szI J))
    (n_sc : szI J ≤ ncI J)
    (n_b : J 85 46 = Int32.ofNat (nbI J))
    (n_bb : nbI J ≤ 4)
    (n_told : ∀ c, c < szI J → ∃ e, e < mdI J ∧ J 87 c = Int32.ofNat e)
    (n_toldn : ∀ c, c + 1 < szI J → cA J (J 87 (c + 1)).toNatClampNeg (J 87 c).toNatClampNeg = true)
    (n_bs : ∀ b, b < nbI J → ∃ e, 1 ≤ e ∧ e ≤ ncI J ∧ J 104 b = Int32.ofNat e)
    (n_bd : ∀ b c, b < nbI J → c < (J 104 b).toNatClampNeg → ∃ e, e < mdI J ∧ J 105 (6 * b + c) = Int32.ofNat e)
    (n_bp : ∀ a b, a < nbI J → b < nbI J → a ≠ b → ∃ c, c < (J 104 a).toNatClampNeg ∧ c < (J 104 b).toNatClampNeg ∧ J 105 (6 * a + c) ≠ J 105 (6 * b + c)) : MI J := by
  have e86 : ∀ b, J 86 b = I 86 b := fun b => e 86 b (by unfold scr; omega) (by omega)
  have e87 : ∀ b, J 87 b = I 87 b := fun b => e 87 b (by unfold scr; omega) (by omega)
  have e88 : ∀ b, J 88 b = I 88 b := fun b => e 88 b (by unfold scr; omega) (by omega)
  have e89 : ∀ b, J 89 b = I 89 b := fun b => e 89 b (by unfold scr; omega) (by omega)
  have e90 : ∀ b, J 90 b = I 90 b := fun b => e 90 b (by unfold scr; omega) (by omega)
  have e92 : ∀ b, J 92 b = I 92 b := fun b => e 92 b (by unfold scr; omega) (by omega)
  have e95 : ∀ b, J 95 b = I 95 b := fun b => e 95 b (by unfold scr; omega) (by omega)
  have e96 : ∀ b, J 96 b = I 96 b := fun b => e 96 b (by unfold scr; omega) (by omega)
  have e97 : ∀ b, J 97 b = I 97 b := fun b => e 97 b (by unfold scr; omega) (by omega)
  have e98 : ∀ b, J 98 b = I 98 b := fun b => e 98 b (by unfold scr; omega) (by omega)
  have q_nk : nkI J = nkI I := by unfold nkI; rw [e 85 35 (by unfold scr; omega) (by omega)]
  have q_nd : ndI J = ndI I := by unfold ndI; rw [e 85 36 (by unfold scr; omega) (by omega)]
  have q_nc : ncI J = ncI I := by unfold ncI; rw [e 85 31 (by unfold scr; omega) (by omega)]
  have q_md : mdI J = mdI I := by unfold mdI; rw [e 85 32 (by unfold scr; omega) (by omega)]
  have q_ca : cA J = cA I := by funext d e2; unfold cA; rw [e 85 33 (by unfold scr; omega) (by omega)]
  have q_dp : dpM J = dpM I := by funext k c; unfold dpM; rw [e86]
  refine ⟨?_, ?_, ?_, ?_, ?_, ?_, ?_, ?_, ?_, ?_, ?_, ?_, ?_, ?_, ?_, ?_, ?_, ?_, ?_, ?_, ?_, ?_, ?_, ?_, ?_, ?_, ?_⟩
  · rw [e 85 35 (by unfold scr; omega) (by omega), q_nk]; exact hm.k
  · simp only [e86, e87, e88, e89, e90, e92, e95, e96, e97, e98, q_nk, q_nd, q_nc, q_md, q_ca, q_dp]; exact hm.kb
  · rw [e 85 36 (by unfold scr; omega) (by omega), q_nd]; exact hm.d
  · simp only [e86, e87, e88, e89, e90, e92, e95, e96, e97, e98, q_nk, q_nd, q_nc, q_md, q_ca, q_dp]; exact hm.db
  · rw [e 85 31 (by unfold scr; omega) (by omega), q_nc]; exact hm.c
  · simp only [e86, e87, e88, e89, e90, e92, e95, e96, e97, e98, q_nk, q_nd, q_nc, q_md, q_ca, q_dp]; exact hm.c3
  · simp only [e86, e87, e88, e89, e90, e92, e95, e96, e97, e98, q_nk, q_nd, q_nc, q_md, q_ca, q_dp]; exact hm.c6
  · rw [e 85 32 (by unfold scr; omega) (by omega), q_md]; exact hm.m
  · simp only [e86, e87, e88, e89, e90, e92, e95, e96, e97, e98, q_nk, q_nd, q_nc, q_md, q_ca, q_dp]; exact hm.m2
  · simp only [e86, e87, e88, e89, e90, e92, e95, e96, e97, e98, q_nk, q_nd, q_nc, q_md, q_ca, q_dp]; exact hm.m6
  · exact n_s
  · exact n_sc
  · exact n_b
  · exact n_bb
  · rw [e 85 33 (by unfold scr; omega) (by omega)]; exact hm.ap
  · simp only [e86, e87, e88, e89, e90, e92, e95, e96, e97, e98, q_nk, q_nd, q_nc, q_md, q_ca, q_dp]; exact hm.dep
  · simp only [e86, e87, e88, e89, e90, e92, e95, e96, e97, e98, q_nk, q_nd, q_nc, q_md, q_ca, q_dp]; exact hm.near
  · exact n_told
  · exact n_toldn
  · exact n_bs
  · exact n_bd
  · exact n_bp
  · simp only [e86, e87, e88, e89, e90, e92, e95, e96, e97, e98, q_nk, q_nd, q_nc, q_md, q_ca, q_dp]; exact hm.rb
  · simp only [e86, e87, e88, e89, e90, e92, e95, e96, e97, e98, q_nk, q_nd, q_nc, q_md, q_ca, q_dp]; exact hm.ru
  · simp only [e86, e87, e88, e89, e90, e92, e95, e96, e97, e98, q_nk, q_nd, q_nc, q_md, q_ca, q_dp]; exact hm.wu
  · simp only [e86, e87, e88, e89, e90, e92, e95, e96, e97, e98, q_nk, q_nd, q_nc, q_md, q_ca, q_dp]; exact hm.wf
  · simp only [e86, e87, e88, e89, e90, e92, e95, e96, e97, e98, q_nk, q_nd, q_nc, q_md, q_ca, q_dp]; exact hm.hu
theorem RK_up_blk {I J : Nat → Nat → Int32} {L K : Nat → Nat → Int64} {R : Nat → Nat} (h : RK I L R) (e : ∀ a b, ¬ scr a b → ¬ (a = 104 ∨ a = 105 ∨ (a = 0 ∧ b = 12) ∨ (a = 1 ∧ b = 6) ∨ (a = 85 ∧ b = 46) ∨ (a = 85 ∧ b = 34)) → J a b = I a b) (eL0 : ∀ k, k < 16 → K (19 + k) 0 = L (19 + k) 0) (m : MI J)
    (n_sz : J 1 6 = J 85 34)
    (n_nb : J 0 12 = J 85 46)
    (n_to : isCuts (K 1 5) (fun c => (J 87 c).toNatClampNeg) (szI J))
    (n_bl : ∀ b, b < nbI J → isCuts (K 15 b) (fun c => (J 105 (6 * b + c)).toNatClampNeg) (J 104 b).toNatClampNeg) : RK J K R := by
  have e86 : ∀ b, J 86 b = I 86 b := fun b => e 86 b (by unfold scr; omega) (by omega)
  have e87 : ∀ b, J 87 b = I 87 b := fun b => e 87 b (by unfold scr; omega) (by omega)
  have e88 : ∀ b, J 88 b = I 88 b := fun b => e 88 b (by unfold scr; omega) (by omega)
  have e89 : ∀ b, J 89 b = I 89 b := fun b => e 89 b (by unfold scr; omega) (by omega)
  have e90 : ∀ b, J 90 b = I 90 b := fun b => e 90 b (by unfold scr; omega) (by omega)
  have e92 : ∀ b, J 92 b = I 92 b := fun b => e 92 b (by unfold scr; omega) (by omega)
  have e95 : ∀ b, J 95 b = I 95 b := fun b => e 95 b (by unfold scr; omega) (by omega)
  have e96 : ∀ b, J 96 b = I 96 b := fun b => e 96 b (by unfold scr; omega) (by omega)
  have e97 : ∀ b, J 97 b = I 97 b := fun b => e 97 b (by unfold scr; omega) (by omega)
  have e98 : ∀ b, J 98 b = I 98 b := fun b => e 98 b (by unfold scr; omega) (by omega)
  have q_nk : nkI J = nkI I := by unfold nkI; rw [e 85 35 (by unfold scr; omega) (by omega)]
  have q_nd : ndI J = ndI I := by unfold ndI; rw [e 85 36 (by unfold scr; omega) (by omega)]
  have q_nc : ncI J = ncI I := by unfold ncI; rw [e 85 31 (by unfold scr; omega) (by omega)]
  have q_md : mdI J = mdI I := by unfold mdI; rw [e 85 32 (by unfold scr; omega) (by omega)]
  have q_dp : dpM J = dpM I := by funext k c; unfold dpM; rw [e86]
  have hkb := h.mi.kb
  have f1 : ∀ k, k < 16 → J (19 + k) 1 = I (19 + k) 1 := fun k hk => e (19 + k) 1 (by unfold scr; omega) (by omega)
  have f2 : ∀ k, k < 16 → J (19 + k) 2 = I (19 + k) 2 := fun k hk => e (19 + k) 2 (by unfold scr; omega) (by omega)
  have f3 : ∀ k, k < 16 → J (19 + k) 3 = I (19 + k) 3 := fun k hk => e (19 + k) 3 (by unfold scr; omega) (by omega)
  have f4 : ∀ k, k < 16 → J (19 + k) 4 = I (19 + k) 4 := fun k hk => e (19 + k) 4 (by unfold scr; omega) (by omega)
  have f5 : ∀ k, k < 16 → J (19 + k) 5 = I (19 + k) 5 := fun k hk => e (19 + k) 5 (by unfold scr; omega) (by omega)
  have g0 : ∀ d, d < 10 → J (R d) 0 = I (R d) 0 := fun d hd => by
    have := h.rr d hd
    exact e (R d) 0 (by unfold scr; omega) (by omega)
  have g1 : ∀ d, d < 10 → J (R d) 1 = I (R d) 1 := fun d hd => by
    have := h.rr d hd
    exact e (R d) 1 (by unfold scr; omega) (by omega)
  have g2 : ∀ d, d < 10 → J (R d) 2 = I (R d) 2 := fun d hd => by
    have := h.rr d hd
    exact e (R d) 2 (by unfold scr; omega) (by omega)
  refine ⟨m, ?_, ?_, ?_, ?_, ?_, ?_, ?_, ?_, ?_, ?_, ?_, ?_, ?_, ?_, ?_, ?_, ?_, ?_, ?_, ?_, ?_, ?_⟩
  · exact by rw [e 1 1 (by unfold scr; omega) (by omega), e 85 31 (by unfold scr; omega) (by omega)]; exact h.ch
  · exact by rw [e 1 2 (by unfold scr; omega) (by omega), e 85 32 (by unfold scr; omega) (by omega)]; exact h.dp
  · exact by rw [e 1 3 (by unfold scr; omega) (by omega), e 85 33 (by unfold scr; omega) (by omega)]; exact h.ap
  · exact n_sz
  · exact by rw [e 0 9 (by unfold scr; omega) (by omega), e 85 35 (by unfold scr; omega) (by omega)]; exact h.nk
  · exact by rw [e 0 10 (by unfold scr; omega) (by omega), e 85 36 (by unfold scr; omega) (by omega)]; exact h.nd
  · exact by rw [e 0 17 (by unfold scr; omega) (by omega), e 85 44 (by unfold scr; omega) (by omega)]; exact h.ct
  · exact n_nb
  · exact fun k hk => by
      rw [q_nk] at hk
      rw [eL0 k (by omega), q_dp, q_nc]; exact h.kc k hk
  · exact fun k hk => by
      rw [q_nk] at hk
      rw [e95, f1 k (by omega)]; exact h.kp k hk
  · exact fun k hk => by rw [e92, f2 k hk]; exact h.kl k hk
  · exact fun k hk => by rw [e89, f4 k hk]; exact h.kh k hk
  · exact fun k hk => by
      rw [q_nk] at hk
      rw [e89, e90, f5 k (by omega)]; exact h.kd k hk
  · exact fun k j hk hj => by
      rw [q_nk] at hk
      rw [f3 k (by omega), q_nk, e96, e96]; exact h.kr k j hk hj
  · exact fun d k hd hk => by rw [g1 d hd, e88]; exact h.wi d k hd hk
  · exact fun d k hd hk => by rw [g1 d hd]; exact h.w0 d k hd hk
  · exact fun d hd => by rw [e97, g0 d hd]; exact h.wa d hd
  · exact fun d hd => by rw [e98, g2 d hd]; exact h.bu d hd
  · exact h.rr
  · exact h.ri
  · exact n_to
  · exact n_bl
