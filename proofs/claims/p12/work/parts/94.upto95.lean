/-! some parts, joined -/
section
/-! part 94: the relation of both sides, whole -/
theorem MI_up_fr {I J : Nat → Nat → Int32} (hm : MI I) (s85_31 : J 85 31 = I 85 31) (s85_32 : J 85 32 = I 85 32) (s85_33 : J 85 33 = I 85 33) (s85_34 : J 85 34 = I 85 34) (s85_35 : J 85 35 = I 85 35) (s85_36 : J 85 36 = I 85 36) (s85_44 : J 85 44 = I 85 44) (s85_46 : J 85 46 = I 85 46) (s1_1 : J 1 1 = I 1 1) (s1_2 : J 1 2 = I 1 2) (s1_3 : J 1 3 = I 1 3) (s1_6 : J 1 6 = I 1 6) (s0_9 : J 0 9 = I 0 9) (s0_10 : J 0 10 = I 0 10) (s0_17 : J 0 17 = I 0 17) (s0_12 : J 0 12 = I 0 12) (r86 : ∀ b, J 86 b = I 86 b) (r87 : ∀ b, J 87 b = I 87 b) (r88 : ∀ b, J 88 b = I 88 b) (r89 : ∀ b, J 89 b = I 89 b) (r90 : ∀ b, J 90 b = I 90 b) (r92 : ∀ b, J 92 b = I 92 b) (r95 : ∀ b, J 95 b = I 95 b) (r96 : ∀ b, J 96 b = I 96 b) (r97 : ∀ b, J 97 b = I 97 b) (r98 : ∀ b, J 98 b = I 98 b) (r104 : ∀ b, J 104 b = I 104 b) (r105 : ∀ b, J 105 b = I 105 b) : MI J := by
  have e86 : ∀ b, J 86 b = I 86 b := fun b => r86 b
  have e87 : ∀ b, J 87 b = I 87 b := fun b => r87 b
  have e88 : ∀ b, J 88 b = I 88 b := fun b => r88 b
  have e89 : ∀ b, J 89 b = I 89 b := fun b => r89 b
  have e90 : ∀ b, J 90 b = I 90 b := fun b => r90 b
  have e92 : ∀ b, J 92 b = I 92 b := fun b => r92 b
  have e95 : ∀ b, J 95 b = I 95 b := fun b => r95 b
  have e96 : ∀ b, J 96 b = I 96 b := fun b => r96 b
  have e97 : ∀ b, J 97 b = I 97 b := fun b => r97 b
  have e98 : ∀ b, J 98 b = I 98 b := fun b => r98 b
  have e104 : ∀ b, J 104 b = I 104 b := fun b => r104 b
  have e105 : ∀ b, J 105 b = I 105 b := fun b => r105 b
  have q_nk : nkI J = nkI I := by unfold nkI; rw [s85_35]
  have q_nd : ndI J = ndI I := by unfold ndI; rw [s85_36]
  have q_nc : ncI J = ncI I := by unfold ncI; rw [s85_31]
  have q_md : mdI J = mdI I := by unfold mdI; rw [s85_32]
  have q_sz : szI J = szI I := by unfold szI; rw [s85_34]
  have q_nb : nbI J = nbI I := by unfold nbI; rw [s85_46]
  have q_ca : cA J = cA I := by funext d e2; unfold cA; rw [s85_33]
  have q_dp : dpM J = dpM I := by funext k c; unfold dpM; rw [e86]
  refine ⟨?_, ?_, ?_, ?_, ?_, ?_, ?_, ?_, ?_, ?_, ?_, ?_, ?_, ?_, ?_, ?_, ?_, ?_, ?_, ?_, ?_, ?_, ?_, ?_, ?_, ?_, ?_⟩
  · rw [s85_35, q_nk]; exact hm.k
  · simp only [e86, e87, e88, e89, e90, e92, e95, e96, e97, e98, e104, e105, q_nk, q_nd, q_nc, q_md, q_sz, q_nb, q_ca, q_dp]; exact hm.kb
  · rw [s85_36, q_nd]; exact hm.d
  · simp only [e86, e87, e88, e89, e90, e92, e95, e96, e97, e98, e104, e105, q_nk, q_nd, q_nc, q_md, q_sz, q_nb, q_ca, q_dp]; exact hm.db
  · rw [s85_31, q_nc]; exact hm.c
  · simp only [e86, e87, e88, e89, e90, e92, e95, e96, e97, e98, e104, e105, q_nk, q_nd, q_nc, q_md, q_sz, q_nb, q_ca, q_dp]; exact hm.c3
  · simp only [e86, e87, e88, e89, e90, e92, e95, e96, e97, e98, e104, e105, q_nk, q_nd, q_nc, q_md, q_sz, q_nb, q_ca, q_dp]; exact hm.c6
  · rw [s85_32, q_md]; exact hm.m
  · simp only [e86, e87, e88, e89, e90, e92, e95, e96, e97, e98, e104, e105, q_nk, q_nd, q_nc, q_md, q_sz, q_nb, q_ca, q_dp]; exact hm.m2
  · simp only [e86, e87, e88, e89, e90, e92, e95, e96, e97, e98, e104, e105, q_nk, q_nd, q_nc, q_md, q_sz, q_nb, q_ca, q_dp]; exact hm.m6
  · rw [s85_34, q_sz]; exact hm.s
  · simp only [e86, e87, e88, e89, e90, e92, e95, e96, e97, e98, e104, e105, q_nk, q_nd, q_nc, q_md, q_sz, q_nb, q_ca, q_dp]; exact hm.sc
  · rw [s85_46, q_nb]; exact hm.b
  · simp only [e86, e87, e88, e89, e90, e92, e95, e96, e97, e98, e104, e105, q_nk, q_nd, q_nc, q_md, q_sz, q_nb, q_ca, q_dp]; exact hm.bb
  · rw [s85_33]; exact hm.ap
  · simp only [e86, e87, e88, e89, e90, e92, e95, e96, e97, e98, e104, e105, q_nk, q_nd, q_nc, q_md, q_sz, q_nb, q_ca, q_dp]; exact hm.dep
  · simp only [e86, e87, e88, e89, e90, e92, e95, e96, e97, e98, e104, e105, q_nk, q_nd, q_nc, q_md, q_sz, q_nb, q_ca, q_dp]; exact hm.near
  · simp only [e86, e87, e88, e89, e90, e92, e95, e96, e97, e98, e104, e105, q_nk, q_nd, q_nc, q_md, q_sz, q_nb, q_ca, q_dp]; exact hm.told
  · simp only [e86, e87, e88, e89, e90, e92, e95, e96, e97, e98, e104, e105, q_nk, q_nd, q_nc, q_md, q_sz, q_nb, q_ca, q_dp]; exact hm.toldn
  · simp only [e86, e87, e88, e89, e90, e92, e95, e96, e97, e98, e104, e105, q_nk, q_nd, q_nc, q_md, q_sz, q_nb, q_ca, q_dp]; exact hm.bs
  · simp only [e86, e87, e88, e89, e90, e92, e95, e96, e97, e98, e104, e105, q_nk, q_nd, q_nc, q_md, q_sz, q_nb, q_ca, q_dp]; exact hm.bd
  · simp only [e86, e87, e88, e89, e90, e92, e95, e96, e97, e98, e104, e105, q_nk, q_nd, q_nc, q_md, q_sz, q_nb, q_ca, q_dp]; exact hm.bp
  · simp only [e86, e87, e88, e89, e90, e92, e95, e96, e97, e98, e104, e105, q_nk, q_nd, q_nc, q_md, q_sz, q_nb, q_ca, q_dp]; exact hm.rb
  · simp only [e86, e87, e88, e89, e90, e92, e95, e96, e97, e98, e104, e105, q_nk, q_nd, q_nc, q_md, q_sz, q_nb, q_ca, q_dp]; exact hm.ru
  · simp only [e86, e87, e88, e89, e90, e92, e95, e96, e97, e98, e104, e105, q_nk, q_nd, q_nc, q_md, q_sz, q_nb, q_ca, q_dp]; exact hm.wu
  · simp only [e86, e87, e88, e89, e90, e92, e95, e96, e97, e98, e104, e105, q_nk, q_nd, q_nc, q_md, q_sz, q_nb, q_ca, q_dp]; exact hm.wf
  · simp only [e86, e87, e88, e89, e90, e92, e95, e96, e97, e98, e104, e105, q_nk, q_nd, q_nc, q_md, q_sz, q_nb, q_ca, q_dp]; exact hm.hu
theorem RK_up_fr {I J : Nat → Nat → Int32} {L K : Nat → Nat → Int64} {R : Nat → Nat} (h : RK I L R) (s85_31 : J 85 31 = I 85 31) (s85_32 : J 85 32 = I 85 32) (s85_33 : J 85 33 = I 85 33) (s85_34 : J 85 34 = I 85 34) (s85_35 : J 85 35 = I 85 35) (s85_36 : J 85 36 = I 85 36) (s85_44 : J 85 44 = I 85 44) (s85_46 : J 85 46 = I 85 46) (s1_1 : J 1 1 = I 1 1) (s1_2 : J 1 2 = I 1 2) (s1_3 : J 1 3 = I 1 3) (s1_6 : J 1 6 = I 1 6) (s0_9 : J 0 9 = I 0 9) (s0_10 : J 0 10 = I 0 10) (s0_17 : J 0 17 = I 0 17) (s0_12 : J 0 12 = I 0 12) (r86 : ∀ b, J 86 b = I 86 b) (r87 : ∀ b, J 87 b = I 87 b) (r88 : ∀ b, J 88 b = I 88 b) (r89 : ∀ b, J 89 b = I 89 b) (r90 : ∀ b, J 90 b = I 90 b) (r92 : ∀ b, J 92 b = I 92 b) (r95 : ∀ b, J 95 b = I 95 b) (r96 : ∀ b, J 96 b = I 96 b) (r97 : ∀ b, J 97 b = I 97 b) (r98 : ∀ b, J 98 b = I 98 b) (r104 : ∀ b, J 104 b = I 104 b) (r105 : ∀ b, J 105 b = I 105 b) (kf : ∀ k f, k < 16 → f < 6 → J (19 + k) f = I (19 + k) f) (df : ∀ a f, 35 ≤ a → a ≤ 44 → f < 3 → J a f = I a f) (eL0 : ∀ k, k < 16 → K (19 + k) 0 = L (19 + k) 0) (eL1 : K 1 5 = L 1 5) (eL15 : ∀ b, K 15 b = L 15 b) (m : MI J) : RK J K R := by
  have e86 : ∀ b, J 86 b = I 86 b := fun b => r86 b
  have e87 : ∀ b, J 87 b = I 87 b := fun b => r87 b
  have e88 : ∀ b, J 88 b = I 88 b := fun b => r88 b
  have e89 : ∀ b, J 89 b = I 89 b := fun b => r89 b
  have e90 : ∀ b, J 90 b = I 90 b := fun b => r90 b
  have e92 : ∀ b, J 92 b = I 92 b := fun b => r92 b
  have e95 : ∀ b, J 95 b = I 95 b := fun b => r95 b
  have e96 : ∀ b, J 96 b = I 96 b := fun b => r96 b
  have e97 : ∀ b, J 97 b = I 97 b := fun b => r97 b
  have e98 : ∀ b, J 98 b = I 98 b := fun b => r98 b
  have e104 : ∀ b, J 104 b = I 104 b := fun b => r104 b
  have e105 : ∀ b, J 105 b = I 105 b := fun b => r105 b
  have q_nk : nkI J = nkI I := by unfold nkI; rw [s85_35]
  have q_nd : ndI J = ndI I := by unfold ndI; rw [s85_36]
  have q_nc : ncI J = ncI I := by unfold ncI; rw [s85_31]
  have q_md : mdI J = mdI I := by unfold mdI; rw [s85_32]
  have q_sz : szI J = szI I := by unfold szI; rw [s85_34]
  have q_nb : nbI J = nbI I := by unfold nbI; rw [s85_46]
  have q_dp : dpM J = dpM I := by funext k c; unfold dpM; rw [e86]
  have hkb := h.mi.kb
  have f1 : ∀ k, k < 16 → J (19 + k) 1 = I (19 + k) 1 := fun k hk => kf k 1 hk (by decide)
  have f2 : ∀ k, k < 16 → J (19 + k) 2 = I (19 + k) 2 := fun k hk => kf k 2 hk (by decide)
  have f3 : ∀ k, k < 16 → J (19 + k) 3 = I (19 + k) 3 := fun k hk => kf k 3 hk (by decide)
  have f4 : ∀ k, k < 16 → J (19 + k) 4 = I (19 + k) 4 := fun k hk => kf k 4 hk (by decide)
  have f5 : ∀ k, k < 16 → J (19 + k) 5 = I (19 + k) 5 := fun k hk => kf k 5 hk (by decide)
  have g0 : ∀ d, d < 10 → J (R d) 0 = I (R d) 0 := fun d hd => by
    have := h.rr d hd
    exact df (R d) 0 (by omega) (by omega) (by decide)
  have g1 : ∀ d, d < 10 → J (R d) 1 = I (R d) 1 := fun d hd => by
    have := h.rr d hd
    exact df (R d) 1 (by omega) (by omega) (by decide)
  have g2 : ∀ d, d < 10 → J (R d) 2 = I (R d) 2 := fun d hd => by
    have := h.rr d hd
    exact df (R d) 2 (by omega) (by omega) (by decide)
  refine ⟨m, ?_, ?_, ?_, ?_, ?_, ?_, ?_, ?_, ?_, ?_, ?_, ?_, ?_, ?_, ?_, ?_, ?_, ?_, ?_, ?_, ?_, ?_⟩
  · exact by rw [s1_1, s85_31]; exact h.ch
  · exact by rw [s1_2, s85_32]; exact h.dp
  · exact by rw [s1_3, s85_33]; exact h.ap
  · exact by rw [s1_6, s85_34]; exact h.sz
  · exact by rw [s0_9, s85_35]; exact h.nk
  · exact by rw [s0_10, s85_36]; exact h.nd
  · exact by rw [s0_17, s85_44]; exact h.ct
  · exact by rw [s0_12, s85_46]; exact h.nb
  · exact fun k hk => by
      rw [q_nk] at hk
      rw [eL0 k (by omega), q_dp, q_nc]; exact h.kc k hk
  · exact fun k hk => by
      rw [q_nk] at hk
      rw [e95, f1 k (by omega)]; exact h.kp k hk
  · exact fun k hk => by rw [e92, f2 k hk]; exact h.kl k hk
  · exact fun k hk => by rw [e89, f4 k hk]; exact h.kh k hk
  · exact fun k hk => by
      rw [q_nk] at hk
      rw [e89, e90, f5 k (by omega)]; exact h.kd k hk
  · exact fun k j hk hj => by
      rw [q_nk] at hk
      rw [f3 k (by omega), q_nk, e96, e96]; exact h.kr k j hk hj
  · exact fun d k hd hk => by rw [g1 d hd, e88]; exact h.wi d k hd hk
  · exact fun d k hd hk => by rw [g1 d hd]; exact h.w0 d k hd hk
  · exact fun d hd => by rw [e97, g0 d hd]; exact h.wa d hd
  · exact fun d hd => by rw [e98, g2 d hd]; exact h.bu d hd
  · exact h.rr
  · exact h.ri
  · exact by rw [eL1, q_sz]; simp only [e87]; exact h.to
  · exact fun b hb => by
      rw [q_nb] at hb
      rw [eL15]; simp only [e104, e105]; exact h.bl b hb
theorem RK_R {I : Nat → Nat → Int32} {L : Nat → Nat → Int64} {R S : Nat → Nat} (h : RK I L R) (e : ∀ d, d < 10 → S d = R d) : RK I L S := by
  obtain ⟨h0, h1, h2, h3, h4, h5, h6, h7, h8, h9, h10, h11, h12, h13, h14, h15, h16, h17, h18, h19, h20, h21, h22⟩ := h
  refine ⟨h0, h1, h2, h3, h4, h5, h6, h7, h8, h9, h10, h11, h12, h13, h14, ?_, ?_, ?_, ?_, ?_, ?_, h21, h22⟩
  · intro d k hd; rw [e d hd]; exact h15 d k hd
  · intro d k hd; rw [e d hd]; exact h16 d k hd
  · intro d hd; rw [e d hd]; exact h17 d hd
  · intro d hd; rw [e d hd]; exact h18 d hd
  · intro d hd; rw [e d hd]; exact h19 d hd
  · intro d g hd hg; rw [e d hd, e g hg]; exact h20 d g hd hg
/-! frames -/
noncomputable def eNo (md : eMd) (a : Nat) : Bool := md.all (fun q => !(Nat.ble q.1 a && Nat.ble a q.2.1))
theorem eAny_no {p : Nat × Nat × Nat → Bool} : ∀ {l : List (Nat × Nat × Nat)}, (∀ q ∈ l, p q = false) → eAny p l = false
  | [], _ => rfl
  | q :: l, h => by
    have h1 := h q List.mem_cons_self
    have h2 := eAny_no (l := l) (fun z hz => h z (List.mem_cons_of_mem _ hz))
    show (bif p q then true else eAny p l) = false
    rw [h1, h2]; rfl
theorem eNo_s {md : eMd} {a : Nat} (h : eNo md a = true) (j : Nat) : eMa md a a j = false := by
  refine eAny_no (fun q hq => ?_)
  have h1 := List.all_eq_true.mp h q hq
  rw [Bool.not_eq_true', Bool.and_eq_false_iff] at h1
  show (bif Nat.ble q.1 a then (bif Nat.ble a q.2.1 then (bif Nat.beq q.2.2 j then true else Nat.beq q.2.2 99) else false) else false) = false
  cases g1 : Nat.ble q.1 a with
  | false => rfl
  | true =>
    cases g2 : Nat.ble a q.2.1 with
    | false => rfl
    | true =>
      rcases h1 with z | z
      · rw [g1] at z; cases z
      · rw [g2] at z; cases z
noncomputable def rkFr (md : eMd) : Bool :=
  [(85, 31), (85, 32), (85, 33), (85, 34), (85, 35), (85, 36), (85, 44), (85, 46), (1, 1), (1, 2), (1, 3), (1, 6), (0, 9), (0, 10), (0, 17), (0, 12), (1, 5)].all (fun q => !eMa md q.1 q.1 q.2) &&
  ([86, 87, 88, 89, 90, 92, 95, 96, 97, 98, 104, 105, 15, 13].all (fun a => eNo md a) &&
  ((List.range 16).all (fun k => (List.range 6).all (fun f => !eMa md (19 + k) (19 + k) f)) &&
  (List.range 10).all (fun k => (List.range 3).all (fun f => !eMa md (35 + k) (35 + k) f))))
theorem vL_get {h : sH} {a f : Nat} : vL h a f = (match eGet h a f with
  | some v => lOf v
  | none => 0) := by
  unfold vL eGet
  cases h[a]? with
  | none => rfl
  | some c =>
    cases c with
    | inl q =>
      show lOf (q.2.getD f .null) = (match q.2[f]? with
        | some v => lOf v
        | none => 0)
      rw [List.getD_eq_getElem?_getD]
      cases q.2[f]? <;> rfl
    | inr q =>
      show lOf (q.2.getD f .null) = (match q.2[f]? with
        | some v => lOf v
        | none => 0)
      rw [List.getD_eq_getElem?_getD]
      cases q.2[f]? <;> rfl
theorem vL_mod {md : eMd} {h h' : sH} {a f : Nat} (hm : eMod md h h') (ha : a < 119) (hf : eMa md a a f = false) : vL h' a f = vL h a f := by
  rw [vL_get, vL_get, hm a f ha hf]
theorem vR_get {h : sH} {f : Nat} : vR h f = (match eGet h 13 f with
  | some v => nOf v
  | none => 0) := by
  unfold vR eGet
  cases h[13]? with
  | none => rfl
  | some c =>
    cases c with
    | inl q =>
      show nOf (q.2.getD f .null) = (match q.2[f]? with
        | some v => nOf v
        | none => 0)
      rw [List.getD_eq_getElem?_getD]
      cases q.2[f]? <;> rfl
    | inr q =>
      show nOf (q.2.getD f .null) = (match q.2[f]? with
        | some v => nOf v
        | none => 0)
      rw [List.getD_eq_getElem?_getD]
      cases q.2[f]? <;> rfl
theorem vR_mod {md : eMd} {h h' : sH} {f : Nat} (hm : eMod md h h') (hf : eMa md 13 13 f = false) : vR h' f = vR h f := by
  rw [vR_get, vR_get, hm 13 f (by decide) hf]
theorem RK_mod {md : eMd} {h h' : sH} (hf : rkFr md = true) (hm : eMod md h h') (hK : RK (vI h) (vL h) (vR h)) : RK (vI h') (vL h') (vR h') := by
  unfold rkFr at hf
  rw [Bool.and_eq_true, Bool.and_eq_true, Bool.and_eq_true] at hf
  obtain ⟨f1, f2, f3, f4⟩ := hf
  have s : ∀ a f, (a, f) ∈ [(85, 31), (85, 32), (85, 33), (85, 34), (85, 35), (85, 36), (85, 44), (85, 46), (1, 1), (1, 2), (1, 3), (1, 6), (0, 9), (0, 10), (0, 17), (0, 12), (1, 5)] → eMa md a a f = false := fun a f hq => by
    have := List.all_eq_true.mp f1 _ hq
    rwa [Bool.not_eq_true'] at this
  have r : ∀ a, a ∈ [86, 87, 88, 89, 90, 92, 95, 96, 97, 98, 104, 105, 15, 13] → ∀ f, eMa md a a f = false := fun a hq f => eNo_s (List.all_eq_true.mp f2 _ hq) f
  have k : ∀ k f, k < 16 → f < 6 → eMa md (19 + k) (19 + k) f = false := fun k f hk hf => by
    have := List.all_eq_true.mp (List.all_eq_true.mp f3 k (List.mem_range.mpr hk)) f (List.mem_range.mpr hf)
    rwa [Bool.not_eq_true'] at this
  have d : ∀ k f, k < 10 → f < 3 → eMa md (35 + k) (35 + k) f = false := fun k f hk hf => by
    have := List.all_eq_true.mp (List.all_eq_true.mp f4 k (List.mem_range.mpr hk)) f (List.mem_range.mpr hf)
    rwa [Bool.not_eq_true'] at this
  have eR : ∀ j, vR h' j = vR h j := fun j => vR_mod hm (r 13 (by decide) j)
  have := RK_up_fr (J := vI h') (K := vL h') hK (vI_mod hm (by decide) (s 85 31 (by decide))) (vI_mod hm (by decide) (s 85 32 (by decide))) (vI_mod hm (by decide) (s 85 33 (by decide))) (vI_mod hm (by decide) (s 85 34 (by decide))) (vI_mod hm (by decide) (s 85 35 (by decide))) (vI_mod hm (by decide) (s 85 36 (by decide))) (vI_mod hm (by decide) (s 85 44 (by decide))) (vI_mod hm (by decide) (s 85 46 (by decide))) (vI_mod hm (by decide) (s 1 1 (by decide))) (vI_mod hm (by decide) (s 1 2 (by decide))) (vI_mod hm (by decide) (s 1 3 (by decide))) (vI_mod hm (by decide) (s 1 6 (by decide))) (vI_mod hm (by decide) (s 0 9 (by decide))) (vI_mod hm (by decide) (s 0 10 (by decide))) (vI_mod hm (by decide) (s 0 17 (by decide))) (vI_mod hm (by decide) (s 0 12 (by decide))) (fun b => vI_mod hm (by decide) (r 86 (by decide) b)) (fun b => vI_mod hm (by decide) (r 87 (by decide) b)) (fun b => vI_mod hm (by decide) (r 88 (by decide) b)) (fun b => vI_mod hm (by decide) (r 89 (by decide) b)) (fun b => vI_mod hm (by decide) (r 90 (by decide) b)) (fun b => vI_mod hm (by decide) (r 92 (by decide) b)) (fun b => vI_mod hm (by decide) (r 95 (by decide) b)) (fun b => vI_mod hm (by decide) (r 96 (by decide) b)) (fun b => vI_mod hm (by decide) (r 97 (by decide) b)) (fun b => vI_mod hm (by decide) (r 98 (by decide) b)) (fun b => vI_mod hm (by decide) (r 104 (by decide) b)) (fun b => vI_mod hm (by decide) (r 105 (by decide) b)) (fun n f hn hf' => vI_mod hm (by omega) (k n f hn hf')) (fun a f h1 h2 hf' => by
    obtain ⟨n, rfl⟩ : ∃ n, a = 35 + n := ⟨a - 35, by omega⟩
    exact vI_mod hm (by omega) (d n f (by omega) hf')) (fun n hn => vL_mod hm (by omega) (k n 0 hn (by decide))) (vL_mod hm (by decide) (s 1 5 (by decide))) (fun b => vL_mod hm (by decide) (r 15 (by decide) b)) (MI_up_fr hK.mi (vI_mod hm (by decide) (s 85 31 (by decide))) (vI_mod hm (by decide) (s 85 32 (by decide))) (vI_mod hm (by decide) (s 85 33 (by decide))) (vI_mod hm (by decide) (s 85 34 (by decide))) (vI_mod hm (by decide) (s 85 35 (by decide))) (vI_mod hm (by decide) (s 85 36 (by decide))) (vI_mod hm (by decide) (s 85 44 (by decide))) (vI_mod hm (by decide) (s 85 46 (by decide))) (vI_mod hm (by decide) (s 1 1 (by decide))) (vI_mod hm (by decide) (s 1 2 (by decide))) (vI_mod hm (by decide) (s 1 3 (by decide))) (vI_mod hm (by decide) (s 1 6 (by decide))) (vI_mod hm (by decide) (s 0 9 (by decide))) (vI_mod hm (by decide) (s 0 10 (by decide))) (vI_mod hm (by decide) (s 0 17 (by decide))) (vI_mod hm (by decide) (s 0 12 (by decide))) (fun b => vI_mod hm (by decide) (r 86 (by decide) b)) (fun b => vI_mod hm (by decide) (r 87 (by decide) b)) (fun b => vI_mod hm (by decide) (r 88 (by decide) b)) (fun b => vI_mod hm (by decide) (r 89 (by decide) b)) (fun b => vI_mod hm (by decide) (r 90 (by decide) b)) (fun b => vI_mod hm (by decide) (r 92 (by decide) b)) (fun b => vI_mod hm (by decide) (r 95 (by decide) b)) (fun b => vI_mod hm (by decide) (r 96 (by decide) b)) (fun b => vI_mod hm (by decide) (r 97 (by decide) b)) (fun b => vI_mod hm (by decide) (r 98 (by decide) b)) (fun b => vI_mod hm (by decide) (r 104 (by decide) b)) (fun b => vI_mod hm (by decide) (r 105 (by decide) b)))
  exact RK_R this (fun j _ => eR j)
noncomputable def rdFr (md : eMd) : Bool := !eMa md 0 0 13 && (List.range 8).all (fun p => !eMa md (57 + p) (57 + p) 1)
theorem RD_mod {md : eMd} {h h' : sH} (hf : rdFr md = true) (hm : eMod md h h') (hD : RD (vI h)) : RD (vI h') := by
  unfold rdFr at hf
  rw [Bool.and_eq_true, Bool.not_eq_true'] at hf
  intro p hp
  have f2 := List.all_eq_true.mp hf.2 p (List.mem_range.mpr hp)
  rw [Bool.not_eq_true'] at f2
  rw [vI_mod hm (by omega) f2, vI_mod hm (by decide) hf.1]
  exact hD p hp
/-! the relation -/
noncomputable def eRel (h : sH) : Prop := RG (vI h) ∧ RK (vI h) (vL h) (vR h) ∧ RD (vI h)
noncomputable def relFr (md : eMd) : Bool := rgFr md && (rkFr md && rdFr md)
noncomputable def eRelT (b : Int) (h : sH) : Prop := eRel h ∧ RT (100 * b) (vI h)
theorem eRelT_le {b c : Int} {h : sH} (hR : eRelT b h) (hb : b ≤ c) : eRelT c h := ⟨hR.1, RT_le hR.2 (by omega)⟩
theorem eRel_mod {md : eMd} {h h' : sH} (hf : relFr md = true) (hm : eMod md h h') (hR : eRel h) : eRel h' := by
  unfold relFr at hf
  rw [Bool.and_eq_true, Bool.and_eq_true] at hf
  exact ⟨RG_mod hf.1 hm hR.1, RK_mod hf.2.1 hm hR.2.1, RD_mod hf.2.2 hm hR.2.2⟩
/-! what a method does, from its contracts -/
noncomputable def eDo (M : Nat) (fs : List eF) (md : eMd) (fb : Bool) : Prop := ∀ (as : List Value) (h : sH), eInv h → eSz h → eAm 0 fs as → ∃ r h', sGo1 mtv eFu 30 M as h = some (r, h') ∧ eInv h' ∧ eSz h' ∧ eMod md h h' ∧ (fb = true → ∀ v, r = .inl (some (.int v)) → v = 0 ∨ v = 1)
theorem eDo_1 {C : eC} {fb : Bool} (k : eCo mtv eFu C) (d : C.2.1 ≤ 30) (q : C.2.2.2.1 = []) (z : eMa C.2.2.2.2.1 85 85 31 = false ∧ eMa C.2.2.2.2.1 85 85 34 = false) (hfb : fb = true → C.2.2.2.2.2.1 = some eBo) : eDo C.1 C.2.2.1 C.2.2.2.2.1 fb := fun as h hI hz hA => by
  obtain ⟨r, h1, g1, i1, l1, m1, s1, -⟩ := k 30 as h d hI hA (by rw [q]; exact fun _ q => nomatch q)
  refine ⟨r, h1, g1, i1, eSz_mod i1 m1 z.1 z.2 hz, m1, fun e v hr => ?_⟩
  rw [hfb e, hr] at s1
  have s3 : eFm 0 eBo (.int v) := s1
  have := tFk_s (ty := .boolean) (rf := (0, 0)) rfl s3
  rcases (show (Value.int v = .int 0 ∨ Value.int v = .int 1) from this) with q | q
  · cases q; exact Or.inl rfl
  · cases q; exact Or.inr rfl
theorem eDo_4 {M : Nat} {fs : List eF} {md : eMd} (H : ∀ c ∈ ([3, 4, 5, 6] : List Int), ∃ C : eC, eCo mtv eFu C ∧ C.1 = M ∧ C.2.1 ≤ 30 ∧ C.2.2.1 = fs ∧ C.2.2.2.1 = eRqc c ∧ C.2.2.2.2.1 = md ∧ C.2.2.2.2.2.2.2 = eRqc c) : eDo M fs md false := fun as h hI hz hA => by
  obtain ⟨c, hc, hq⟩ := eSz_c hI hz
  obtain ⟨C, k, rfl, d, rfl, q, rfl, p⟩ := H c hc
  obtain ⟨r, h1, g1, i1, l1, m1, s1, s2⟩ := k 30 as h d hI hA (by rw [q]; exact hq)
  rw [p] at s2
  exact ⟨r, h1, g1, i1, eRqc_sz (Int.le_refl _) s2, m1, fun e => by cases e⟩
theorem eDo_P {M : Nat} {fs : List eF} {md : eMd} (H : ∀ c ∈ ([3, 4, 5, 6] : List Int), ∃ C : eC, eCoP mtv eFu C eSz ∧ C.1 = M ∧ C.2.1 ≤ 30 ∧ C.2.2.1 = fs ∧ C.2.2.2.1 = eRqc c ∧ C.2.2.2.2.1 = md) : eDo M fs md false := fun as h hI hz hA => by
  obtain ⟨c, hc, hq⟩ := eSz_c hI hz
  obtain ⟨C, k, rfl, d, rfl, q, rfl⟩ := H c hc
  obtain ⟨r, h1, g1, i1, l1, m1, s1, s2, s3⟩ := k 30 as h d hI hA (by rw [q]; exact hq)
  exact ⟨r, h1, g1, i1, s3, m1, fun e => by cases e⟩
theorem in4 {Q : Int → Prop} (h3 : Q 3) (h4 : Q 4) (h5 : Q 5) (h6 : Q 6) : ∀ c ∈ ([3, 4, 5, 6] : List Int), Q c := fun c hc => by
  simp only [List.mem_cons, List.not_mem_nil, or_false] at hc
  rcases hc with rfl | rfl | rfl | rfl
  · exact h3
  · exact h4
  · exact h5
  · exact h6
/-! facts -/
theorem fact_W2 {W M : Nat} {aW aM : List Value} {fW fM : List eF} {mW mM : eMd} {fb : Bool} {R : sH → Prop} {RR : (Nat → Nat → Int32) → (Nat → Nat → Int64) → (Nat → Nat) → Prop} {h : sH} (k1 : eDo W fW mW false) (k2 : eDo M fM mM fb) (hA1 : eAm 0 fW aW) (hA2 : eAm 0 fM aM) (hI : eInv h) (hz : eSz h)
    (op : ∀ r : sR, qGo W aW h r → eInv r.2 → ∀ r2 : sR, qGo M aM r.2 r2 → opE r.1 r2.1 r2.2 RR)
    (fin : ∀ (r1 : sR) (h2 : sH) (I2 : Nat → Nat → Int32) (L2 : Nat → Nat → Int64) (R2 : Nat → Nat), qGo W aW h r1 → eMod mW h r1.2 → eMod mM r1.2 h2 → qH h2 I2 L2 R2 → RR I2 L2 R2 → R h2) : opF W M aW aM fb R h := by
  obtain ⟨r, h1, g1, i1, z1, m1, -⟩ := k1 aW h hI hz hA1
  obtain ⟨r2, h2, g2, i2, z2, m2, s2⟩ := k2 aM h1 i1 z1 hA2
  obtain ⟨k, v, I2, L2, R2, x1, x2, x3, x4, x5, x6⟩ := op (r, h1) ⟨30, g1⟩ i1 (r2, h2) ⟨30, g2⟩
  have hfin := fin (r, h1) h2 I2 L2 R2 ⟨30, g1⟩ m1 m2 x3 x6
  dsimp only at x1 x2 x3
  subst x1 x2
  obtain ⟨vs1, E1, -⟩ := obj85 i1
  obtain ⟨-, -, vs2, E2, l42, q42⟩ := eInv_o (q := (85, 85)) (c := 9) (a := 85) i2 rfl (Nat.le_refl _) (Nat.le_refl _)
  obtain ⟨w42, f42, x, rfl, -, -⟩ := q42 42 (.inl (-2147483648, 2147483647)) rfl
  have hk : x = k := by
    rw [← x4, ← x3.2.1]
    exact (vI_at (c := .inr (9, vs2)) E2 f42).symm
  subst hk
  refine ⟨x, v, h1, h2, vs1, vs2, g1, E1, g2, E2, f42, fun e => ?_, fun e => s2 e v rfl, i2, z2, hfin⟩
  obtain ⟨-, -, w, e117, l117, hv⟩ := eInv_a (q := (117, 117)) (a := 117) i2 rfl (Nat.le_refl _) (Nat.le_refl _)
  have l0 : 0 < w.length := by rw [l117]; decide
  have w0 : w[0]? = some (w[0]'l0) := List.getElem?_eq_getElem l0
  refine ⟨w, e117, ?_⟩
  have hy := hv _ (List.getElem_mem l0)
  have hy : ∃ y, w[0]'l0 = .long y := tFk_s (ty := .long) (rf := (0, 0)) rfl hy
  obtain ⟨y, hy⟩ := hy
  rw [w0, hy]
  have e9 := x5 e
  rw [← x3.2.2.1, vL_at (c := .inl (2, w)) e117 (show w[0]? = some (.long y) by rw [w0, hy])] at e9
  have e9 : y = v.toInt64 := e9
  rw [e9]
theorem fact_D2 {W M : Nat} {aW aM : List Value} {fW fM : List eF} {mW mM : eMd} {R : sH → Prop} {RR : (Nat → Nat → Int32) → (Nat → Nat → Int64) → (Nat → Nat) → Prop} {h : sH} (k1 : eDo W fW mW false) (k2 : eDo M fM mM false) (hA1 : eAm 0 fW aW) (hA2 : eAm 0 fM aM) (hI : eInv h) (hz : eSz h)
    (op : ∀ r : sR, qGo W aW h r → eInv r.2 → ∀ r2 : sR, qGo M aM r.2 r2 → opD r.1 r2.1 r2.2 RR)
    (fin : ∀ (r1 : sR) (h2 : sH) (I2 : Nat → Nat → Int32) (L2 : Nat → Nat → Int64) (R2 : Nat → Nat), qGo W aW h r1 → eMod mW h r1.2 → eMod mM r1.2 h2 → qH h2 I2 L2 R2 → RR I2 L2 R2 → R h2) : opFd W M aW aM R h := by
  obtain ⟨r, h1, g1, i1, z1, m1, -⟩ := k1 aW h hI hz hA1
  obtain ⟨r2, h2, g2, i2, z2, m2, s2⟩ := k2 aM h1 i1 z1 hA2
  obtain ⟨v, I2, L2, R2, x1, x2, x3, x6⟩ := op (r, h1) ⟨30, g1⟩ i1 (r2, h2) ⟨30, g2⟩
  have hfin := fin (r, h1) h2 I2 L2 R2 ⟨30, g1⟩ m1 m2 x3 x6
  dsimp only at x1 x2 x3
  subst x1 x2
  obtain ⟨vs1, E1, -⟩ := obj85 i1
  exact ⟨v, h1, h2, vs1, g1, E1, g2, i2, z2, hfin⟩
/-- .. of a call with a wrapper whose answers aren't compared -/
noncomputable def opFx (W M : Nat) (aW aM : List Value) (R : sH → Prop) (h : sH) : Prop := ∃ (k v : Int32) (h1 h2 : sH) (vs1 : List Value), sGo1 mtv eFu 30 W aW h = some (.inl (some (.int k)), h1) ∧ h1[85]? = some (.inr (9, vs1)) ∧ sGo1 mtv eFu 30 M aM h1 = some (.inl (some (.int v)), h2) ∧ eLI R h2
theorem fact_X2 {W M : Nat} {aW aM : List Value} {fW fM : List eF} {mW mM : eMd} {R : sH → Prop} {RR : (Nat → Nat → Int32) → (Nat → Nat → Int64) → (Nat → Nat) → Prop} {h : sH} (k1 : eDo W fW mW false) (k2 : eDo M fM mM false) (hA1 : eAm 0 fW aW) (hA2 : eAm 0 fM aM) (hI : eInv h) (hz : eSz h)
    (op : ∀ r : sR, qGo W aW h r → eInv r.2 → ∀ r2 : sR, qGo M aM r.2 r2 → opX r.1 r2.1 r2.2 RR)
    (fin : ∀ (r1 : sR) (h2 : sH) (I2 : Nat → Nat → Int32) (L2 : Nat → Nat → Int64) (R2 : Nat → Nat), qGo W aW h r1 → eMod mW h r1.2 → eMod mM r1.2 h2 → qH h2 I2 L2 R2 → RR I2 L2 R2 → R h2) : opFx W M aW aM R h := by
  obtain ⟨r, h1, g1, i1, z1, m1, -⟩ := k1 aW h hI hz hA1
  obtain ⟨r2, h2, g2, i2, z2, m2, s2⟩ := k2 aM h1 i1 z1 hA2
  obtain ⟨k, v, I2, L2, R2, x1, x2, x3, x6⟩ := op (r, h1) ⟨30, g1⟩ i1 (r2, h2) ⟨30, g2⟩
  have hfin := fin (r, h1) h2 I2 L2 R2 ⟨30, g1⟩ m1 m2 x3 x6
  dsimp only at x1 x2 x3
  subst x1 x2
  obtain ⟨vs1, E1, -⟩ := obj85 i1
  exact ⟨k, v, h1, h2, vs1, g1, E1, g2, i2, z2, hfin⟩
/-- .. that answers a long -/
noncomputable def opFl (X M : Nat) (aX aM : List Value) (R : sH → Prop) (h : sH) : Prop := ∃ (v : Int64) (h1 h2 : sH) (vs1 : List Value), sGo1 mtv eFu 30 X aX h = some (.inl (some (.long v)), h1) ∧ h1[85]? = some (.inr (9, vs1)) ∧ sGo1 mtv eFu 30 M aM h1 = some (.inl (some (.long v)), h2) ∧ eLI R h2
theorem fact_L2 {W M : Nat} {aW aM : List Value} {fW fM : List eF} {mW mM : eMd} {R : sH → Prop} {RR : (Nat → Nat → Int32) → (Nat → Nat → Int64) → (Nat → Nat) → Prop} {h : sH} (k1 : eDo W fW mW false) (k2 : eDo M fM mM false) (hA1 : eAm 0 fW aW) (hA2 : eAm 0 fM aM) (hI : eInv h) (hz : eSz h)
    (op : ∀ r : sR, qGo W aW h r → eInv r.2 → ∀ r2 : sR, qGo M aM r.2 r2 → opDl r.1 r2.1 r2.2 RR)
    (fin : ∀ (r1 : sR) (h2 : sH) (I2 : Nat → Nat → Int32) (L2 : Nat → Nat → Int64) (R2 : Nat → Nat), qGo W aW h r1 → eMod mW h r1.2 → eMod mM r1.2 h2 → qH h2 I2 L2 R2 → RR I2 L2 R2 → R h2) : opFl W M aW aM R h := by
  obtain ⟨r, h1, g1, i1, z1, m1, -⟩ := k1 aW h hI hz hA1
  obtain ⟨r2, h2, g2, i2, z2, m2, s2⟩ := k2 aM h1 i1 z1 hA2
  obtain ⟨v, I2, L2, R2, x1, x2, x3, x6⟩ := op (r, h1) ⟨30, g1⟩ i1 (r2, h2) ⟨30, g2⟩
  have hfin := fin (r, h1) h2 I2 L2 R2 ⟨30, g1⟩ m1 m2 x3 x6
  dsimp only at x1 x2 x3
  subst x1 x2
  obtain ⟨vs1, E1, -⟩ := obj85 i1
  exact ⟨v, h1, h2, vs1, g1, E1, g2, i2, z2, hfin⟩
theorem rd_fr {W : Nat} {aW : List Value} {mW : eMd} {h : sH} (f : rdFr mW = true) (hD : RD (vI h)) : ∀ r1 : sR, qGo W aW h r1 → eMod mW h r1.2 → RD (vI r1.2) := fun _ _ m => RD_mod f m hD
theorem rt_fr {W : Nat} {aW : List Value} {mW : eMd} {h : sH} {b : Int} (f : rtFr mW = true) (hT : RT (100 * b) (vI h)) : ∀ r1 : sR, qGo W aW h r1 → eMod mW h r1.2 → RT (100 * (b + 5)) (vI r1.2) := fun _ _ m => RT_le (RT_mod f m hT) (by omega)
noncomputable def fK (mW mM : eMd) : Bool := rgFr mW && (rgFr mM && (rdFr mM && rtFr mM))
theorem fin_K {W : Nat} {aW : List Value} {mW mM : eMd} {h : sH} {b : Int} (f : fK mW mM = true) (hR : eRelT b h) (hd : ∀ r1 : sR, qGo W aW h r1 → eMod mW h r1.2 → RD (vI r1.2)) (ht : ∀ r1 : sR, qGo W aW h r1 → eMod mW h r1.2 → RT (100 * (b + 5)) (vI r1.2)) : ∀ (r1 : sR) (h2 : sH) (I2 : Nat → Nat → Int32) (L2 : Nat → Nat → Int64) (R2 : Nat → Nat), qGo W aW h r1 → eMod mW h r1.2 → eMod mM r1.2 h2 → qH h2 I2 L2 R2 → RK I2 L2 R2 → eRelT (b + 5) h2 := fun r1 h2 I2 L2 R2 g m1 m2 t k => by
  unfold fK at f
  rw [Bool.and_eq_true, Bool.and_eq_true, Bool.and_eq_true] at f
  obtain ⟨_, rfl, rfl, rfl⟩ := t
  exact ⟨⟨RG_mod f.2.1 m2 (RG_mod f.1 m1 hR.1.1), k, RD_mod f.2.2.1 m2 (hd r1 g m1)⟩, RT_mod f.2.2.2 m2 (ht r1 g m1)⟩
noncomputable def fG (mW mM : eMd) : Bool := rkFr mW && (rkFr mM && (rdFr mM && rtFr mM))
theorem fin_G {W : Nat} {aW : List Value} {mW mM : eMd} {h : sH} {b : Int} (f : fG mW mM = true) (hR : eRelT b h) (hd : ∀ r1 : sR, qGo W aW h r1 → eMod mW h r1.2 → RD (vI r1.2)) (ht : ∀ r1 : sR, qGo W aW h r1 → eMod mW h r1.2 → RT (100 * (b + 5)) (vI r1.2)) : ∀ (r1 : sR) (h2 : sH) (I2 : Nat → Nat → Int32) (L2 : Nat → Nat → Int64) (R2 : Nat → Nat), qGo W aW h r1 → eMod mW h r1.2 → eMod mM r1.2 h2 → qH h2 I2 L2 R2 → RG I2 → eRelT (b + 5) h2 := fun r1 h2 I2 L2 R2 g m1 m2 t k => by
  unfold fG at f
  rw [Bool.and_eq_true, Bool.and_eq_true, Bool.and_eq_true] at f
  obtain ⟨_, rfl, rfl, rfl⟩ := t
  exact ⟨⟨k, RK_mod f.2.1 m2 (RK_mod f.1 m1 hR.1.2.1), RD_mod f.2.2.1 m2 (hd r1 g m1)⟩, RT_mod f.2.2.2 m2 (ht r1 g m1)⟩
/-! deputies -/
theorem qg_155 {h : sH} {r : sR} {Q : sR → Prop} {a1 : Int32} {a2 : Int32} {I : Nat → Nat → Int32} {L : Nat → Nat → Int64} {R : Nat → Nat} (th : qH h I L R) (g : qGo 155 [.ref (0), .int (a1), .int (a2), .ref (117)] h r)
    (p1 : ∀ (c4 : a1 < 0), Q (.inl (some (.int ((1 : Int32)))), h))
    (p2 : ∀ (c4 : ¬ a1 < 0), ∀ (c5 : a1 < (I 0 13)), ∀ (c6 : a2 = (-1 : Int32)), ∀ (c7 : ¬ a1 = a2), ∀ (bb8 : sIn a1 8 = true), ∀ (bb14 : sIn (0 : Int32) 1 = true), ∀ (h15 : sH), ∀ (t16 : qH h15 (upI I (57 + (a1).toNatClampNeg) 1 a2) (upL L 117 (((0 : Int32)).toNatClampNeg) ((I (57 + (a1).toNatClampNeg) 1).toInt64)) R), Q (.inl (some (.int ((0 : Int32)))), h15))
    (p3 : ∀ (c4 : ¬ a1 < 0), ∀ (c5 : a1 < (I 0 13)), ∀ (c6 : a2 = (-1 : Int32)), ∀ (c7 : a1 = a2), Q (.inl (some (.int ((2 : Int32)))), h))
    (p4 : ∀ (c4 : ¬ a1 < 0), ∀ (c5 : a1 < (I 0 13)), ∀ (c6 : ¬ a2 = (-1 : Int32)), ∀ (c18 : a2 < 0), Q (.inl (some (.int ((1 : Int32)))), h))
    (p5 : ∀ (c4 : ¬ a1 < 0), ∀ (c5 : a1 < (I 0 13)), ∀ (c6 : ¬ a2 = (-1 : Int32)), ∀ (c18 : ¬ a2 < 0), ∀ (c19 : a2 < (I 0 13)), ∀ (c20 : ¬ a1 = a2), ∀ (bb21 : sIn a1 8 = true), ∀ (bb27 : sIn (0 : Int32) 1 = true), ∀ (h28 : sH), ∀ (t29 : qH h28 (upI I (57 + (a1).toNatClampNeg) 1 a2) (upL L 117 (((0 : Int32)).toNatClampNeg) ((I (57 + (a1).toNatClampNeg) 1).toInt64)) R), Q (.inl (some (.int ((0 : Int32)))), h28))
    (p6 : ∀ (c4 : ¬ a1 < 0), ∀ (c5 : a1 < (I 0 13)), ∀ (c6 : ¬ a2 = (-1 : Int32)), ∀ (c18 : ¬ a2 < 0), ∀ (c19 : a2 < (I 0 13)), ∀ (c20 : a1 = a2), Q (.inl (some (.int ((2 : Int32)))), h))
    (p7 : ∀ (c4 : ¬ a1 < 0), ∀ (c5 : a1 < (I 0 13)), ∀ (c6 : ¬ a2 = (-1 : Int32)), ∀ (c18 : ¬ a2 < 0), ∀ (c19 : ¬ a2 < (I 0 13)), Q (.inl (some (.int ((1 : Int32)))), h))
    (p8 : ∀ (c4 : ¬ a1 < 0), ∀ (c5 : ¬ a1 < (I 0 13)), Q (.inl (some (.int ((1 : Int32)))), h)) : Q r := by
  refine qGo_w g (fun N => ?_)
  have hl0 : qLs (lv_args 0 [.ref (0), .int (a1), .int (a2), .ref (117)]) [some (.ref (0)), some (.int (a1)), some (.int (a2)), some (.ref (117)), none] := qLs_ar 1
  refine q_aload_n (show mE (mtv 155) 0 = some (.aload_n 3, 1, 0, 0) from rfl) (hl0 3 _ rfl) ?_
  refine q_iconst (show mE (mtv 155) 1 = some (.iconst 0, 1, 0, 0) from rfl) kI_0 ?_
  refine q_aload_n (show mE (mtv 155) 2 = some (.aload_n 0, 1, 0, 0) from rfl) (hl0 0 _ rfl) ?_
  refine q_iload_n (show mE (mtv 155) 3 = some (.iload_n 1, 1, 0, 0) from rfl) (hl0 1 _ rfl) ?_
  refine q_iload_n (show mE (mtv 155) 4 = some (.iload_n 2, 1, 0, 0) from rfl) (hl0 2 _ rfl) ?_
  refine q_virtualIh (show mE (mtv 155) 5 = some (.invokevirtual 122, 3, 156, 8) from rfl) (by decide) rfl rfl rfl (fun _ => ?_)
  have hl1 : qLs (lv_args 0 [.ref (0), .int (a1), .int (a2)]) [some (.ref (0)), some (.int (a1)), some (.int (a2)), none] := qLs_ar 1
  refine q_aload_n (show mE (mtv 156) 0 = some (.aload_n 0, 1, 0, 0) from rfl) (hl1 0 _ rfl) ?_
  refine q_iload_n (show mE (mtv 156) 1 = some (.iload_n 1, 1, 0, 0) from rfl) (hl1 1 _ rfl) ?_
  refine q_iload_n (show mE (mtv 156) 2 = some (.iload_n 2, 1, 0, 0) from rfl) (hl1 2 _ rfl) ?_
  refine q_virtualI (show mE (mtv 156) 3 = some (.invokevirtual 380, 3, 157, 8) from rfl) (by decide) rfl rfl rfl (fun _ => ?_)
  have hl2 : qLs (lv_args 0 [.ref (0), .int (a1), .int (a2)]) [some (.ref (0)), some (.int (a1)), some (.int (a2))] := qLs_ar 0
  refine q_aload_n (show mE (mtv 157) 0 = some (.aload_n 0, 1, 0, 0) from rfl) (hl2 0 _ rfl) ?_
  refine q_iload_n (show mE (mtv 157) 1 = some (.iload_n 1, 1, 0, 0) from rfl) (hl2 1 _ rfl) ?_
  refine q_virtualI (show mE (mtv 157) 2 = some (.invokevirtual 387, 3, 158, 8) from rfl) (by decide) rfl rfl rfl (fun _ => ?_)
  have hl3 : qLs (lv_args 0 [.ref (0), .int (a1)]) [some (.ref (0)), some (.int (a1))] := qLs_ar 0
  refine q_iload_n (show mE (mtv 158) 0 = some (.iload_n 1, 1, 0, 0) from rfl) (hl3 1 _ rfl) ?_
  refine q_if_lt (t := 12) (show mE (mtv 158) 1 = some (.ifCond .lt 11, 3, 0, 0) from rfl) rfl (fun c4 => ?_) (fun c4 => ?_)
  · refine q_throw (show mE (mtv 158) 12 = some (.new 338, 3, 1002, 0) from rfl) (by decide) ?_
    refine qK_x ?_
    refine qK_x ?_
    refine qKh_x (hp := 13) (c := (15, sDr 4 (lv_args 0 [.ref (0), .int (a1), .int (a2), .ref (117)]), [], h)) rfl (by decide) (fun _ _ => rfl) ?_
    refine q_iconst (show mE (mtv 155) 15 = some (.iconst 1, 1, 0, 0) from rfl) kI_1 ?_
    refine q_ireturn (show mE (mtv 155) 16 = some (.ireturn, 1, 0, 0) from rfl) ?_
    exact p1 c4
  · refine q_iload_n (show mE (mtv 158) 4 = some (.iload_n 1, 1, 0, 0) from rfl) (hl3 1 _ rfl) ?_
    refine q_aload_n (show mE (mtv 158) 5 = some (.aload_n 0, 1, 0, 0) from rfl) (hl3 0 _ rfl) ?_
    refine q_getI th (show mE (mtv 158) 6 = some (.getfield 396, 3, 8, 13) from rfl) (by decide) rfl ?_
    refine q_ic_lt (t := 23) (show mE (mtv 158) 9 = some (.if_icmp .lt 14, 3, 0, 0) from rfl) rfl (fun c5 => ?_) (fun c5 => ?_)
    · refine q_return_ (show mE (mtv 158) 23 = some (.return_, 1, 0, 0) from rfl) ?_
      refine qK_n ?_
      refine q_iload_n (show mE (mtv 157) 5 = some (.iload_n 2, 1, 0, 0) from rfl) (hl2 2 _ rfl) ?_
      refine q_iconst (show mE (mtv 157) 6 = some (.iconst (-1), 1, 0, 0) from rfl) kI_m1 ?_
      refine q_ic_eq (t := 15) (show mE (mtv 157) 7 = some (.if_icmp .eq 8, 3, 0, 0) from rfl) rfl (fun c6 => ?_) (fun c6 => ?_)
      · refine q_iload_n (show mE (mtv 157) 15 = some (.iload_n 1, 1, 0, 0) from rfl) (hl2 1 _ rfl) ?_
        refine q_iload_n (show mE (mtv 157) 16 = some (.iload_n 2, 1, 0, 0) from rfl) (hl2 2 _ rfl) ?_
        refine q_ic_ne (t := 31) (show mE (mtv 157) 17 = some (.if_icmp .ne 14, 3, 0, 0) from rfl) rfl (fun c7 => ?_) (fun c7 => ?_)
        · refine q_return_ (show mE (mtv 157) 31 = some (.return_, 1, 0, 0) from rfl) ?_
          refine qK_n ?_
          refine q_aload_n (show mE (mtv 156) 6 = some (.aload_n 0, 1, 0, 0) from rfl) (hl1 0 _ rfl) ?_
          refine q_getR (m := 16) th (show mE (mtv 156) 7 = some (.getfield 47, 3, 8, 6) from rfl) (by decide) rfl rfl ?_
          refine q_iload_n (show mE (mtv 156) 10 = some (.iload_n 1, 1, 0, 0) from rfl) (hl1 1 _ rfl) ?_
          refine q_aaload (n := 8) (t := 6) (m := 57) th (show mE (mtv 156) 11 = some (.aaload, 1, 0, 0) from rfl) (by decide) rfl (fun _ _ => rfl) (fun bb8 => ?_)
          refine q_getI th (show mE (mtv 156) 12 = some (.getfield 384, 3, 5, 1) from rfl) (qB bb8 (by decide)) rfl ?_
          refine q_istore_n (show mE (mtv 156) 15 = some (.istore_n 3, 1, 0, 0) from rfl) (Nat.le_of_ble_eq_true rfl) hl1 (fun lv9 (hl10 : qLs lv9 [some (.ref (0)), some (.int (a1)), some (.int (a2)), some (.int (I (57 + (a1).toNatClampNeg) 1))]) => ?_)
          refine q_aload_n (show mE (mtv 156) 16 = some (.aload_n 0, 1, 0, 0) from rfl) (hl10 0 _ rfl) ?_
          refine q_getR (m := 16) th (show mE (mtv 156) 17 = some (.getfield 47, 3, 8, 6) from rfl) (by decide) rfl rfl ?_
          refine q_iload_n (show mE (mtv 156) 20 = some (.iload_n 1, 1, 0, 0) from rfl) (hl10 1 _ rfl) ?_
          refine q_aaload (n := 8) (t := 6) (m := 57) th (show mE (mtv 156) 21 = some (.aaload, 1, 0, 0) from rfl) (by decide) rfl (fun _ _ => rfl) (fun bb11 => ?_)
          refine q_iload_n (show mE (mtv 156) 22 = some (.iload_n 2, 1, 0, 0) from rfl) (hl10 2 _ rfl) ?_
          refine q_putI th (show mE (mtv 156) 23 = some (.putfield 384, 3, 5, 1) from rfl) (qB bb11 (by decide)) rfl (fun h12 t13 => ?_)
          refine q_iload_n (show mE (mtv 156) 26 = some (.iload_n 3, 1, 0, 0) from rfl) (hl10 3 _ rfl) ?_
          refine q_ireturn (show mE (mtv 156) 27 = some (.ireturn, 1, 0, 0) from rfl) ?_
          refine qKh_v ?_
          refine q_i2l (show mE (mtv 155) 8 = some (.i2l, 1, 0, 0) from rfl) ?_
          refine q_lastore (n := 1) t13 (show mE (mtv 155) 9 = some (.lastore, 1, 0, 0) from rfl) (by decide) rfl (fun bb14 h15 t16 => ?_)
          refine q_goto (t := 21) (show mE (mtv 155) 10 = some (.goto 11, 3, 0, 0) from rfl) rfl ?_
          refine q_iconst (show mE (mtv 155) 21 = some (.iconst 0, 1, 0, 0) from rfl) kI_0 ?_
          refine q_ireturn (show mE (mtv 155) 22 = some (.ireturn, 1, 0, 0) from rfl) ?_
          exact p2 c4 c5 c6 c7 bb8 bb14 h15 t16
        · refine q_throw (show mE (mtv 157) 20 = some (.new 81, 3, 1000, 0) from rfl) (by decide) ?_
          refine qK_x ?_
          refine qKh_x (hp := 17) (c := (19, sDr 4 (lv_args 0 [.ref (0), .int (a1), .int (a2), .ref (117)]), [], h)) rfl (by decide) (fun _ _ => rfl) ?_
          refine q_iconst (show mE (mtv 155) 19 = some (.iconst 2, 1, 0, 0) from rfl) kI_2 ?_
          refine q_ireturn (show mE (mtv 155) 20 = some (.ireturn, 1, 0, 0) from rfl) ?_
          exact p3 c4 c5 c6 c7
      · refine q_aload_n (show mE (mtv 157) 10 = some (.aload_n 0, 1, 0, 0) from rfl) (hl2 0 _ rfl) ?_
        refine q_iload_n (show mE (mtv 157) 11 = some (.iload_n 2, 1, 0, 0) from rfl) (hl2 2 _ rfl) ?_
        refine q_virtualI (show mE (mtv 157) 12 = some (.invokevirtual 387, 3, 158, 8) from rfl) (by decide) rfl rfl rfl (fun _ => ?_)
        have hl17 : qLs (lv_args 0 [.ref (0), .int (a2)]) [some (.ref (0)), some (.int (a2))] := qLs_ar 0
        refine q_iload_n (show mE (mtv 158) 0 = some (.iload_n 1, 1, 0, 0) from rfl) (hl17 1 _ rfl) ?_
        refine q_if_lt (t := 12) (show mE (mtv 158) 1 = some (.ifCond .lt 11, 3, 0, 0) from rfl) rfl (fun c18 => ?_) (fun c18 => ?_)
        · refine q_throw (show mE (mtv 158) 12 = some (.new 338, 3, 1002, 0) from rfl) (by decide) ?_
          refine qK_x ?_
          refine qK_x ?_
          refine qKh_x (hp := 13) (c := (15, sDr 4 (lv_args 0 [.ref (0), .int (a1), .int (a2), .ref (117)]), [], h)) rfl (by decide) (fun _ _ => rfl) ?_
          refine q_iconst (show mE (mtv 155) 15 = some (.iconst 1, 1, 0, 0) from rfl) kI_1 ?_
          refine q_ireturn (show mE (mtv 155) 16 = some (.ireturn, 1, 0, 0) from rfl) ?_
          exact p4 c4 c5 c6 c18
        · refine q_iload_n (show mE (mtv 158) 4 = some (.iload_n 1, 1, 0, 0) from rfl) (hl17 1 _ rfl) ?_
          refine q_aload_n (show mE (mtv 158) 5 = some (.aload_n 0, 1, 0, 0) from rfl) (hl17 0 _ rfl) ?_
          refine q_getI th (show mE (mtv 158) 6 = some (.getfield 396, 3, 8, 13) from rfl) (by decide) rfl ?_
          refine q_ic_lt (t := 23) (show mE (mtv 158) 9 = some (.if_icmp .lt 14, 3, 0, 0) from rfl) rfl (fun c19 => ?_) (fun c19 => ?_)
          · refine q_return_ (show mE (mtv 158) 23 = some (.return_, 1, 0, 0) from rfl) ?_
            refine qK_n ?_
            refine q_iload_n (show mE (mtv 157) 15 = some (.iload_n 1, 1, 0, 0) from rfl) (hl2 1 _ rfl) ?_
            refine q_iload_n (show mE (mtv 157) 16 = some (.iload_n 2, 1, 0, 0) from rfl) (hl2 2 _ rfl) ?_
            refine q_ic_ne (t := 31) (show mE (mtv 157) 17 = some (.if_icmp .ne 14, 3, 0, 0) from rfl) rfl (fun c20 => ?_) (fun c20 => ?_)
            · refine q_return_ (show mE (mtv 157) 31 = some (.return_, 1, 0, 0) from rfl) ?_
              refine qK_n ?_
              refine q_aload_n (show mE (mtv 156) 6 = some (.aload_n 0, 1, 0, 0) from rfl) (hl1 0 _ rfl) ?_
              refine q_getR (m := 16) th (show mE (mtv 156) 7 = some (.getfield 47, 3, 8, 6) from rfl) (by decide) rfl rfl ?_
              refine q_iload_n (show mE (mtv 156) 10 = some (.iload_n 1, 1, 0, 0) from rfl) (hl1 1 _ rfl) ?_
              refine q_aaload (n := 8) (t := 6) (m := 57) th (show mE (mtv 156) 11 = some (.aaload, 1, 0, 0) from rfl) (by decide) rfl (fun _ _ => rfl) (fun bb21 => ?_)
              refine q_getI th (show mE (mtv 156) 12 = some (.getfield 384, 3, 5, 1) from rfl) (qB bb21 (by decide)) rfl ?_
              refine q_istore_n (show mE (mtv 156) 15 = some (.istore_n 3, 1, 0, 0) from rfl) (Nat.le_of_ble_eq_true rfl) hl1 (fun lv22 (hl23 : qLs lv22 [some (.ref (0)), some (.int (a1)), some (.int (a2)), some (.int (I (57 + (a1).toNatClampNeg) 1))]) => ?_)
              refine q_aload_n (show mE (mtv 156) 16 = some (.aload_n 0, 1, 0, 0) from rfl) (hl23 0 _ rfl) ?_
              refine q_getR (m := 16) th (show mE (mtv 156) 17 = some (.getfield 47, 3, 8, 6) from rfl) (by decide) rfl rfl ?_
              refine q_iload_n (show mE (mtv 156) 20 = some (.iload_n 1, 1, 0, 0) from rfl) (hl23 1 _ rfl) ?_
              refine q_aaload (n := 8) (t := 6) (m := 57) th (show mE (mtv 156) 21 = some (.aaload, 1, 0, 0) from rfl) (by decide) rfl (fun _ _ => rfl) (fun bb24 => ?_)
              refine q_iload_n (show mE (mtv 156) 22 = some (.iload_n 2, 1, 0, 0) from rfl) (hl23 2 _ rfl) ?_
              refine q_putI th (show mE (mtv 156) 23 = some (.putfield 384, 3, 5, 1) from rfl) (qB bb24 (by decide)) rfl (fun h25 t26 => ?_)
              refine q_iload_n (show mE (mtv 156) 26 = some (.iload_n 3, 1, 0, 0) from rfl) (hl23 3 _ rfl) ?_
              refine q_ireturn (show mE (mtv 156) 27 = some (.ireturn, 1, 0, 0) from rfl) ?_
              refine qKh_v ?_
              refine q_i2l (show mE (mtv 155) 8 = some (.i2l, 1, 0, 0) from rfl) ?_
              refine q_lastore (n := 1) t26 (show mE (mtv 155) 9 = some (.lastore, 1, 0, 0) from rfl) (by decide) rfl (fun bb27 h28 t29 => ?_)
              refine q_goto (t := 21) (show mE (mtv 155) 10 = some (.goto 11, 3, 0, 0) from rfl) rfl ?_
              refine q_iconst (show mE (mtv 155) 21 = some (.iconst 0, 1, 0, 0) from rfl) kI_0 ?_
              refine q_ireturn (show mE (mtv 155) 22 = some (.ireturn, 1, 0, 0) from rfl) ?_
              exact p5 c4 c5 c6 c18 c19 c20 bb21 bb27 h28 t29
            · refine q_throw (show mE (mtv 157) 20 = some (.new 81, 3, 1000, 0) from rfl) (by decide) ?_
              refine qK_x ?_
              refine qKh_x (hp := 17) (c := (19, sDr 4 (lv_args 0 [.ref (0), .int (a1), .int (a2), .ref (117)]), [], h)) rfl (by decide) (fun _ _ => rfl) ?_
              refine q_iconst (show mE (mtv 155) 19 = some (.iconst 2, 1, 0, 0) from rfl) kI_2 ?_
              refine q_ireturn (show mE (mtv 155) 20 = some (.ireturn, 1, 0, 0) from rfl) ?_
              exact p6 c4 c5 c6 c18 c19 c20
          · refine q_throw (show mE (mtv 158) 12 = some (.new 338, 3, 1002, 0) from rfl) (by decide) ?_
            refine qK_x ?_
            refine qK_x ?_
            refine qKh_x (hp := 13) (c := (15, sDr 4 (lv_args 0 [.ref (0), .int (a1), .int (a2), .ref (117)]), [], h)) rfl (by decide) (fun _ _ => rfl) ?_
            refine q_iconst (show mE (mtv 155) 15 = some (.iconst 1, 1, 0, 0) from rfl) kI_1 ?_
            refine q_ireturn (show mE (mtv 155) 16 = some (.ireturn, 1, 0, 0) from rfl) ?_
            exact p7 c4 c5 c6 c18 c19
    · refine q_throw (show mE (mtv 158) 12 = some (.new 338, 3, 1002, 0) from rfl) (by decide) ?_
      refine qK_x ?_
      refine qK_x ?_
      refine qKh_x (hp := 13) (c := (15, sDr 4 (lv_args 0 [.ref (0), .int (a1), .int (a2), .ref (117)]), [], h)) rfl (by decide) (fun _ _ => rfl) ?_
      refine q_iconst (show mE (mtv 155) 15 = some (.iconst 1, 1, 0, 0) from rfl) kI_1 ?_
      refine q_ireturn (show mE (mtv 155) 16 = some (.ireturn, 1, 0, 0) from rfl) ?_
      exact p8 c4 c5
theorem qg_163 {h : sH} {r : sR} {Q : sR → Prop} {I : Nat → Nat → Int32} {L : Nat → Nat → Int64} {R : Nat → Nat} (th : qH h I L R) (g : qGo 163 [.ref (0), .ref (117)] h r)
    (p1 : ∀ (c2 : (I 0 13) < (8 : Int32)), ∀ (bb7 : sIn (0 : Int32) 1 = true), ∀ (h8 : sH), ∀ (t9 : qH h8 (upI I 0 13 ((I 0 13) + (1 : Int32))) (upL L 117 (((0 : Int32)).toNatClampNeg) ((I 0 13).toInt64)) R), Q (.inl (some (.int ((0 : Int32)))), h8))
    (p2 : ∀ (c2 : ¬ (I 0 13) < (8 : Int32)), Q (.inl (some (.int ((1 : Int32)))), h)) : Q r := by
  refine qGo_w g (fun N => ?_)
  have hl0 : qLs (lv_args 0 [.ref (0), .ref (117)]) [some (.ref (0)), some (.ref (117)), none] := qLs_ar 1
  refine q_aload_n (show mE (mtv 163) 0 = some (.aload_n 1, 1, 0, 0) from rfl) (hl0 1 _ rfl) ?_
  refine q_iconst (show mE (mtv 163) 1 = some (.iconst 0, 1, 0, 0) from rfl) kI_0 ?_
  refine q_aload_n (show mE (mtv 163) 2 = some (.aload_n 0, 1, 0, 0) from rfl) (hl0 0 _ rfl) ?_
  refine q_virtualIh (show mE (mtv 163) 3 = some (.invokevirtual 132, 3, 164, 8) from rfl) (by decide) rfl rfl rfl (fun _ => ?_)
  have hl1 : qLs (lv_args 0 [.ref (0)]) [some (.ref (0)), none] := qLs_ar 1
  refine q_aload_n (show mE (mtv 164) 0 = some (.aload_n 0, 1, 0, 0) from rfl) (hl1 0 _ rfl) ?_
  refine q_getI th (show mE (mtv 164) 1 = some (.getfield 396, 3, 8, 13) from rfl) (by decide) rfl ?_
  refine q_bipush (show mE (mtv 164) 4 = some (.bipush 8, 2, 0, 0) from rfl) kB_8 ?_
  refine q_ic_lt (t := 20) (show mE (mtv 164) 6 = some (.if_icmp .lt 14, 3, 0, 0) from rfl) rfl (fun c2 => ?_) (fun c2 => ?_)
  · refine q_aload_n (show mE (mtv 164) 20 = some (.aload_n 0, 1, 0, 0) from rfl) (hl1 0 _ rfl) ?_
    refine q_getI th (show mE (mtv 164) 21 = some (.getfield 396, 3, 8, 13) from rfl) (by decide) rfl ?_
    refine q_istore_n (show mE (mtv 164) 24 = some (.istore_n 1, 1, 0, 0) from rfl) (Nat.le_of_ble_eq_true rfl) hl1 (fun lv3 (hl4 : qLs lv3 [some (.ref (0)), some (.int (I 0 13))]) => ?_)
    refine q_aload_n (show mE (mtv 164) 25 = some (.aload_n 0, 1, 0, 0) from rfl) (hl4 0 _ rfl) ?_
    refine q_iload_n (show mE (mtv 164) 26 = some (.iload_n 1, 1, 0, 0) from rfl) (hl4 1 _ rfl) ?_
    refine q_iconst (show mE (mtv 164) 27 = some (.iconst 1, 1, 0, 0) from rfl) kI_1 ?_
    refine q_iadd (show mE (mtv 164) 28 = some (.iadd, 1, 0, 0) from rfl) ?_
    refine q_putI th (show mE (mtv 164) 29 = some (.putfield 396, 3, 8, 13) from rfl) (by decide) rfl (fun h5 t6 => ?_)
    refine q_iload_n (show mE (mtv 164) 32 = some (.iload_n 1, 1, 0, 0) from rfl) (hl4 1 _ rfl) ?_
    refine q_ireturn (show mE (mtv 164) 33 = some (.ireturn, 1, 0, 0) from rfl) ?_
    refine qKh_v ?_
    refine q_i2l (show mE (mtv 163) 6 = some (.i2l, 1, 0, 0) from rfl) ?_
    refine q_lastore (n := 1) t6 (show mE (mtv 163) 7 = some (.lastore, 1, 0, 0) from rfl) (by decide) rfl (fun bb7 h8 t9 => ?_)
    refine q_goto (t := 14) (show mE (mtv 163) 8 = some (.goto 6, 3, 0, 0) from rfl) rfl ?_
    refine q_iconst (show mE (mtv 163) 14 = some (.iconst 0, 1, 0, 0) from rfl) kI_0 ?_
    refine q_ireturn (show mE (mtv 163) 15 = some (.ireturn, 1, 0, 0) from rfl) ?_
    exact p1 c2 bb7 h8 t9
  · refine q_throw (show mE (mtv 164) 9 = some (.new 126, 3, 1001, 0) from rfl) (by decide) ?_
    refine qKh_x (hp := 11) (c := (12, sDr 2 (lv_args 0 [.ref (0), .ref (117)]), [], h)) rfl (by decide) (fun _ _ => rfl) ?_
    refine q_iconst (show mE (mtv 163) 12 = some (.iconst 1, 1, 0, 0) from rfl) kI_1 ?_
    refine q_ireturn (show mE (mtv 163) 13 = some (.ireturn, 1, 0, 0) from rfl) ?_
    exact p2 c2
theorem rd_155 {h : sH} {a1 a2 : Int32} (ht : tInv h) (hB : BG (vI h)) (hD : RD (vI h)) {r : sR} (g : qGo 155 [.ref (0), .int (a1), .int (a2), .ref (117)] h r) : RD (vI r.2) := by
  have e13 := i32_clamp (d := vI h 0 13) hB.1.1
  have put : ∀ (hh : sH) (L1 : Nat → Nat → Int64) (R1 : Nat → Nat), (a2 = -1 ∨ (¬ a2 < 0 ∧ a2 < vI h 0 13)) → qH hh (upI (vI h) (57 + a1.toNatClampNeg) 1 a2) L1 R1 → RD (vI hh) := fun hh L1 R1 c t p hp => by
    rw [t.2.1, upI_ne (show ¬ ((0 : Nat) = 57 + a1.toNatClampNeg ∧ (13 : Nat) = 1) by omega)]
    by_cases e : 57 + p = 57 + a1.toNatClampNeg
    · rw [e, upI_s]
      rcases c with c | ⟨c1, c2⟩
      · exact .inl c
      · obtain ⟨q, q1, q2⟩ := rg_n e13 (nn_lt _) c1 c2
        exact .inr ⟨q, q1, q2⟩
    · rw [upI_ne (fun z => e z.1)]
      exact hD p hp
  exact qg_155 (Q := fun r => RD (vI r.2)) (qH_of ht) g (fun _ => hD) (fun _ _ c6 _ _ _ h15 t16 => put h15 _ _ (.inl c6) t16) (fun _ _ _ _ => hD) (fun _ _ _ _ => hD) (fun _ _ _ c18 c19 _ _ _ h28 t29 => put h28 _ _ (.inr ⟨c18, c19⟩) t29) (fun _ _ _ _ _ _ => hD) (fun _ _ _ _ _ => hD) (fun _ _ => hD)
theorem rd_163 {h : sH} (ht : tInv h) (hB : BG (vI h)) (hD : RD (vI h)) {r : sR} (g : qGo 163 [.ref (0), .ref (117)] h r) : RD (vI r.2) := by
  have e13 := i32_clamp (d := vI h 0 13) hB.1.1
  have l8 : (vI h 0 13).toNatClampNeg ≤ 8 := clampB hB.1
  refine qg_163 (Q := fun r => RD (vI r.2)) (qH_of ht) g (fun _ _ h8 t9 p hp => ?_) (fun _ => hD)
  have e14 : vI h8 0 13 = Int32.ofNat ((vI h 0 13).toNatClampNeg + 1) := by
    rw [t9.2.1, upI_s]
    exact (congrArg (fun z => z + (1 : Int32)) e13).trans (oN_s _)
  rw [e14, ofN_clamp (by omega), t9.2.1, upI_ne (by omega)]
  rcases hD p hp with z | ⟨q, q1, q2⟩
  · exact .inl z
  · exact .inr ⟨q, by omega, q2⟩
/-! the beginning -/
set_option maxRecDepth 100000 in
theorem hp0_n : nkI (vI hp0) = 0 ∧ ndI (vI hp0) = 0 ∧ nbI (vI hp0) = 0 ∧ szI (vI hp0) = 0 ∧ ncI (vI hp0) = 5 ∧ mdI (vI hp0) = 5 := by decide +kernel
set_option maxRecDepth 100000 in
theorem hp0_m : vI hp0 85 35 = 0 ∧ vI hp0 85 36 = 0 ∧ vI hp0 85 46 = 0 ∧ vI hp0 85 34 = 0 ∧ vI hp0 85 31 = 5 ∧ vI hp0 85 32 = 5 ∧ vI hp0 85 33 = 3 ∧ (∀ k, k < 16 → vI hp0 96 k = Int32.ofNat k) ∧ (∀ k, k < 16 → vI hp0 88 k = 0) ∧ ∀ k, k < 16 → vI hp0 89 k = -1 := by decide +kernel
set_option maxRecDepth 100000 in
theorem hp0_k : vI hp0 1 1 = vI hp0 85 31 ∧ vI hp0 1 2 = vI hp0 85 32 ∧ vI hp0 1 3 = vI hp0 85 33 ∧ vI hp0 1 6 = vI hp0 85 34 ∧ vI hp0 0 9 = vI hp0 85 35 ∧ vI hp0 0 10 = vI hp0 85 36 ∧ vI hp0 0 17 = vI hp0 85 44 ∧ vI hp0 0 12 = vI hp0 85 46 ∧ (∀ k, k < 16 → vI hp0 92 k = vI hp0 (19 + k) 2) ∧ (∀ k, k < 16 → vI hp0 89 k = vI hp0 (19 + k) 4) ∧ vL hp0 1 5 = 0 := by decide +kernel
set_option maxRecDepth 100000 in
theorem hp0_d : (∀ d, d < 10 → vR hp0 d = 35 + d) ∧ (∀ d, d < 10 → vI hp0 (35 + d) 1 = 0) ∧ (∀ d, d < 10 → vI hp0 97 d = vI hp0 (35 + d) 0) ∧ (∀ d, d < 10 → vI hp0 98 d = vI hp0 (35 + d) 2) ∧ ∀ p, p < 8 → vI hp0 (57 + p) 1 = -1 := by decide +kernel
theorem hp0_MI : MI (vI hp0) := by
  obtain ⟨n1, n2, n3, n4, n5, n6⟩ := hp0_n
  obtain ⟨m1, m2, m3, m4, m5, m6, m7, m8, m9, m10⟩ := hp0_m
  refine ⟨?_, ?_, ?_, ?_, ?_, ?_, ?_, ?_, ?_, ?_, ?_, ?_, ?_, ?_, ?_, ?_, ?_, ?_, ?_, ?_, ?_, ?_, ?_, ?_, ?_, ?_, ?_⟩
  · rw [n1, m1]; rfl
  · rw [n1]; decide
  · rw [n2, m2]; rfl
  · rw [n2]; decide
  · rw [n5, m5]; rfl
  · rw [n5]; decide
  · rw [n5]; decide
  · rw [n6, m6]; rfl
  · rw [n6]; decide
  · rw [n6]; decide
  · rw [n4, m4]; rfl
  · rw [n4]; exact Nat.zero_le _
  · rw [n3, m3]; rfl
  · rw [n3]; decide
  · rw [m7]; unfold inR; decide
  · intro k c hk; rw [n1] at hk; exact absurd hk (Nat.not_lt_zero k)
  · intro k c hk; rw [n1] at hk; exact absurd hk (Nat.not_lt_zero k)
  · intro c hc; rw [n4] at hc; exact absurd hc (Nat.not_lt_zero c)
  · intro c hc; rw [n4] at hc; exact absurd hc (Nat.not_lt_zero _)
  · intro b hb; rw [n3] at hb; exact absurd hb (Nat.not_lt_zero b)
  · intro b c hb; rw [n3] at hb; exact absurd hb (Nat.not_lt_zero b)
  · intro a b ha; rw [n3] at ha; exact absurd ha (Nat.not_lt_zero a)
  · intro k hk; rw [n1] at hk; exact absurd hk (Nat.not_lt_zero k)
  · intro k _ hk; exact m8 k hk
  · intro d k hk hb; rw [m9 k hk, tb_0] at hb; cases hb
  · intro d k hk hb; rw [m9 k hk, tb_0] at hb; cases hb
  · intro k _ hk; exact m10 k hk
set_option maxRecDepth 100000 in
theorem hp0_t : vI hp0 0 18 = 0 ∧ ∀ k, k < 16 → vI hp0 (19 + k) 5 = 0 := by decide +kernel
theorem hp0_rel : eRel hp0 := by
  obtain ⟨n1, n2, n3, n4, n5, n6⟩ := hp0_n
  obtain ⟨m1, m2, m3, m4, m5, m6, m7, m8, m9, m10⟩ := hp0_m
  obtain ⟨k1, k2, k3, k4, k5, k6, k7, k8, k9, k10, k11⟩ := hp0_k
  obtain ⟨d1, d2, d3, d4, d5⟩ := hp0_d
  refine ⟨⟨?_, ?_, ?_, ?_, ?_, ?_⟩, ⟨hp0_MI, k1, k2, k3, k4, k5, k6, k7, k8, ?_, ?_, k9, k10, ?_, ?_, ?_, ?_, ?_, ?_, ?_, ?_, ?_, ?_⟩, fun p hp => .inl (d5 p hp)⟩
  · unfold RGs; decide +kernel
  · unfold RGp; decide +kernel
  · unfold RGg; decide +kernel
  · unfold RGc; decide +kernel
  · unfold RGi; decide +kernel
  · unfold RGr; decide +kernel
  · intro k hk; rw [n1] at hk; exact absurd hk (Nat.not_lt_zero k)
  · intro k hk; rw [n1] at hk; exact absurd hk (Nat.not_lt_zero k)
  · intro k hk; rw [n1] at hk; exact absurd hk (Nat.not_lt_zero k)
  · intro k j hk; rw [n1] at hk; exact absurd hk (Nat.not_lt_zero k)
  · intro d k hd hk; rw [d1 d hd, d2 d hd, m9 k hk, tb_0, tb_0]
  · intro d k hd hk; rw [d1 d hd, d2 d hd, tb_0]
  · intro d hd; rw [d1 d hd]; exact d3 d hd
  · intro d hd; rw [d1 d hd]; exact d4 d hd
  · intro d hd; rw [d1 d hd]; omega
  · intro d e hd he h; rw [d1 d hd, d1 e he] at h; omega
  · rw [k11, n4]; exact isCuts_0
  · intro b hb; rw [n3] at hb; exact absurd hb (Nat.not_lt_zero b)
theorem hp0_relT : eRelT 0 hp0 := by
  refine ⟨hp0_rel, ?_, fun k hk => ?_⟩
  · rw [hp0_t.1]; unfold inR; decide
  · rw [hp0_t.2 k hk]; unfold inR; decide
end
section
/-! part 95: the facts of all calls but two -/
set_option maxRecDepth 100000
theorem fact_0 {h : sH} {b : Int} (hI : eLI (eRelT b) h) (hb : b ≤ 2560) (p1 : Int32) (p2 : Int32) (p3 : Int32) : opF 45 210 [.ref 0, .int p1, .int p2, .int p3, .ref 117] [.ref 85, .int p1, .int p2, .int p3] false (eRelT (b + 5)) h := fact_W2 (RR := RK)
  (eDo_1 (fb := false) kC_L_machine (by decide) rfl ⟨rfl, rfl⟩ (fun e => by first | rfl | cases e))
  (eDo_P (M := 210) (fs := cC_X9_machine_3.2.2.1) (md := cC_X9_machine_3.2.2.2.2.1) (in4 ⟨cC_X9_machine_3, pC_X9_machine_3, rfl, by decide, rfl, rfl, rfl⟩ ⟨cC_X9_machine_4, pC_X9_machine_4, rfl, by decide, rfl, rfl, rfl⟩ ⟨cC_X9_machine_5, pC_X9_machine_5, rfl, by decide, rfl, rfl, rfl⟩ ⟨cC_X9_machine_6, pC_X9_machine_6, rfl, by decide, rfl, rfl, rfl⟩))
  ⟨eAr, eAi _, eAi _, eAi _, eAr, True.intro⟩ ⟨eAr, eAi _, eAi _, eAi _, True.intro⟩ hI.1 hI.2.1 (fun r g _ r2 g2 => ok_0 (qH_of (tInv_of hI.1)) hI.2.2.1.2.1 hI.2.2.1.1 g r2 g2) (fin_K (by decide +kernel) hI.2.2 (rd_fr (by decide +kernel) hI.2.2.1.2.2) (rt_fr (by decide +kernel) hI.2.2.2))
theorem fact_1 {h : sH} {b : Int} (hI : eLI (eRelT b) h) (hb : b ≤ 2560) (p1 : Int32) : opFx 50 214 [.ref 0, .int p1, .ref 117] [.ref 85, .int p1] (eRelT (b + 5)) h := fact_X2 (RR := RK)
  (eDo_1 (fb := false) kC_L_cut (by decide) rfl ⟨rfl, rfl⟩ (fun e => by first | rfl | cases e))
  (eDo_4 (M := cC_X9_cut_3.1) (fs := cC_X9_cut_3.2.2.1) (md := cC_X9_cut_3.2.2.2.2.1) (in4 ⟨cC_X9_cut_3, kC_X9_cut_3, rfl, by decide, rfl, rfl, rfl, rfl⟩ ⟨cC_X9_cut_4, kC_X9_cut_4, rfl, by decide, rfl, rfl, rfl, rfl⟩ ⟨cC_X9_cut_5, kC_X9_cut_5, rfl, by decide, rfl, rfl, rfl, rfl⟩ ⟨cC_X9_cut_6, kC_X9_cut_6, rfl, by decide, rfl, rfl, rfl, rfl⟩))
  ⟨eAr, eAi _, eAr, True.intro⟩ ⟨eAr, eAi _, True.intro⟩ hI.1 hI.2.1 (fun r g _ r2 g2 => ok_1 (qH_of (tInv_of hI.1)) hI.2.2.1.2.1 hI.2.2.1.1 g r2 g2) (fin_K (by decide +kernel) hI.2.2 (rd_fr (by decide +kernel) hI.2.2.1.2.2) (rt_fr (by decide +kernel) hI.2.2.2))
theorem fact_2 {h : sH} {b : Int} (hI : eLI (eRelT b) h) (hb : b ≤ 2560) : opFd 9 215 [.ref 0] [.ref 85] (eRelT (b + 5)) h := fact_D2 (RR := RK)
  (eDo_1 (fb := false) kC_X8_forget (by decide) rfl ⟨rfl, rfl⟩ (fun e => by first | rfl | cases e))
  (eDo_4 (M := cC_X9_forget_3.1) (fs := cC_X9_forget_3.2.2.1) (md := cC_X9_forget_3.2.2.2.2.1) (in4 ⟨cC_X9_forget_3, kC_X9_forget_3, rfl, by decide, rfl, rfl, rfl, rfl⟩ ⟨cC_X9_forget_4, kC_X9_forget_4, rfl, by decide, rfl, rfl, rfl, rfl⟩ ⟨cC_X9_forget_5, kC_X9_forget_5, rfl, by decide, rfl, rfl, rfl, rfl⟩ ⟨cC_X9_forget_6, kC_X9_forget_6, rfl, by decide, rfl, rfl, rfl, rfl⟩))
  ⟨eAr, True.intro⟩ ⟨eAr, True.intro⟩ hI.1 hI.2.1 (fun r g _ r2 g2 => ok_2 (qH_of (tInv_of hI.1)) hI.2.2.1.2.1 hI.2.2.1.1 g r2 g2) (fin_K (by decide +kernel) hI.2.2 (rd_fr (by decide +kernel) hI.2.2.1.2.2) (rt_fr (by decide +kernel) hI.2.2.2))
theorem fact_3 {h : sH} {b : Int} (hI : eLI (eRelT b) h) (hb : b ≤ 2560) : opF 54 216 [.ref 0, .ref 117] [.ref 85] false (eRelT (b + 5)) h := fact_W2 (RR := RK)
  (eDo_1 (fb := false) kC_L_addKey (by decide) rfl ⟨rfl, rfl⟩ (fun e => by first | rfl | cases e))
  (eDo_4 (M := cC_X9_addKey_3.1) (fs := cC_X9_addKey_3.2.2.1) (md := cC_X9_addKey_3.2.2.2.2.1) (in4 ⟨cC_X9_addKey_3, kC_X9_addKey_3, rfl, by decide, rfl, rfl, rfl, rfl⟩ ⟨cC_X9_addKey_4, kC_X9_addKey_4, rfl, by decide, rfl, rfl, rfl, rfl⟩ ⟨cC_X9_addKey_5, kC_X9_addKey_5, rfl, by decide, rfl, rfl, rfl, rfl⟩ ⟨cC_X9_addKey_6, kC_X9_addKey_6, rfl, by decide, rfl, rfl, rfl, rfl⟩))
  ⟨eAr, eAr, True.intro⟩ ⟨eAr, True.intro⟩ hI.1 hI.2.1 (fun r g _ r2 g2 => ok_3 (qH_of (tInv_of hI.1)) hI.2.2.1.2.1 hI.2.2.1.1 g r2 g2) (fin_K (by decide +kernel) hI.2.2 (rd_fr (by decide +kernel) hI.2.2.1.2.2) (rt_fr (by decide +kernel) hI.2.2.2))
theorem fact_4 {h : sH} {b : Int} (hI : eLI (eRelT b) h) (hb : b ≤ 2560) (p1 : Int32) (p2 : Int32) : opF 59 219 [.ref 0, .int p1, .int p2, .ref 117] [.ref 85, .int p1, .int p2] false (eRelT (b + 5)) h := fact_W2 (RR := RK)
  (eDo_1 (fb := false) kC_L_depthOf (by decide) rfl ⟨rfl, rfl⟩ (fun e => by first | rfl | cases e))
  (eDo_1 (fb := false) kC_X9_depthOf (by decide) rfl ⟨rfl, rfl⟩ (fun e => by first | rfl | cases e))
  ⟨eAr, eAi _, eAi _, eAr, True.intro⟩ ⟨eAr, eAi _, eAi _, True.intro⟩ hI.1 hI.2.1 (fun r g _ r2 g2 => ok_4 (qH_of (tInv_of hI.1)) hI.2.2.1.2.1 hI.2.2.1.1 g r2 g2) (fin_K (by decide +kernel) hI.2.2 (rd_fr (by decide +kernel) hI.2.2.1.2.2) (rt_fr (by decide +kernel) hI.2.2.2))
theorem fact_5 {h : sH} {b : Int} (hI : eLI (eRelT b) h) (hb : b ≤ 2560) : opF 63 221 [.ref 0, .ref 117] [.ref 85] false (eRelT (b + 5)) h := fact_W2 (RR := RK)
  (eDo_1 (fb := false) kC_L_addDoor (by decide) rfl ⟨rfl, rfl⟩ (fun e => by first | rfl | cases e))
  (eDo_1 (fb := false) kC_X9_addDoor (by decide) rfl ⟨rfl, rfl⟩ (fun e => by first | rfl | cases e))
  ⟨eAr, eAr, True.intro⟩ ⟨eAr, True.intro⟩ hI.1 hI.2.1 (fun r g _ r2 g2 => ok_5 (qH_of (tInv_of hI.1)) hI.2.2.1.2.1 hI.2.2.1.1 g r2 g2) (fin_K (by decide +kernel) hI.2.2 (rd_fr (by decide +kernel) hI.2.2.1.2.2) (rt_fr (by decide +kernel) hI.2.2.2))
theorem fact_6 {h : sH} {b : Int} (hI : eLI (eRelT b) h) (hb : b ≤ 2560) (p1 : Int32) (p2 : Int32) (p3 : Int32) (b3 : p3 = 0 ∨ p3 = 1) : opF 65 222 [.ref 0, .int p1, .int p2, .int p3, .ref 117] [.ref 85, .int p1, .int p2, .int p3] false (eRelT (b + 5)) h := fact_W2 (RR := RK)
  (eDo_1 (fb := false) kC_L_wish (by decide) rfl ⟨rfl, rfl⟩ (fun e => by first | rfl | cases e))
  (eDo_1 (fb := false) kC_X9_wish (by decide) rfl ⟨rfl, rfl⟩ (fun e => by first | rfl | cases e))
  ⟨eAr, eAi _, eAi _, eAb b3, eAr, True.intro⟩ ⟨eAr, eAi _, eAi _, eAb b3, True.intro⟩ hI.1 hI.2.1 (fun r g _ r2 g2 => ok_6 (qH_of (tInv_of hI.1)) hI.2.2.1.2.1 hI.2.2.1.1 b3 g r2 g2) (fin_K (by decide +kernel) hI.2.2 (rd_fr (by decide +kernel) hI.2.2.1.2.2) (rt_fr (by decide +kernel) hI.2.2.2))
theorem fact_7 {h : sH} {b : Int} (hI : eLI (eRelT b) h) (hb : b ≤ 2560) (p1 : Int32) (p2 : Int32) : opF 69 227 [.ref 0, .int p1, .int p2, .ref 117] [.ref 85, .int p1, .int p2] true (eRelT (b + 5)) h := fact_W2 (RR := RK)
  (eDo_1 (fb := false) kC_L_isWished (by decide) rfl ⟨rfl, rfl⟩ (fun e => by first | rfl | cases e))
  (eDo_1 (fb := true) kC_X9_isWished (by decide) rfl ⟨rfl, rfl⟩ (fun e => by first | rfl | cases e))
  ⟨eAr, eAi _, eAi _, eAr, True.intro⟩ ⟨eAr, eAi _, eAi _, True.intro⟩ hI.1 hI.2.1 (fun r g _ r2 g2 => ok_7 (qH_of (tInv_of hI.1)) hI.2.2.1.2.1 hI.2.2.1.1 g r2 g2) (fin_K (by decide +kernel) hI.2.2 (rd_fr (by decide +kernel) hI.2.2.1.2.2) (rt_fr (by decide +kernel) hI.2.2.2))
theorem fact_8 {h : sH} {b : Int} (hI : eLI (eRelT b) h) (hb : b ≤ 2560) (p1 : Int32) (p2 : Int32) : opF 71 228 [.ref 0, .int p1, .int p2, .ref 117] [.ref 85, .int p1, .int p2] false (eRelT (b + 5)) h := fact_W2 (RR := RK)
  (eDo_1 (fb := false) kC_L_pins (by decide) rfl ⟨rfl, rfl⟩ (fun e => by first | rfl | cases e))
  (eDo_1 (fb := false) kC_X9_pins (by decide) rfl ⟨rfl, rfl⟩ (fun e => by first | rfl | cases e))
  ⟨eAr, eAi _, eAi _, eAr, True.intro⟩ ⟨eAr, eAi _, eAi _, True.intro⟩ hI.1 hI.2.1 (fun r g _ r2 g2 => ok_8 (qH_of (tInv_of hI.1)) hI.2.2.1.2.1 hI.2.2.1.1 g r2 g2) (fin_K (by decide +kernel) hI.2.2 (rd_fr (by decide +kernel) hI.2.2.1.2.2) (rt_fr (by decide +kernel) hI.2.2.2))
theorem fact_9 {h : sH} {b : Int} (hI : eLI (eRelT b) h) (hb : b ≤ 2560) (p1 : Int32) (p2 : Int32) : opF 73 231 [.ref 0, .int p1, .int p2, .ref 117] [.ref 85, .int p1, .int p2] true (eRelT (b + 5)) h := fact_W2 (RR := RK)
  (eDo_1 (fb := false) kC_L_opens (by decide) rfl ⟨rfl, rfl⟩ (fun e => by first | rfl | cases e))
  (eDo_1 (fb := true) kC_X9_opens (by decide) rfl ⟨rfl, rfl⟩ (fun e => by first | rfl | cases e))
  ⟨eAr, eAi _, eAi _, eAr, True.intro⟩ ⟨eAr, eAi _, eAi _, True.intro⟩ hI.1 hI.2.1 (fun r g _ r2 g2 => ok_9 (qH_of (tInv_of hI.1)) hI.2.2.1.2.1 hI.2.2.1.1 g r2 g2) (fin_K (by decide +kernel) hI.2.2 (rd_fr (by decide +kernel) hI.2.2.1.2.2) (rt_fr (by decide +kernel) hI.2.2.2))
theorem fact_10 {h : sH} {b : Int} (hI : eLI (eRelT b) h) (hb : b ≤ 2560) (p1 : Int32) : opF 75 234 [.ref 0, .int p1, .ref 117] [.ref 85, .int p1] false (eRelT (b + 5)) h := fact_W2 (RR := RK)
  (eDo_1 (fb := false) kC_L_strays (by decide) rfl ⟨rfl, rfl⟩ (fun e => by first | rfl | cases e))
  (eDo_1 (fb := false) kC_X9_strays (by decide) rfl ⟨rfl, rfl⟩ (fun e => by first | rfl | cases e))
  ⟨eAr, eAi _, eAr, True.intro⟩ ⟨eAr, eAi _, True.intro⟩ hI.1 hI.2.1 (fun r g _ r2 g2 => ok_10 (qH_of (tInv_of hI.1)) hI.2.2.1.2.1 hI.2.2.1.1 g r2 g2) (fin_K (by decide +kernel) hI.2.2 (rd_fr (by decide +kernel) hI.2.2.1.2.2) (rt_fr (by decide +kernel) hI.2.2.2))
theorem fact_11 {h : sH} {b : Int} (hI : eLI (eRelT b) h) (hb : b ≤ 2560) (p1 : Int32) : opF 78 236 [.ref 0, .int p1, .ref 117] [.ref 85, .int p1] false (eRelT (b + 5)) h := fact_W2 (RR := RK)
  (eDo_1 (fb := false) kC_L_admits (by decide) rfl ⟨rfl, rfl⟩ (fun e => by first | rfl | cases e))
  (eDo_1 (fb := false) kC_X9_admits (by decide) rfl ⟨rfl, rfl⟩ (fun e => by first | rfl | cases e))
  ⟨eAr, eAi _, eAr, True.intro⟩ ⟨eAr, eAi _, True.intro⟩ hI.1 hI.2.1 (fun r g _ r2 g2 => ok_11 (qH_of (tInv_of hI.1)) hI.2.2.1.2.1 hI.2.2.1.1 g r2 g2) (fin_K (by decide +kernel) hI.2.2 (rd_fr (by decide +kernel) hI.2.2.1.2.2) (rt_fr (by decide +kernel) hI.2.2.2))
theorem fact_12 {h : sH} {b : Int} (hI : eLI (eRelT b) h) (hb : b ≤ 2560) (p1 : Int32) : opF 80 238 [.ref 0, .int p1, .ref 117] [.ref 85, .int p1] false (eRelT (b + 5)) h := fact_W2 (RR := RK)
  (eDo_1 (fb := false) kC_L_find (by decide) rfl ⟨rfl, rfl⟩ (fun e => by first | rfl | cases e))
  (eDo_1 (fb := false) kC_X9_find (by decide) rfl ⟨rfl, rfl⟩ (fun e => by first | rfl | cases e))
  ⟨eAr, eAi _, eAr, True.intro⟩ ⟨eAr, eAi _, True.intro⟩ hI.1 hI.2.1 (fun r g _ r2 g2 => ok_12 (qH_of (tInv_of hI.1)) hI.2.2.1.2.1 hI.2.2.1.1 g r2 g2) (fin_K (by decide +kernel) hI.2.2 (rd_fr (by decide +kernel) hI.2.2.1.2.2) (rt_fr (by decide +kernel) hI.2.2.2))
theorem fact_13 {h : sH} {b : Int} (hI : eLI (eRelT b) h) (hb : b ≤ 2560) (p1 : Int32) : opF 99 245 [.ref 0, .int p1, .ref 117] [.ref 85, .int p1] false (eRelT (b + 5)) h := fact_W2 (RR := RK)
  (eDo_1 (fb := false) kC_L_lose (by decide) rfl ⟨rfl, rfl⟩ (fun e => by first | rfl | cases e))
  (eDo_1 (fb := false) kC_X9_lose (by decide) rfl ⟨rfl, rfl⟩ (fun e => by first | rfl | cases e))
  ⟨eAr, eAi _, eAr, True.intro⟩ ⟨eAr, eAi _, True.intro⟩ hI.1 hI.2.1 (fun r g _ r2 g2 => ok_13 (qH_of (tInv_of hI.1)) hI.2.2.1.2.1 hI.2.2.1.1 g r2 g2) (fin_K (by decide +kernel) hI.2.2 (rd_fr (by decide +kernel) hI.2.2.1.2.2) (rt_fr (by decide +kernel) hI.2.2.2))
theorem fact_14 {h : sH} {b : Int} (hI : eLI (eRelT b) h) (hb : b ≤ 2560) : opFd 11 246 [.ref 0] [.ref 85] (eRelT (b + 5)) h := fact_D2 (RR := RK)
  (eDo_1 (fb := false) kC_X8_unsafe (by decide) rfl ⟨rfl, rfl⟩ (fun e => by first | rfl | cases e))
  (eDo_1 (fb := false) kC_X9_unsafe (by decide) rfl ⟨rfl, rfl⟩ (fun e => by first | rfl | cases e))
  ⟨eAr, True.intro⟩ ⟨eAr, True.intro⟩ hI.1 hI.2.1 (fun r g _ r2 g2 => ok_14 (qH_of (tInv_of hI.1)) hI.2.2.1.2.1 hI.2.2.1.1 g r2 g2) (fin_K (by decide +kernel) hI.2.2 (rd_fr (by decide +kernel) hI.2.2.1.2.2) (rt_fr (by decide +kernel) hI.2.2.2))
theorem fact_15 {h : sH} {b : Int} (hI : eLI (eRelT b) h) (hb : b ≤ 2560) (p1 : Int32) : opF 102 249 [.ref 0, .int p1, .ref 117] [.ref 85, .int p1] false (eRelT (b + 5)) h := fact_W2 (RR := RK)
  (eDo_1 (fb := false) kC_L_replace (by decide) rfl ⟨rfl, rfl⟩ (fun e => by first | rfl | cases e))
  (eDo_1 (fb := false) kC_X9_replace (by decide) rfl ⟨rfl, rfl⟩ (fun e => by first | rfl | cases e))
  ⟨eAr, eAi _, eAr, True.intro⟩ ⟨eAr, eAi _, True.intro⟩ hI.1 hI.2.1 (fun r g _ r2 g2 => ok_15 (qH_of (tInv_of hI.1)) hI.2.2.1.2.1 hI.2.2.1.1 g r2 g2) (fin_K (by decide +kernel) hI.2.2 (rd_fr (by decide +kernel) hI.2.2.1.2.2) (rt_fr (by decide +kernel) hI.2.2.2))
theorem fact_16 {h : sH} {b : Int} (hI : eLI (eRelT b) h) (hb : b ≤ 2560) (p1 : Int32) : opF 105 250 [.ref 0, .int p1, .ref 117] [.ref 85, .int p1] false (eRelT (b + 5)) h := fact_W2 (RR := (fun I2 _ _ => RG I2))
  (eDo_1 (fb := false) kC_L_setBlank (by decide) rfl ⟨rfl, rfl⟩ (fun e => by first | rfl | cases e))
  (eDo_1 (fb := false) kC_X9_setBlank (by decide) rfl ⟨rfl, rfl⟩ (fun e => by first | rfl | cases e))
  ⟨eAr, eAi _, eAr, True.intro⟩ ⟨eAr, eAi _, True.intro⟩ hI.1 hI.2.1 (fun r g i r2 g2 => op_16 (qH_of (tInv_of hI.1)) hI.2.2.1.1 (BG_of hI.1) g (BG_of i) r2 g2) (fin_G (by decide +kernel) hI.2.2 (rd_fr (by decide +kernel) hI.2.2.1.2.2) (rt_fr (by decide +kernel) hI.2.2.2))
theorem fact_17 {h : sH} {b : Int} (hI : eLI (eRelT b) h) (hb : b ≤ 2560) (p1 : Int32) : opF 107 251 [.ref 0, .int p1, .ref 117] [.ref 85, .int p1] false (eRelT (b + 5)) h := fact_W2 (RR := RK)
  (eDo_1 (fb := false) kC_L_profileOf (by decide) rfl ⟨rfl, rfl⟩ (fun e => by first | rfl | cases e))
  (eDo_1 (fb := false) kC_X9_profileOf (by decide) rfl ⟨rfl, rfl⟩ (fun e => by first | rfl | cases e))
  ⟨eAr, eAi _, eAr, True.intro⟩ ⟨eAr, eAi _, True.intro⟩ hI.1 hI.2.1 (fun r g _ r2 g2 => ok_17 (qH_of (tInv_of hI.1)) hI.2.2.1.2.1 hI.2.2.1.1 g r2 g2) (fin_K (by decide +kernel) hI.2.2 (rd_fr (by decide +kernel) hI.2.2.1.2.2) (rt_fr (by decide +kernel) hI.2.2.2))
theorem fact_18 {h : sH} {b : Int} (hI : eLI (eRelT b) h) (hb : b ≤ 2560) (p1 : Int32) (p2 : Int32) : opF 109 252 [.ref 0, .int p1, .int p2, .ref 117] [.ref 85, .int p1, .int p2] false (eRelT (b + 5)) h := fact_W2 (RR := RK)
  (eDo_1 (fb := false) kC_L_setWard (by decide) rfl ⟨rfl, rfl⟩ (fun e => by first | rfl | cases e))
  (eDo_1 (fb := false) kC_X9_setWard (by decide) rfl ⟨rfl, rfl⟩ (fun e => by first | rfl | cases e))
  ⟨eAr, eAi _, eAi _, eAr, True.intro⟩ ⟨eAr, eAi _, eAi _, True.intro⟩ hI.1 hI.2.1 (fun r g _ r2 g2 => ok_18 (qH_of (tInv_of hI.1)) hI.2.2.1.2.1 hI.2.2.1.1 g r2 g2) (fin_K (by decide +kernel) hI.2.2 (rd_fr (by decide +kernel) hI.2.2.1.2.2) (rt_fr (by decide +kernel) hI.2.2.2))
theorem fact_19 {h : sH} {b : Int} (hI : eLI (eRelT b) h) (hb : b ≤ 2560) (p1 : Int32) (b1 : p1 = 0 ∨ p1 = 1) : opFd 20 253 [.ref 0, .int p1] [.ref 85, .int p1] (eRelT (b + 5)) h := fact_D2 (RR := (fun I2 _ _ => RG I2))
  (eDo_1 (fb := false) kC_X8_setThin (by decide) rfl ⟨rfl, rfl⟩ (fun e => by first | rfl | cases e))
  (eDo_1 (fb := false) kC_X9_setThin (by decide) rfl ⟨rfl, rfl⟩ (fun e => by first | rfl | cases e))
  ⟨eAr, eAb b1, True.intro⟩ ⟨eAr, eAb b1, True.intro⟩ hI.1 hI.2.1 (fun r g i r2 g2 => op_19 (qH_of (tInv_of hI.1)) hI.2.2.1.1 (BG_of hI.1) b1 g (BG_of i) r2 g2) (fin_G (by decide +kernel) hI.2.2 (rd_fr (by decide +kernel) hI.2.2.1.2.2) (rt_fr (by decide +kernel) hI.2.2.2))
theorem fact_20 {h : sH} {b : Int} (hI : eLI (eRelT b) h) (hb : b ≤ 2560) (p1 : Int32) : opF 112 254 [.ref 0, .int p1, .ref 117] [.ref 85, .int p1] false (eRelT (b + 5)) h := fact_W2 (RR := RK)
  (eDo_1 (fb := false) kC_L_thin (by decide) rfl ⟨rfl, rfl⟩ (fun e => by first | rfl | cases e))
  (eDo_1 (fb := false) kC_X9_thin (by decide) rfl ⟨rfl, rfl⟩ (fun e => by first | rfl | cases e))
  ⟨eAr, eAi _, eAr, True.intro⟩ ⟨eAr, eAi _, True.intro⟩ hI.1 hI.2.1 (fun r g _ r2 g2 => ok_20 (qH_of (tInv_of hI.1)) hI.2.2.1.2.1 hI.2.2.1.1 g r2 g2) (fin_K (by decide +kernel) hI.2.2 (rd_fr (by decide +kernel) hI.2.2.1.2.2) (rt_fr (by decide +kernel) hI.2.2.2))
theorem fact_21 {h : sH} {b : Int} (hI : eLI (eRelT b) h) (hb : b ≤ 2560) : opFd 21 255 [.ref 0] [.ref 85] (eRelT (b + 5)) h := fact_D2 (RR := RK)
  (eDo_1 (fb := false) kC_X8_pinsNeeded (by decide) rfl ⟨rfl, rfl⟩ (fun e => by first | rfl | cases e))
  (eDo_1 (fb := false) kC_X9_pinsNeeded (by decide) rfl ⟨rfl, rfl⟩ (fun e => by first | rfl | cases e))
  ⟨eAr, True.intro⟩ ⟨eAr, True.intro⟩ hI.1 hI.2.1 (fun r g _ r2 g2 => ok_21 (qH_of (tInv_of hI.1)) hI.2.2.1.2.1 hI.2.2.1.1 g r2 g2) (fin_K (by decide +kernel) hI.2.2 (rd_fr (by decide +kernel) hI.2.2.1.2.2) (rt_fr (by decide +kernel) hI.2.2.2))
theorem fact_22 {h : sH} {b : Int} (hI : eLI (eRelT b) h) (hb : b ≤ 2560) (p1 : Int32) (p2 : Int32) (p3 : Int32) (p4 : Int32) : opF 114 256 [.ref 0, .int p1, .int p2, .int p3, .int p4, .ref 117] [.ref 85, .int p1, .int p2, .int p3, .int p4] false (eRelT (b + 5)) h := fact_W2 (RR := RK)
  (eDo_1 (fb := false) kC_L_both (by decide) rfl ⟨rfl, rfl⟩ (fun e => by first | rfl | cases e))
  (eDo_1 (fb := false) kC_X9_both (by decide) rfl ⟨rfl, rfl⟩ (fun e => by first | rfl | cases e))
  ⟨eAr, eAi _, eAi _, eAi _, eAi _, eAr, True.intro⟩ ⟨eAr, eAi _, eAi _, eAi _, eAi _, True.intro⟩ hI.1 hI.2.1 (fun r g _ r2 g2 => ok_22 (qH_of (tInv_of hI.1)) hI.2.2.1.2.1 hI.2.2.1.1 g r2 g2) (fin_K (by decide +kernel) hI.2.2 (rd_fr (by decide +kernel) hI.2.2.1.2.2) (rt_fr (by decide +kernel) hI.2.2.2))
theorem fact_23 {h : sH} {b : Int} (hI : eLI (eRelT b) h) (hb : b ≤ 2560) (p1 : Int32) (p2 : Int32) : opF 117 257 [.ref 0, .int p1, .int p2, .ref 117] [.ref 85, .int p1, .int p2] false (eRelT (b + 5)) h := fact_W2 (RR := RK)
  (eDo_1 (fb := false) kC_L_below (by decide) rfl ⟨rfl, rfl⟩ (fun e => by first | rfl | cases e))
  (eDo_1 (fb := false) kC_X9_below (by decide) rfl ⟨rfl, rfl⟩ (fun e => by first | rfl | cases e))
  ⟨eAr, eAi _, eAi _, eAr, True.intro⟩ ⟨eAr, eAi _, eAi _, True.intro⟩ hI.1 hI.2.1 (fun r g _ r2 g2 => ok_23 (qH_of (tInv_of hI.1)) hI.2.2.1.2.1 hI.2.2.1.1 g r2 g2) (fin_K (by decide +kernel) hI.2.2 (rd_fr (by decide +kernel) hI.2.2.1.2.2) (rt_fr (by decide +kernel) hI.2.2.2))
theorem fact_24 {h : sH} {b : Int} (hI : eLI (eRelT b) h) (hb : b ≤ 2560) (p1 : Int32) (p2 : Int32) (p3 : Int32) (p4 : Int32) : opF 122 261 [.ref 0, .int p1, .int p2, .int p3, .int p4, .ref 117] [.ref 85, .int p1, .int p2, .int p3, .int p4] false (eRelT (b + 5)) h := fact_W2 (RR := RK)
  (eDo_1 (fb := false) kC_L_belowAt (by decide) rfl ⟨rfl, rfl⟩ (fun e => by first | rfl | cases e))
  (eDo_1 (fb := false) kC_X9_belowAt (by decide) rfl ⟨rfl, rfl⟩ (fun e => by first | rfl | cases e))
  ⟨eAr, eAi _, eAi _, eAi _, eAi _, eAr, True.intro⟩ ⟨eAr, eAi _, eAi _, eAi _, eAi _, True.intro⟩ hI.1 hI.2.1 (fun r g _ r2 g2 => ok_24 (qH_of (tInv_of hI.1)) hI.2.2.1.2.1 hI.2.2.1.1 g r2 g2) (fin_K (by decide +kernel) hI.2.2 (rd_fr (by decide +kernel) hI.2.2.1.2.2) (rt_fr (by decide +kernel) hI.2.2.2))
theorem fact_25 {h : sH} {b : Int} (hI : eLI (eRelT b) h) (hb : b ≤ 2560) (p1 : Int32) (p2 : Int32) (p3 : Int32) (p4 : Int32) : opF 127 263 [.ref 0, .int p1, .int p2, .int p3, .int p4, .ref 117] [.ref 85, .int p1, .int p2, .int p3, .int p4] false (eRelT (b + 5)) h := fact_W2 (RR := RK)
  (eDo_1 (fb := false) kC_L_cutBelow (by decide) rfl ⟨rfl, rfl⟩ (fun e => by first | rfl | cases e))
  (eDo_1 (fb := false) kC_X9_cutBelow (by decide) rfl ⟨rfl, rfl⟩ (fun e => by first | rfl | cases e))
  ⟨eAr, eAi _, eAi _, eAi _, eAi _, eAr, True.intro⟩ ⟨eAr, eAi _, eAi _, eAi _, eAi _, True.intro⟩ hI.1 hI.2.1 (fun r g _ r2 g2 => ok_25 (qH_of (tInv_of hI.1)) hI.2.2.1.2.1 hI.2.2.1.1 g r2 g2) (fin_K (by decide +kernel) hI.2.2 (rd_fr (by decide +kernel) hI.2.2.1.2.2) (rt_fr (by decide +kernel) hI.2.2.2))
theorem fact_26 {h : sH} {b : Int} (hI : eLI (eRelT b) h) (hb : b ≤ 2560) (p1 : Int32) (p2 : Int32) (p3 : Int32) (b3 : p3 = 0 ∨ p3 = 1) : opF 129 264 [.ref 0, .int p1, .int p2, .int p3, .ref 117] [.ref 85, .int p1, .int p2, .int p3] false (eRelT (b + 5)) h := fact_W2 (RR := (fun I2 _ _ => RG I2))
  (eDo_1 (fb := false) kC_L_addRule (by decide) rfl ⟨rfl, rfl⟩ (fun e => by first | rfl | cases e))
  (eDo_1 (fb := false) kC_X9_addRule (by decide) rfl ⟨rfl, rfl⟩ (fun e => by first | rfl | cases e))
  ⟨eAr, eAi _, eAi _, eAb b3, eAr, True.intro⟩ ⟨eAr, eAi _, eAi _, eAb b3, True.intro⟩ hI.1 hI.2.1 (fun r g i r2 g2 => op_26 (qH_of (tInv_of hI.1)) hI.2.2.1.1 (BG_of hI.1) b3 g (BG_of i) r2 g2) (fin_G (by decide +kernel) hI.2.2 (rd_fr (by decide +kernel) hI.2.2.1.2.2) (rt_fr (by decide +kernel) hI.2.2.2))
theorem fact_27 {h : sH} {b : Int} (hI : eLI (eRelT b) h) (hb : b ≤ 2560) : opFd 25 265 [.ref 0] [.ref 85] (eRelT (b + 5)) h := fact_D2 (RR := RK)
  (eDo_1 (fb := false) kC_X8_applyRules (by decide) rfl ⟨rfl, rfl⟩ (fun e => by first | rfl | cases e))
  (eDo_1 (fb := false) kC_X9_applyRules (by decide) rfl ⟨rfl, rfl⟩ (fun e => by first | rfl | cases e))
  ⟨eAr, True.intro⟩ ⟨eAr, True.intro⟩ hI.1 hI.2.1 (fun r g _ r2 g2 => ok_27 (qH_of (tInv_of hI.1)) hI.2.2.1.2.1 hI.2.2.1.1 (BG_of hI.1) g r2 g2) (fin_K (by decide +kernel) hI.2.2 (rd_fr (by decide +kernel) hI.2.2.1.2.2) (rt_fr (by decide +kernel) hI.2.2.2))
theorem fact_28 {h : sH} {b : Int} (hI : eLI (eRelT b) h) (hb : b ≤ 2560) : opF 131 266 [.ref 0, .ref 117] [.ref 85] false (eRelT (b + 5)) h := fact_W2 (RR := RK)
  (eDo_1 (fb := false) kC_L_keepBlock (by decide) rfl ⟨rfl, rfl⟩ (fun e => by first | rfl | cases e))
  (eDo_4 (M := cC_X9_keepBlock_3.1) (fs := cC_X9_keepBlock_3.2.2.1) (md := cC_X9_keepBlock_3.2.2.2.2.1) (in4 ⟨cC_X9_keepBlock_3, kC_X9_keepBlock_3, rfl, by decide, rfl, rfl, rfl, rfl⟩ ⟨cC_X9_keepBlock_4, kC_X9_keepBlock_4, rfl, by decide, rfl, rfl, rfl, rfl⟩ ⟨cC_X9_keepBlock_5, kC_X9_keepBlock_5, rfl, by decide, rfl, rfl, rfl, rfl⟩ ⟨cC_X9_keepBlock_6, kC_X9_keepBlock_6, rfl, by decide, rfl, rfl, rfl, rfl⟩))
  ⟨eAr, eAr, True.intro⟩ ⟨eAr, True.intro⟩ hI.1 hI.2.1 (fun r g _ r2 g2 => ok_28 (qH_of (tInv_of hI.1)) hI.2.2.1.2.1 hI.2.2.1.1 g r2 g2) (fin_K (by decide +kernel) hI.2.2 (rd_fr (by decide +kernel) hI.2.2.1.2.2) (rt_fr (by decide +kernel) hI.2.2.2))
theorem fact_29 {h : sH} {b : Int} (hI : eLI (eRelT b) h) (hb : b ≤ 2560) (p1 : Int32) (p2 : Int32) : opF 134 267 [.ref 0, .int p1, .int p2, .ref 117] [.ref 85, .int p1, .int p2] false (eRelT (b + 5)) h := fact_W2 (RR := RK)
  (eDo_1 (fb := false) kC_L_findIn (by decide) rfl ⟨rfl, rfl⟩ (fun e => by first | rfl | cases e))
  (eDo_1 (fb := false) kC_X9_findIn (by decide) rfl ⟨rfl, rfl⟩ (fun e => by first | rfl | cases e))
  ⟨eAr, eAi _, eAi _, eAr, True.intro⟩ ⟨eAr, eAi _, eAi _, True.intro⟩ hI.1 hI.2.1 (fun r g _ r2 g2 => ok_29 (qH_of (tInv_of hI.1)) hI.2.2.1.2.1 hI.2.2.1.1 g r2 g2) (fin_K (by decide +kernel) hI.2.2 (rd_fr (by decide +kernel) hI.2.2.1.2.2) (rt_fr (by decide +kernel) hI.2.2.2))
theorem fact_30 {h : sH} {b : Int} (hI : eLI (eRelT b) h) (hb : b ≤ 2560) (p1 : Int32) (p2 : Int32) : opF 136 268 [.ref 0, .int p1, .int p2, .ref 117] [.ref 85, .int p1, .int p2] false (eRelT (b + 5)) h := fact_W2 (RR := RK)
  (eDo_1 (fb := false) kC_L_setBuilding (by decide) rfl ⟨rfl, rfl⟩ (fun e => by first | rfl | cases e))
  (eDo_1 (fb := false) kC_X9_setBuilding (by decide) rfl ⟨rfl, rfl⟩ (fun e => by first | rfl | cases e))
  ⟨eAr, eAi _, eAi _, eAr, True.intro⟩ ⟨eAr, eAi _, eAi _, True.intro⟩ hI.1 hI.2.1 (fun r g _ r2 g2 => ok_30 (qH_of (tInv_of hI.1)) hI.2.2.1.2.1 hI.2.2.1.1 g r2 g2) (fin_K (by decide +kernel) hI.2.2 (rd_fr (by decide +kernel) hI.2.2.1.2.2) (rt_fr (by decide +kernel) hI.2.2.2))
theorem fact_31 {h : sH} {b : Int} (hI : eLI (eRelT b) h) (hb : b ≤ 2560) (p1 : Int32) (p2 : Int32) : opF 138 269 [.ref 0, .int p1, .int p2, .ref 117] [.ref 85, .int p1, .int p2] true (eRelT (b + 5)) h := fact_W2 (RR := RK)
  (eDo_1 (fb := false) kC_L_use (by decide) rfl ⟨rfl, rfl⟩ (fun e => by first | rfl | cases e))
  (eDo_1 (fb := true) kC_X9_use (by decide) rfl ⟨rfl, rfl⟩ (fun e => by first | rfl | cases e))
  ⟨eAr, eAi _, eAi _, eAr, True.intro⟩ ⟨eAr, eAi _, eAi _, True.intro⟩ hI.1 hI.2.1 (fun r g _ r2 g2 => ok_31 (qH_of (tInv_of hI.1)) hI.2.2.1.2.1 hI.2.2.1.1 g r2 g2) (fin_K (by decide +kernel) hI.2.2 (rd_fr (by decide +kernel) hI.2.2.1.2.2) (rt_fr (by decide +kernel) hI.2.2.2))
theorem fact_32 {h : sH} {b : Int} (hI : eLI (eRelT b) h) (hb : b ≤ 2560) (p1 : Int32) : opF 140 270 [.ref 0, .int p1, .ref 117] [.ref 85, .int p1] false (eRelT (b + 5)) h := fact_W2 (RR := RK)
  (eDo_1 (fb := false) kC_L_setControl (by decide) rfl ⟨rfl, rfl⟩ (fun e => by first | rfl | cases e))
  (eDo_1 (fb := false) kC_X9_setControl (by decide) rfl ⟨rfl, rfl⟩ (fun e => by first | rfl | cases e))
  ⟨eAr, eAi _, eAr, True.intro⟩ ⟨eAr, eAi _, True.intro⟩ hI.1 hI.2.1 (fun r g _ r2 g2 => ok_32 (qH_of (tInv_of hI.1)) hI.2.2.1.2.1 hI.2.2.1.1 g r2 g2) (fin_K (by decide +kernel) hI.2.2 (rd_fr (by decide +kernel) hI.2.2.1.2.2) (rt_fr (by decide +kernel) hI.2.2.2))
theorem fact_33 {h : sH} {b : Int} (hI : eLI (eRelT b) h) (hb : b ≤ 2560) (p1 : Int32) (p2 : Int32) (p3 : Int32) : opF 142 271 [.ref 0, .int p1, .int p2, .int p3, .ref 117] [.ref 85, .int p1, .int p2, .int p3] false (eRelT (b + 5)) h := fact_W2 (RR := RK)
  (eDo_1 (fb := false) kC_L_exchange (by decide) rfl ⟨rfl, rfl⟩ (fun e => by first | rfl | cases e))
  (eDo_1 (fb := false) kC_X9_exchange (by decide) rfl ⟨rfl, rfl⟩ (fun e => by first | rfl | cases e))
  ⟨eAr, eAi _, eAi _, eAi _, eAr, True.intro⟩ ⟨eAr, eAi _, eAi _, eAi _, True.intro⟩ hI.1 hI.2.1 (fun r g _ r2 g2 => ok_33 (qH_of (tInv_of hI.1)) hI.2.2.1.2.1 hI.2.2.1.1 g r2 g2) (fin_K (by decide +kernel) hI.2.2 (rd_fr (by decide +kernel) hI.2.2.1.2.2) (rt_fr (by decide +kernel) hI.2.2.2))
theorem fact_34 {h : sH} {b : Int} (hI : eLI (eRelT b) h) (hb : b ≤ 2560) (p1 : Int32) : opF 144 272 [.ref 0, .int p1, .ref 117] [.ref 85, .int p1] false (eRelT (b + 5)) h := fact_W2 (RR := RK)
  (eDo_1 (fb := false) kC_L_planDays (by decide) rfl ⟨rfl, rfl⟩ (fun e => by first | rfl | cases e))
  (eDo_1 (fb := false) kC_X9_planDays (by decide) rfl ⟨rfl, rfl⟩ (fun e => by first | rfl | cases e))
  ⟨eAr, eAi _, eAr, True.intro⟩ ⟨eAr, eAi _, True.intro⟩ hI.1 hI.2.1 (fun r g _ r2 g2 => ok_34 (qH_of (tInv_of hI.1)) hI.2.2.1.2.1 hI.2.2.1.1 g r2 g2) (fin_K (by decide +kernel) hI.2.2 (rd_fr (by decide +kernel) hI.2.2.1.2.2) (rt_fr (by decide +kernel) hI.2.2.2))
theorem fact_35 {h : sH} {b : Int} (hI : eLI (eRelT b) h) (hb : b ≤ 2560) (p1 : Int32) (p2 : Int32) (p3 : Int32) : opF 148 273 [.ref 0, .int p1, .int p2, .int p3, .ref 117] [.ref 85, .int p1, .int p2, .int p3] false (eRelT (b + 5)) h := fact_W2 (RR := RK)
  (eDo_1 (fb := false) kC_L_planAt (by decide) rfl ⟨rfl, rfl⟩ (fun e => by first | rfl | cases e))
  (eDo_1 (fb := false) kC_X9_planAt (by decide) rfl ⟨rfl, rfl⟩ (fun e => by first | rfl | cases e))
  ⟨eAr, eAi _, eAi _, eAi _, eAr, True.intro⟩ ⟨eAr, eAi _, eAi _, eAi _, True.intro⟩ hI.1 hI.2.1 (fun r g _ r2 g2 => ok_35 (qH_of (tInv_of hI.1)) hI.2.2.1.2.1 hI.2.2.1.1 g r2 g2) (fin_K (by decide +kernel) hI.2.2 (rd_fr (by decide +kernel) hI.2.2.1.2.2) (rt_fr (by decide +kernel) hI.2.2.2))
theorem fact_36 {h : sH} {b : Int} (hI : eLI (eRelT b) h) (hb : b ≤ 2560) (p1 : Int32) (p2 : Int32) : opF 152 274 [.ref 0, .int p1, .int p2, .ref 117] [.ref 85, .int p1, .int p2] false (eRelT (b + 5)) h := fact_W2 (RR := RK)
  (eDo_1 (fb := false) kC_L_ring (by decide) rfl ⟨rfl, rfl⟩ (fun e => by first | rfl | cases e))
  (eDo_1 (fb := false) kC_X9_ring (by decide) rfl ⟨rfl, rfl⟩ (fun e => by first | rfl | cases e))
  ⟨eAr, eAi _, eAi _, eAr, True.intro⟩ ⟨eAr, eAi _, eAi _, True.intro⟩ hI.1 hI.2.1 (fun r g _ r2 g2 => ok_36 (qH_of (tInv_of hI.1)) hI.2.2.1.2.1 hI.2.2.1.1 g r2 g2) (fin_K (by decide +kernel) hI.2.2 (rd_fr (by decide +kernel) hI.2.2.1.2.2) (rt_fr (by decide +kernel) hI.2.2.2))
theorem fact_37 {h : sH} {b : Int} (hI : eLI (eRelT b) h) (hb : b ≤ 2560) (p1 : Int32) (p2 : Int32) : opF 155 275 [.ref 0, .int p1, .int p2, .ref 117] [.ref 85, .int p1, .int p2] false (eRelT (b + 5)) h := fact_W2 (RR := (fun I2 _ _ => RG I2))
  (eDo_1 (fb := false) kC_L_setDeputy (by decide) rfl ⟨rfl, rfl⟩ (fun e => by first | rfl | cases e))
  (eDo_1 (fb := false) kC_X9_setDeputy (by decide) rfl ⟨rfl, rfl⟩ (fun e => by first | rfl | cases e))
  ⟨eAr, eAi _, eAi _, eAr, True.intro⟩ ⟨eAr, eAi _, eAi _, True.intro⟩ hI.1 hI.2.1 (fun r g i r2 g2 => op_37 (qH_of (tInv_of hI.1)) hI.2.2.1.1 (BG_of hI.1) g (BG_of i) r2 g2) (fin_G (by decide +kernel) hI.2.2 (fun r g _ => rd_155 (tInv_of hI.1) (BG_of hI.1) hI.2.2.1.2.2 g) (rt_fr (by decide +kernel) hI.2.2.2))
theorem fact_38 {h : sH} {b : Int} (hI : eLI (eRelT b) h) (hb : b ≤ 2560) (p1 : Int32) (p2 : Int32) (b2 : p2 = 0 ∨ p2 = 1) : opF 159 277 [.ref 0, .int p1, .int p2, .ref 117] [.ref 85, .int p1, .int p2] true (eRelT (b + 5)) h := fact_W2 (RR := (fun I2 _ _ => RG I2))
  (eDo_1 (fb := false) kC_L_setAway (by decide) rfl ⟨rfl, rfl⟩ (fun e => by first | rfl | cases e))
  (eDo_1 (fb := true) kC_X9_setAway (by decide) rfl ⟨rfl, rfl⟩ (fun e => by first | rfl | cases e))
  ⟨eAr, eAi _, eAb b2, eAr, True.intro⟩ ⟨eAr, eAi _, eAb b2, True.intro⟩ hI.1 hI.2.1 (fun r g i r2 g2 => op_38 (qH_of (tInv_of hI.1)) hI.2.2.1.1 (BG_of hI.1) b2 g (BG_of i) r2 g2) (fin_G (by decide +kernel) hI.2.2 (rd_fr (by decide +kernel) hI.2.2.1.2.2) (rt_fr (by decide +kernel) hI.2.2.2))
theorem fact_39 {h : sH} {b : Int} (hI : eLI (eRelT b) h) (hb : b ≤ 2560) (p1 : Int32) (p2 : Int32) : opF 161 278 [.ref 0, .int p1, .int p2, .ref 117] [.ref 85, .int p1, .int p2] false (eRelT (b + 5)) h := fact_W2 (RR := (fun I2 _ _ => RG I2))
  (eDo_1 (fb := false) kC_L_setGuard (by decide) rfl ⟨rfl, rfl⟩ (fun e => by first | rfl | cases e))
  (eDo_1 (fb := false) kC_X9_setGuard (by decide) rfl ⟨rfl, rfl⟩ (fun e => by first | rfl | cases e))
  ⟨eAr, eAi _, eAi _, eAr, True.intro⟩ ⟨eAr, eAi _, eAi _, True.intro⟩ hI.1 hI.2.1 (fun r g i r2 g2 => op_39 (qH_of (tInv_of hI.1)) hI.2.2.1.1 (BG_of hI.1) g (BG_of i) r2 g2) (fin_G (by decide +kernel) hI.2.2 (rd_fr (by decide +kernel) hI.2.2.1.2.2) (rt_fr (by decide +kernel) hI.2.2.2))
theorem fact_40 {h : sH} {b : Int} (hI : eLI (eRelT b) h) (hb : b ≤ 2560) : opF 163 279 [.ref 0, .ref 117] [.ref 85] false (eRelT (b + 5)) h := fact_W2 (RR := (fun I2 _ _ => RG I2))
  (eDo_1 (fb := false) kC_L_addPerson (by decide) rfl ⟨rfl, rfl⟩ (fun e => by first | rfl | cases e))
  (eDo_1 (fb := false) kC_X9_addPerson (by decide) rfl ⟨rfl, rfl⟩ (fun e => by first | rfl | cases e))
  ⟨eAr, eAr, True.intro⟩ ⟨eAr, True.intro⟩ hI.1 hI.2.1 (fun r g i r2 g2 => op_40 (qH_of (tInv_of hI.1)) hI.2.2.1.1 (BG_of hI.1) g (BG_of i) r2 g2) (fin_G (by decide +kernel) hI.2.2 (fun r g _ => rd_163 (tInv_of hI.1) (BG_of hI.1) hI.2.2.1.2.2 g) (rt_fr (by decide +kernel) hI.2.2.2))
theorem fact_41 {h : sH} {b : Int} (hI : eLI (eRelT b) h) (hb : b ≤ 2560) (p1 : Int32) (p2 : Int32) (p3 : Int32) : opF 165 280 [.ref 0, .int p1, .int p2, .int p3, .ref 117] [.ref 85, .int p1, .int p2, .int p3] false (eRelT (b + 5)) h := fact_W2 (RR := RK)
  (eDo_1 (fb := false) kC_L_lend (by decide) rfl ⟨rfl, rfl⟩ (fun e => by first | rfl | cases e))
  (eDo_1 (fb := false) kC_X9_lend (by decide) rfl ⟨rfl, rfl⟩ (fun e => by first | rfl | cases e))
  ⟨eAr, eAi _, eAi _, eAi _, eAr, True.intro⟩ ⟨eAr, eAi _, eAi _, eAi _, True.intro⟩ hI.1 hI.2.1 (fun r g _ r2 g2 => ok_41 (qH_of (tInv_of hI.1)) hI.2.2.1.2.1 hI.2.2.1.1 (BG_of hI.1).1 hI.2.2.1.2.2 g r2 g2) (fin_K (by decide +kernel) hI.2.2 (rd_fr (by decide +kernel) hI.2.2.1.2.2) (fun r g _ => RT_le (rt_165 (tInv_of hI.1) hI.2.2.1.2.1 (by omega) hI.2.2.2 g) (by omega)))
theorem fact_42 {h : sH} {b : Int} (hI : eLI (eRelT b) h) (hb : b ≤ 2560) (p1 : Int32) : opF 170 283 [.ref 0, .int p1, .ref 117] [.ref 85, .int p1] false (eRelT (b + 5)) h := fact_W2 (RR := RK)
  (eDo_1 (fb := false) kC_L_bring (by decide) rfl ⟨rfl, rfl⟩ (fun e => by first | rfl | cases e))
  (eDo_1 (fb := false) kC_X9_bring (by decide) rfl ⟨rfl, rfl⟩ (fun e => by first | rfl | cases e))
  ⟨eAr, eAi _, eAr, True.intro⟩ ⟨eAr, eAi _, True.intro⟩ hI.1 hI.2.1 (fun r g _ r2 g2 => ok_42b (qH_of (tInv_of hI.1)) hI.2.2.1.2.1 hI.2.2.1.1 (100 * b) (by omega) hI.2.2.2 g r2 g2) (fin_K (by decide +kernel) hI.2.2 (rd_fr (by decide +kernel) hI.2.2.1.2.2) (fun r g _ => RT_le (rt_170 (tInv_of hI.1) hI.2.2.1.2.1 hI.2.2.2 g) (by omega)))
theorem fact_43 {h : sH} {b : Int} (hI : eLI (eRelT b) h) (hb : b ≤ 2560) (p1 : Int32) : opF 172 284 [.ref 0, .int p1, .ref 117] [.ref 85, .int p1] false (eRelT (b + 5)) h := fact_W2 (RR := RK)
  (eDo_1 (fb := false) kC_L_holder (by decide) rfl ⟨rfl, rfl⟩ (fun e => by first | rfl | cases e))
  (eDo_1 (fb := false) kC_X9_holder (by decide) rfl ⟨rfl, rfl⟩ (fun e => by first | rfl | cases e))
  ⟨eAr, eAi _, eAr, True.intro⟩ ⟨eAr, eAi _, True.intro⟩ hI.1 hI.2.1 (fun r g _ r2 g2 => ok_43 (qH_of (tInv_of hI.1)) hI.2.2.1.2.1 hI.2.2.1.1 g r2 g2) (fin_K (by decide +kernel) hI.2.2 (rd_fr (by decide +kernel) hI.2.2.1.2.2) (rt_fr (by decide +kernel) hI.2.2.2))
theorem fact_44 {h : sH} {b : Int} (hI : eLI (eRelT b) h) (hb : b ≤ 2560) : opFd 30 285 [.ref 0] [.ref 85] (eRelT (b + 5)) h := fact_D2 (RR := RK)
  (eDo_1 (fb := false) kC_X8_late (by decide) rfl ⟨rfl, rfl⟩ (fun e => by first | rfl | cases e))
  (eDo_1 (fb := false) kC_X9_late (by decide) rfl ⟨rfl, rfl⟩ (fun e => by first | rfl | cases e))
  ⟨eAr, True.intro⟩ ⟨eAr, True.intro⟩ hI.1 hI.2.1 (fun r g _ r2 g2 => ok_44 (qH_of (tInv_of hI.1)) hI.2.2.1.2.1 hI.2.2.1.1 g r2 g2) (fin_K (by decide +kernel) hI.2.2 (rd_fr (by decide +kernel) hI.2.2.1.2.2) (rt_fr (by decide +kernel) hI.2.2.2))
theorem fact_45 {h : sH} {b : Int} (hI : eLI (eRelT b) h) (hb : b ≤ 2560) (p1 : Int32) : opF 174 286 [.ref 0, .int p1, .ref 117] [.ref 85, .int p1] false (eRelT (b + 5)) h := fact_W2 (RR := (fun I2 _ _ => RG I2))
  (eDo_1 (fb := false) kC_L_pass (by decide) rfl ⟨rfl, rfl⟩ (fun e => by first | rfl | cases e))
  (eDo_1 (fb := false) kC_X9_pass (by decide) rfl ⟨rfl, rfl⟩ (fun e => by first | rfl | cases e))
  ⟨eAr, eAi _, eAr, True.intro⟩ ⟨eAr, eAi _, True.intro⟩ hI.1 hI.2.1 (fun r g i r2 g2 => op_45 (qH_of (tInv_of hI.1)) hI.2.2.1.1 (BG_of hI.1) g (BG_of i) r2 g2) (fin_G (by decide +kernel) hI.2.2 (rd_fr (by decide +kernel) hI.2.2.1.2.2) (fun r g _ => RT_le (rt_174 (tInv_of hI.1) (by omega) hI.2.2.2 g) (by omega)))
theorem fact_46 {h : sH} {b : Int} (hI : eLI (eRelT b) h) (hb : b ≤ 2560) (p1 : Int32) (p2 : Int32) : opF 176 287 [.ref 0, .int p1, .int p2, .ref 117] [.ref 85, .int p1, .int p2] false (eRelT (b + 5)) h := fact_W2 (RR := (fun I2 _ _ => RG I2))
  (eDo_1 (fb := false) kC_L_addGate (by decide) rfl ⟨rfl, rfl⟩ (fun e => by first | rfl | cases e))
  (eDo_1 (fb := false) kC_X9_addGate (by decide) rfl ⟨rfl, rfl⟩ (fun e => by first | rfl | cases e))
  ⟨eAr, eAi _, eAi _, eAr, True.intro⟩ ⟨eAr, eAi _, eAi _, True.intro⟩ hI.1 hI.2.1 (fun r g i r2 g2 => op_46 (qH_of (tInv_of hI.1)) hI.2.2.1.1 (BG_of hI.1) g (BG_of i) r2 g2) (fin_G (by decide +kernel) hI.2.2 (rd_fr (by decide +kernel) hI.2.2.1.2.2) (rt_fr (by decide +kernel) hI.2.2.2))
theorem fact_47 {h : sH} {b : Int} (hI : eLI (eRelT b) h) (hb : b ≤ 2560) (p1 : Int32) (p2 : Int32) : opF 178 288 [.ref 0, .int p1, .int p2, .ref 117] [.ref 85, .int p1, .int p2] false (eRelT (b + 5)) h := fact_W2 (RR := (fun I2 _ _ => RG I2))
  (eDo_1 (fb := false) kC_L_lockAgainst (by decide) rfl ⟨rfl, rfl⟩ (fun e => by first | rfl | cases e))
  (eDo_1 (fb := false) kC_X9_lockAgainst (by decide) rfl ⟨rfl, rfl⟩ (fun e => by first | rfl | cases e))
  ⟨eAr, eAi _, eAi _, eAr, True.intro⟩ ⟨eAr, eAi _, eAi _, True.intro⟩ hI.1 hI.2.1 (fun r g i r2 g2 => op_47 (qH_of (tInv_of hI.1)) hI.2.2.1.1 (BG_of hI.1) g (BG_of i) r2 g2) (fin_G (by decide +kernel) hI.2.2 (rd_fr (by decide +kernel) hI.2.2.1.2.2) (rt_fr (by decide +kernel) hI.2.2.2))
theorem fact_48 {h : sH} {b : Int} (hI : eLI (eRelT b) h) (hb : b ≤ 2560) (p1 : Int32) : opF 181 290 [.ref 0, .int p1, .ref 117] [.ref 85, .int p1] false (eRelT (b + 5)) h := fact_W2 (RR := (fun I2 _ _ => RG I2))
  (eDo_1 (fb := false) kC_L_addCard (by decide) rfl ⟨rfl, rfl⟩ (fun e => by first | rfl | cases e))
  (eDo_1 (fb := false) kC_X9_addCard (by decide) rfl ⟨rfl, rfl⟩ (fun e => by first | rfl | cases e))
  ⟨eAr, eAi _, eAr, True.intro⟩ ⟨eAr, eAi _, True.intro⟩ hI.1 hI.2.1 (fun r g i r2 g2 => op_48 (qH_of (tInv_of hI.1)) hI.2.2.1.1 (BG_of hI.1) g (BG_of i) r2 g2) (fin_G (by decide +kernel) hI.2.2 (rd_fr (by decide +kernel) hI.2.2.1.2.2) (rt_fr (by decide +kernel) hI.2.2.2))
theorem fact_49 {h : sH} {b : Int} (hI : eLI (eRelT b) h) (hb : b ≤ 2560) (p1 : Int32) (p2 : Int32) (p3 : Int32) (b3 : p3 = 0 ∨ p3 = 1) : opF 183 291 [.ref 0, .int p1, .int p2, .int p3, .ref 117] [.ref 85, .int p1, .int p2, .int p3] false (eRelT (b + 5)) h := fact_W2 (RR := (fun I2 _ _ => RG I2))
  (eDo_1 (fb := false) kC_L_allow (by decide) rfl ⟨rfl, rfl⟩ (fun e => by first | rfl | cases e))
  (eDo_1 (fb := false) kC_X9_allow (by decide) rfl ⟨rfl, rfl⟩ (fun e => by first | rfl | cases e))
  ⟨eAr, eAi _, eAi _, eAb b3, eAr, True.intro⟩ ⟨eAr, eAi _, eAi _, eAb b3, True.intro⟩ hI.1 hI.2.1 (fun r g i r2 g2 => op_49 (qH_of (tInv_of hI.1)) hI.2.2.1.1 (BG_of hI.1) b3 g (BG_of i) r2 g2) (fin_G (by decide +kernel) hI.2.2 (rd_fr (by decide +kernel) hI.2.2.1.2.2) (rt_fr (by decide +kernel) hI.2.2.2))
theorem fact_50 {h : sH} {b : Int} (hI : eLI (eRelT b) h) (hb : b ≤ 2560) (p1 : Int32) (p2 : Int32) (b2 : p2 = 0 ∨ p2 = 1) : opF 186 293 [.ref 0, .int p1, .int p2, .ref 117] [.ref 85, .int p1, .int p2] false (eRelT (b + 5)) h := fact_W2 (RR := (fun I2 _ _ => RG I2))
  (eDo_1 (fb := false) kC_L_bar (by decide) rfl ⟨rfl, rfl⟩ (fun e => by first | rfl | cases e))
  (eDo_1 (fb := false) kC_X9_bar (by decide) rfl ⟨rfl, rfl⟩ (fun e => by first | rfl | cases e))
  ⟨eAr, eAi _, eAb b2, eAr, True.intro⟩ ⟨eAr, eAi _, eAb b2, True.intro⟩ hI.1 hI.2.1 (fun r g i r2 g2 => op_50 (qH_of (tInv_of hI.1)) hI.2.2.1.1 (BG_of hI.1) b2 g (BG_of i) r2 g2) (fin_G (by decide +kernel) hI.2.2 (rd_fr (by decide +kernel) hI.2.2.1.2.2) (rt_fr (by decide +kernel) hI.2.2.2))
theorem fact_51 {h : sH} {b : Int} (hI : eLI (eRelT b) h) (hb : b ≤ 2560) (p1 : Int32) : opF 188 294 [.ref 0, .int p1, .ref 117] [.ref 85, .int p1] false (eRelT (b + 5)) h := fact_W2 (RR := (fun I2 _ _ => RG I2))
  (eDo_1 (fb := false) kC_L_load (by decide) rfl ⟨rfl, rfl⟩ (fun e => by first | rfl | cases e))
  (eDo_1 (fb := false) kC_X9_load (by decide) rfl ⟨rfl, rfl⟩ (fun e => by first | rfl | cases e))
  ⟨eAr, eAi _, eAr, True.intro⟩ ⟨eAr, eAi _, True.intro⟩ hI.1 hI.2.1 (fun r g i r2 g2 => op_51 (qH_of (tInv_of hI.1)) hI.2.2.1.1 (BG_of hI.1) g (BG_of i) r2 g2) (fin_G (by decide +kernel) hI.2.2 (rd_fr (by decide +kernel) hI.2.2.1.2.2) (rt_fr (by decide +kernel) hI.2.2.2))
theorem fact_52 {h : sH} {b : Int} (hI : eLI (eRelT b) h) (hb : b ≤ 2560) (p1 : Int32) (p2 : Int32) : opF 190 295 [.ref 0, .int p1, .int p2, .ref 117] [.ref 85, .int p1, .int p2] false (eRelT (b + 5)) h := fact_W2 (RR := (fun I2 _ _ => RG I2))
  (eDo_1 (fb := false) kC_L_tryCard (by decide) rfl ⟨rfl, rfl⟩ (fun e => by first | rfl | cases e))
  (eDo_1 (fb := false) kC_X9_tryCard (by decide) rfl ⟨rfl, rfl⟩ (fun e => by first | rfl | cases e))
  ⟨eAr, eAi _, eAi _, eAr, True.intro⟩ ⟨eAr, eAi _, eAi _, True.intro⟩ hI.1 hI.2.1 (fun r g i r2 g2 => op_52 (qH_of (tInv_of hI.1)) hI.2.2.1.1 (BG_of hI.1) g (BG_of i) r2 g2) (fin_G (by decide +kernel) hI.2.2 (rd_fr (by decide +kernel) hI.2.2.1.2.2) (rt_fr (by decide +kernel) hI.2.2.2))
theorem fact_53 {h : sH} {b : Int} (hI : eLI (eRelT b) h) (hb : b ≤ 2560) (p1 : Int32) (p2 : Int32) : opF 196 298 [.ref 0, .int p1, .int p2, .ref 117] [.ref 85, .int p1, .int p2] false (eRelT (b + 5)) h := fact_W2 (RR := (fun I2 _ _ => RG I2))
  (eDo_1 (fb := false) kC_L_goOut (by decide) rfl ⟨rfl, rfl⟩ (fun e => by first | rfl | cases e))
  (eDo_1 (fb := false) kC_X9_goOut (by decide) rfl ⟨rfl, rfl⟩ (fun e => by first | rfl | cases e))
  ⟨eAr, eAi _, eAi _, eAr, True.intro⟩ ⟨eAr, eAi _, eAi _, True.intro⟩ hI.1 hI.2.1 (fun r g i r2 g2 => op_53 (qH_of (tInv_of hI.1)) hI.2.2.1.1 (BG_of hI.1) g (BG_of i) r2 g2) (fin_G (by decide +kernel) hI.2.2 (rd_fr (by decide +kernel) hI.2.2.1.2.2) (rt_fr (by decide +kernel) hI.2.2.2))
theorem fact_54 {h : sH} {b : Int} (hI : eLI (eRelT b) h) (hb : b ≤ 2560) (p1 : Int32) : opF 198 299 [.ref 0, .int p1, .ref 117] [.ref 85, .int p1] true (eRelT (b + 5)) h := fact_W2 (RR := (fun I2 _ _ => RG I2))
  (eDo_1 (fb := false) kC_L_shut (by decide) rfl ⟨rfl, rfl⟩ (fun e => by first | rfl | cases e))
  (eDo_1 (fb := true) kC_X9_shut (by decide) rfl ⟨rfl, rfl⟩ (fun e => by first | rfl | cases e))
  ⟨eAr, eAi _, eAr, True.intro⟩ ⟨eAr, eAi _, True.intro⟩ hI.1 hI.2.1 (fun r g i r2 g2 => op_54 (qH_of (tInv_of hI.1)) hI.2.2.1.1 (BG_of hI.1) g (BG_of i) r2 g2) (fin_G (by decide +kernel) hI.2.2 (rd_fr (by decide +kernel) hI.2.2.1.2.2) (rt_fr (by decide +kernel) hI.2.2.2))
theorem fact_55 {h : sH} {b : Int} (hI : eLI (eRelT b) h) (hb : b ≤ 2560) (p1 : Int32) : opF 200 300 [.ref 0, .int p1, .ref 117] [.ref 85, .int p1] false (eRelT (b + 5)) h := fact_W2 (RR := (fun I2 _ _ => RG I2))
  (eDo_1 (fb := false) kC_L_zoneOf (by decide) rfl ⟨rfl, rfl⟩ (fun e => by first | rfl | cases e))
  (eDo_1 (fb := false) kC_X9_zoneOf (by decide) rfl ⟨rfl, rfl⟩ (fun e => by first | rfl | cases e))
  ⟨eAr, eAi _, eAr, True.intro⟩ ⟨eAr, eAi _, True.intro⟩ hI.1 hI.2.1 (fun r g i r2 g2 => op_55 (qH_of (tInv_of hI.1)) hI.2.2.1.1 (BG_of hI.1) g (BG_of i) r2 g2) (fin_G (by decide +kernel) hI.2.2 (rd_fr (by decide +kernel) hI.2.2.1.2.2) (rt_fr (by decide +kernel) hI.2.2.2))
theorem fact_56 {h : sH} {b : Int} (hI : eLI (eRelT b) h) (hb : b ≤ 2560) (p1 : Int32) : opF 202 301 [.ref 0, .int p1, .ref 117] [.ref 85, .int p1] false (eRelT (b + 5)) h := fact_W2 (RR := (fun I2 _ _ => RG I2))
  (eDo_1 (fb := false) kC_L_barredAt (by decide) rfl ⟨rfl, rfl⟩ (fun e => by first | rfl | cases e))
  (eDo_1 (fb := false) kC_X9_barredAt (by decide) rfl ⟨rfl, rfl⟩ (fun e => by first | rfl | cases e))
  ⟨eAr, eAi _, eAr, True.intro⟩ ⟨eAr, eAi _, True.intro⟩ hI.1 hI.2.1 (fun r g i r2 g2 => op_56 (qH_of (tInv_of hI.1)) hI.2.2.1.1 (BG_of hI.1) g (BG_of i) r2 g2) (fin_G (by decide +kernel) hI.2.2 (rd_fr (by decide +kernel) hI.2.2.1.2.2) (rt_fr (by decide +kernel) hI.2.2.2))
theorem fact_57 {h : sH} {b : Int} (hI : eLI (eRelT b) h) (hb : b ≤ 2560) : opFl 32 302 [.ref 0] [.ref 85] (eRelT (b + 5)) h := fact_L2 (RR := RK)
  (eDo_1 (fb := false) kC_X8_checksum (by decide) rfl ⟨rfl, rfl⟩ (fun e => by first | rfl | cases e))
  (eDo_1 (fb := false) kC_X9_checksum (by decide) rfl ⟨rfl, rfl⟩ (fun e => by first | rfl | cases e))
  ⟨eAr, True.intro⟩ ⟨eAr, True.intro⟩ hI.1 hI.2.1 (fun r g _ r2 g2 => ok_57 (qH_of (tInv_of hI.1)) hI.2.2.1.2.1 hI.2.2.1.1 g r2 g2) (fin_K (by decide +kernel) hI.2.2 (rd_fr (by decide +kernel) hI.2.2.1.2.2) (rt_fr (by decide +kernel) hI.2.2.2))
theorem fact_60 {h : sH} {b : Int} (hI : eLI (eRelT b) h) (hb : b ≤ 2560) : opFd 37 305 [.ref 0] [.ref 85] (eRelT (b + 5)) h := fact_D2 (RR := RK)
  (eDo_1 (fb := false) kC_X8_isSound (by decide) rfl ⟨rfl, rfl⟩ (fun e => by first | rfl | cases e))
  (eDo_1 (fb := false) kC_X9_isSound (by decide) rfl ⟨rfl, rfl⟩ (fun e => by first | rfl | cases e))
  ⟨eAr, True.intro⟩ ⟨eAr, True.intro⟩ hI.1 hI.2.1 (fun r g _ r2 g2 => ok_60 (qH_of (tInv_of hI.1)) hI.2.2.1.2.1 hI.2.2.1.1 g r2 g2) (fin_K (by decide +kernel) hI.2.2 (rd_fr (by decide +kernel) hI.2.2.1.2.2) (rt_fr (by decide +kernel) hI.2.2.2))
end
