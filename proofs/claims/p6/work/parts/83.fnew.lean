/-! part 83: find -/
theorem find_new {I J4 J34 J45 J : Nat → Nat → Int32} {L K9 : Nat → Nat → Int64} {R : Nat → Nat} (h : RK I L R) (hG : RG I) {D blk vm w : Int32} {v : Int64} (hb : blk = -1 ∨ ∃ b, b < nbI I ∧ blk = Int32.ofNat b) (hD : (1 : Int32) ≤ D ∧ D ≤ ((1 : Int32) <<< ((I 0 10) &&& 31)) - (1 : Int32)) (hc : srP I L R D (-1) blk J4 K9 v) (hn : nkI I < 16) (hv : ¬ v = 0)
    (hw : wsP (upI (upI (upI J4 (19 + nkI I) 1 (I 1 4)) (19 + nkI I) 3 ((1 : Int32) <<< (Int32.ofNat (nkI I) &&& 31))) 0 9 (Int32.ofNat (nkI I) + (1 : Int32))) R D (Int32.ofNat (nkI I)) 1 J34)
    (hf : fndP J34 D blk J45 vm) (ha : adP (upI J45 85 42 (0 : Int32)) D J w) : vm = 1 ∧ w = Int32.ofNat (nkI I) ∧ J 85 42 = 0 ∧ RK J (upL K9 (19 + nkI I) 0 v) R := by
  have hm := h.mi
  have hdb := hm.db
  have hkb := hm.kb
  have h6 := hm.c6
  have m6 := hm.m6
  have j4 : ∀ a b, a ≠ 9 → J4 a b = I a b := hc.1
  obtain ⟨w1, w2⟩ := hw (fun d hd => h.rr d hd) (fun d e hd he => h.ri d e hd he) (ndI I) (nkI I) (by rw [upI_ne (by omega), upI_ne (by omega), upI_ne (by omega), j4 0 10 (by decide)]; exact h.d1) hdb rfl (by omega)
  have u : ∀ a b, 85 ≤ a → J34 a b = I a b := fun a b q => by
    rw [w1 a b (by omega), upI_ne (by omega), upI_ne (by omega), upI_ne (by omega), j4 a b (by omega)]
  obtain ⟨_, k2, k3, k4⟩ := find_E h hG (agU_of u) hb hc hf
  rcases k4 with ⟨z, _⟩ | ⟨_, vm1, N, n1, n2, n3, n4⟩
  · exact absurd z hv
  obtain ⟨o1, o2, o3, o4⟩ := n4
  obtain ⟨r1, r2, r3, r4, r5, r6⟩ := ha (nkI I) (ncI I) (by rw [upI_ne (by omega), k3 85 35 (by unfold scr; omega), u 85 35 (by omega)]; exact hm.k) hn (by rw [upI_ne (by omega), k3 85 31 (by unfold scr; omega), u 85 31 (by omega)]; exact hm.c) h6
  -- cells of the last state
  have jM : ∀ a b, ¬ scr a b → 85 ≤ a → ¬ ((a = 85 ∧ b = 35) ∨ (a = 88 ∧ b = nkI I) ∨ (a = 95 ∧ b = nkI I) ∨ (a = 86 ∧ 6 * nkI I ≤ b)) → J a b = I a b := fun a b q1 q2 q3 => by
    rw [r6 a b q3, upI_ne (fun z => q1 (by unfold scr; omega)), k3 a b q1, u a b q2]
  have jC : ∀ a b, ¬ scr a b → a < 85 → J a b = J34 a b := fun a b q1 q2 => by
    rw [r6 a b (by omega), upI_ne (by omega), k3 a b q1]
  have jB : ∀ a b, ¬ scr a b → a < 85 → ¬ (35 ≤ a ∧ a ≤ 44 ∧ b = 1) → J a b = upI (upI (upI J4 (19 + nkI I) 1 (I 1 4)) (19 + nkI I) 3 ((1 : Int32) <<< (Int32.ofNat (nkI I) &&& 31))) 0 9 (Int32.ofNat (nkI I) + (1 : Int32)) a b := fun a b q1 q2 q3 => by
    rw [jC a b q1 q2, w1 a b q3]
  have jI : ∀ a b, ¬ scr a b → a < 85 → ¬ (35 ≤ a ∧ a ≤ 44 ∧ b = 1) → ¬ (a = 19 + nkI I ∧ (b = 1 ∨ b = 3)) → ¬ (a = 0 ∧ b = 9) → J a b = I a b := fun a b q1 q2 q3 q4 q5 => by
    rw [jB a b q1 q2 q3, upI_ne q5, upI_ne (by omega), upI_ne (by omega), j4 a b (fun z => q1 (by unfold scr; omega))]
  have kf : ∀ a b, ¬ (a = 10 ∨ a = 11 ∨ (a = 9 ∧ b = 8)) → K9 a b = L a b := k2
  refine ⟨vm1, r1, by rw [r6 85 42 (by omega), upI_s], RK_key h hG.1.2.2.2.2.2.2.2 hn (t := dg (mdI I) (ncI I) N) (fun c hc' => dg_lt (by have := hm.m2; omega)) o1 (D := D) (fun d z => ?_) n2 (fun a b q1 q2 => ?_) ?_ (fun b => ?_) r2 ?_ (fun c hc' => ?_) (fun k c h1 h2 => ?_) (fun k hk => ?_) ?_ (fun k hk => ?_) upL_s (fun k hk => ?_) ?_ (fun k hk => ?_) (fun j hj => ?_) (fun k hk => ?_) (fun d k hd => ?_)⟩
  · have lt : d < ndI I := by
      rw [h.d1] at hD
      exact mask_lt hdb hD z
    exact ⟨lt, (o4 d lt).1 z⟩
  · by_cases g : a < 85
    · exact jI a b q1 g (by omega) (by omega) (by omega)
    · exact jM a b q1 (by omega) (by omega)
  · rw [upL_ne (by omega), kf 1 5 (by omega)]
  · rw [upL_ne (by omega), kf 15 b (by omega)]
  · rw [jB 0 9 (by unfold scr; omega) (by omega) (by omega), upI_s, oN_s]
  · rw [r5 c hc', upI_ne (by omega), n3 c hc']
  · exact jM 86 _ (by unfold scr; omega) (by omega) (by omega)
  · by_cases g : k = nkI I
    · rw [if_pos g, g]; exact r3
    · rw [if_neg g]; exact jM 88 k (by unfold scr; omega) (by omega) (by omega)
  · rw [r4, upI_ne (by omega), k3 85 43 (by unfold scr; omega), u 85 43 (by omega)]
  · exact jM 95 k (by unfold scr; omega) (by omega) (by omega)
  · rw [upL_ne (by omega), kf _ 0 (by omega)]
  · rw [jB _ 1 (by unfold scr; omega) (by omega) (by omega), upI_ne (by omega), upI_ne (by omega), upI_s]
    exact hG.1.2.2.2.2.2.2.2.symm
  · exact jI _ 1 (by unfold scr; omega) (by omega) (by omega) (by omega) (by omega)
  · rw [jB _ 3 (by unfold scr; omega) (by omega) (by omega), upI_ne (by omega), upI_s, tb_1shl (by omega)]
  · exact jI _ 3 (by unfold scr; omega) (by omega) (by omega) (by omega) (by omega)
  · have hr := h.rr d hd
    rw [jC (R d) 1 (by unfold scr; omega) (by omega), w2 d k hd, upI_ne (by omega), upI_ne (by omega), upI_ne (by omega), j4 (R d) 1 (by omega)]
    by_cases g : k = nkI I
    · subst g
      rw [if_pos rfl]
      by_cases z : tb D d = true
      · have lt : d < ndI I := by
          rw [h.d1] at hD
          exact mask_lt hdb hD z
        rw [if_pos ⟨rfl, lt, z⟩, z]; rfl
      · rw [if_neg (fun y => z y.2.2), h.wi d _ hd hn, Bool.eq_false_iff.mpr z]
        exact Bool.eq_false_iff.mpr (fun y => absurd (hm.wu d _ hn y).1 (by omega))
    · rw [if_neg g, if_neg (fun y => g y.1)]
