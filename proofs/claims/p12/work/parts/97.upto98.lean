/-! some parts, joined -/
section
/-! the law's loop, whole -/
set_option maxRecDepth 100000 in
theorem md_fr : relFr eMdL = true := by decide +kernel
set_option maxRecDepth 100000 in
theorem md_ft : rtFr eMdL = true := by decide +kernel
theorem law_all {ys : List Int32} (hL : ys.length ≤ 2560) : ∀ (n : Nat) (i : Int32) (lc : sL) (h : sH) (cl sl : Nat), 2560 - i.toInt ≤ (n : Int) → 0 ≤ i.toInt → i.toInt ≤ 2560 → eLaw i lc → eLI (eRelT i.toInt) h → (cl : Int) ≤ 119 + 100 * i.toInt → (sl : Int) ≤ 1108 + 1000 * i.toInt →
    sWp mtv (sGo1 mtv eFu 30) mL_law (some ys) ((n + 1) * 1100) (28, lc, [], h, cl, sl) (fun r => r.1 = .inl (some (.int 1))) := by
  intro n
  induction n with
  | zero =>
    intro i lc h cl sl h1 h2 h3 h4 h5 h6 h7
    refine wp_le (B := 0 + 20) (by omega) (law_head h4 h2 hL rfl (fun h9 => ?_))
    omega
  | succ n ih =>
    intro i lc h cl sl h1 h2 h3 h4 h5 h6 h7
    have r1 : cl + 100 ≤ mC mL_law := Nat.le_trans (show cl + 100 ≤ 256219 by omega) (Nat.le_of_ble_eq_true rfl)
    have r2 : sl + 1000 ≤ mS mL_law := Nat.le_trans (show sl + 1000 ≤ 2562108 by omega) (Nat.le_of_ble_eq_true rfl)
    have next : ∀ (i' : Int32) (lc' : sL) (h' : sH) (cl' sl' : Nat), eLaw i' lc' → i.toInt < i'.toInt → i'.toInt ≤ 2560 → eLI (eRelT i'.toInt) h' → cl' ≤ cl + 100 → sl' ≤ sl + 1000 → sWp mtv (sGo1 mtv eFu 30) mL_law (some ys) ((n + 1) * 1100) (28, lc', [], h', cl', sl') (fun r => r.1 = .inl (some (.int 1))) := fun i' lc' h' cl' sl' g1 g2 g3 g4 g5 g6 =>
      ih i' lc' h' cl' sl' (by omega) (by omega) g3 g1 g4 (by omega) (by omega)
    have next0 : ∀ (i' : Int32) (lc' : sL) (h' : sH) (cl' sl' : Nat), eLaw i' lc' → i.toInt < i'.toInt → i'.toInt ≤ 2560 → eLI (eRelT i.toInt) h' → cl' ≤ cl + 100 → sl' ≤ sl + 1000 → sWp mtv (sGo1 mtv eFu 30) mL_law (some ys) ((n + 1) * 1100) (28, lc', [], h', cl', sl') (fun r => r.1 = .inl (some (.int 1))) := fun i' lc' h' cl' sl' g1 g2 g3 g4 g5 g6 =>
      next i' lc' h' cl' sl' g1 g2 g3 ⟨g4.1, g4.2.1, eRelT_le g4.2.2 (by omega)⟩ g5 g6
    refine wp_le (B := ((n + 1) * 1100 + 1000) + 20) (by omega) (law_head h4 h2 hL rfl (fun h9 k hk T hT hx => ?_))
    rcases (show k = 0 ∨ k = 1 ∨ k = 2 ∨ k = 3 ∨ k = 4 ∨ k = 5 ∨ k = 6 ∨ k = 7 ∨ k = 8 ∨ k = 9 ∨ k = 10 ∨ k = 11 ∨ k = 12 ∨ k = 13 ∨ k = 14 ∨ k = 15 ∨ k = 16 ∨ k = 17 ∨ k = 18 ∨ k = 19 ∨ k = 20 ∨ k = 21 ∨ k = 22 ∨ k = 23 ∨ k = 24 ∨ k = 25 ∨ k = 26 ∨ k = 27 ∨ k = 28 ∨ k = 29 ∨ k = 30 ∨ k = 31 ∨ k = 32 ∨ k = 33 ∨ k = 34 ∨ k = 35 ∨ k = 36 ∨ k = 37 ∨ k = 38 ∨ k = 39 ∨ k = 40 ∨ k = 41 ∨ k = 42 ∨ k = 43 ∨ k = 44 ∨ k = 45 ∨ k = 46 ∨ k = 47 ∨ k = 48 ∨ k = 49 ∨ k = 50 ∨ k = 51 ∨ k = 52 ∨ k = 53 ∨ k = 54 ∨ k = 55 ∨ k = 56 ∨ k = 57 ∨ k = 58 ∨ k = 59 ∨ k = 60 ∨ k = 61 ∨ k = 62 ∨ k = 63 by omega) with rfl | rfl | rfl | rfl | rfl | rfl | rfl | rfl | rfl | rfl | rfl | rfl | rfl | rfl | rfl | rfl | rfl | rfl | rfl | rfl | rfl | rfl | rfl | rfl | rfl | rfl | rfl | rfl | rfl | rfl | rfl | rfl | rfl | rfl | rfl | rfl | rfl | rfl | rfl | rfl | rfl | rfl | rfl | rfl | rfl | rfl | rfl | rfl | rfl | rfl | rfl | rfl | rfl | rfl | rfl | rfl | rfl | rfl | rfl | rfl | rfl | rfl | rfl | rfl
    · rw [hT]; exact wp_le (B := 1000 + (n + 1) * 1100) (by omega) (case_0 h4 h2 h9 hL h5 r1 r2 next)
    · rw [hT]; exact wp_le (B := 1000 + (n + 1) * 1100) (by omega) (case_1 h4 h2 h9 hL h5 r1 r2 next)
    · rw [hT]; exact wp_le (B := 1000 + (n + 1) * 1100) (by omega) (case_2 h4 h2 h9 hL h5 r1 r2 next)
    · rw [hT]; exact wp_le (B := 1000 + (n + 1) * 1100) (by omega) (case_3 h4 h2 h9 hL h5 r1 r2 next)
    · rw [hT]; exact wp_le (B := 1000 + (n + 1) * 1100) (by omega) (case_4 h4 h2 h9 hL h5 r1 r2 next)
    · rw [hT]; exact wp_le (B := 1000 + (n + 1) * 1100) (by omega) (case_5 h4 h2 h9 hL h5 r1 r2 next)
    · rw [hT]; exact wp_le (B := 1000 + (n + 1) * 1100) (by omega) (case_6 h4 h2 h9 hL h5 r1 r2 next)
    · rw [hT]; exact wp_le (B := 1000 + (n + 1) * 1100) (by omega) (case_7 h4 h2 h9 hL h5 r1 r2 next)
    · rw [hT]; exact wp_le (B := 1000 + (n + 1) * 1100) (by omega) (case_8 h4 h2 h9 hL h5 r1 r2 next)
    · rw [hT]; exact wp_le (B := 1000 + (n + 1) * 1100) (by omega) (case_9 h4 h2 h9 hL h5 r1 r2 next)
    · rw [hT]; exact wp_le (B := 1000 + (n + 1) * 1100) (by omega) (case_10 h4 h2 h9 hL h5 r1 r2 next)
    · rw [hT]; exact wp_le (B := 1000 + (n + 1) * 1100) (by omega) (case_11 h4 h2 h9 hL h5 r1 r2 next)
    · rw [hT]; exact wp_le (B := 1000 + (n + 1) * 1100) (by omega) (case_12 h4 h2 h9 hL h5 r1 r2 next)
    · rw [hT]; exact wp_le (B := 1000 + (n + 1) * 1100) (by omega) (case_13 h4 h2 h9 hL h5 r1 r2 next)
    · rw [hT]; exact wp_le (B := 1000 + (n + 1) * 1100) (by omega) (case_14 h4 h2 h9 hL h5 r1 r2 next)
    · rw [hT]; exact wp_le (B := 1000 + (n + 1) * 1100) (by omega) (case_15 h4 h2 h9 hL h5 r1 r2 next)
    · rw [hT]; exact wp_le (B := 1000 + (n + 1) * 1100) (by omega) (case_16 h4 h2 h9 hL h5 r1 r2 next)
    · rw [hT]; exact wp_le (B := 1000 + (n + 1) * 1100) (by omega) (case_17 h4 h2 h9 hL h5 r1 r2 next)
    · rw [hT]; exact wp_le (B := 1000 + (n + 1) * 1100) (by omega) (case_18 h4 h2 h9 hL h5 r1 r2 next)
    · rw [hT]; exact wp_le (B := 1000 + (n + 1) * 1100) (by omega) (case_19 h4 h2 h9 hL h5 r1 r2 next)
    · rw [hT]; exact wp_le (B := 1000 + (n + 1) * 1100) (by omega) (case_20 h4 h2 h9 hL h5 r1 r2 next)
    · rw [hT]; exact wp_le (B := 1000 + (n + 1) * 1100) (by omega) (case_21 h4 h2 h9 hL h5 r1 r2 next)
    · rw [hT]; exact wp_le (B := 1000 + (n + 1) * 1100) (by omega) (case_22 h4 h2 h9 hL h5 r1 r2 next)
    · rw [hT]; exact wp_le (B := 1000 + (n + 1) * 1100) (by omega) (case_23 h4 h2 h9 hL h5 r1 r2 next)
    · rw [hT]; exact wp_le (B := 1000 + (n + 1) * 1100) (by omega) (case_24 h4 h2 h9 hL h5 r1 r2 next)
    · rw [hT]; exact wp_le (B := 1000 + (n + 1) * 1100) (by omega) (case_25 h4 h2 h9 hL h5 r1 r2 next)
    · rw [hT]; exact wp_le (B := 1000 + (n + 1) * 1100) (by omega) (case_26 h4 h2 h9 hL h5 r1 r2 next)
    · rw [hT]; exact wp_le (B := 1000 + (n + 1) * 1100) (by omega) (case_27 h4 h2 h9 hL h5 r1 r2 next)
    · rw [hT]; exact wp_le (B := 1000 + (n + 1) * 1100) (by omega) (case_28 h4 h2 h9 hL h5 r1 r2 next)
    · rw [hT]; exact wp_le (B := 1000 + (n + 1) * 1100) (by omega) (case_29 h4 h2 h9 hL h5 r1 r2 next)
    · rw [hT]; exact wp_le (B := 1000 + (n + 1) * 1100) (by omega) (case_30 h4 h2 h9 hL h5 r1 r2 next)
    · rw [hT]; exact wp_le (B := 1000 + (n + 1) * 1100) (by omega) (case_31 h4 h2 h9 hL h5 r1 r2 next)
    · rw [hT]; exact wp_le (B := 1000 + (n + 1) * 1100) (by omega) (case_32 h4 h2 h9 hL h5 r1 r2 next)
    · rw [hT]; exact wp_le (B := 1000 + (n + 1) * 1100) (by omega) (case_33 h4 h2 h9 hL h5 r1 r2 next)
    · rw [hT]; exact wp_le (B := 1000 + (n + 1) * 1100) (by omega) (case_34 h4 h2 h9 hL h5 r1 r2 next)
    · rw [hT]; exact wp_le (B := 1000 + (n + 1) * 1100) (by omega) (case_35 h4 h2 h9 hL h5 r1 r2 next)
    · rw [hT]; exact wp_le (B := 1000 + (n + 1) * 1100) (by omega) (case_36 h4 h2 h9 hL h5 r1 r2 next)
    · rw [hT]; exact wp_le (B := 1000 + (n + 1) * 1100) (by omega) (case_37 h4 h2 h9 hL h5 r1 r2 next)
    · rw [hT]; exact wp_le (B := 1000 + (n + 1) * 1100) (by omega) (case_38 h4 h2 h9 hL h5 r1 r2 next)
    · rw [hT]; exact wp_le (B := 1000 + (n + 1) * 1100) (by omega) (case_39 h4 h2 h9 hL h5 r1 r2 next)
    · rw [hT]; exact wp_le (B := 1000 + (n + 1) * 1100) (by omega) (case_40 h4 h2 h9 hL h5 r1 r2 next)
    · rw [hT]; exact wp_le (B := 1000 + (n + 1) * 1100) (by omega) (case_41 h4 h2 h9 hL h5 r1 r2 next)
    · rw [hT]; exact wp_le (B := 1000 + (n + 1) * 1100) (by omega) (case_42 h4 h2 h9 hL h5 r1 r2 next)
    · rw [hT]; exact wp_le (B := 1000 + (n + 1) * 1100) (by omega) (case_43 h4 h2 h9 hL h5 r1 r2 next)
    · rw [hT]; exact wp_le (B := 1000 + (n + 1) * 1100) (by omega) (case_44 h4 h2 h9 hL h5 r1 r2 next)
    · rw [hT]; exact wp_le (B := 1000 + (n + 1) * 1100) (by omega) (case_45 h4 h2 h9 hL h5 r1 r2 next)
    · rw [hT]; exact wp_le (B := 1000 + (n + 1) * 1100) (by omega) (case_46 h4 h2 h9 hL h5 r1 r2 next)
    · rw [hT]; exact wp_le (B := 1000 + (n + 1) * 1100) (by omega) (case_47 h4 h2 h9 hL h5 r1 r2 next)
    · rw [hT]; exact wp_le (B := 1000 + (n + 1) * 1100) (by omega) (case_48 h4 h2 h9 hL h5 r1 r2 next)
    · rw [hT]; exact wp_le (B := 1000 + (n + 1) * 1100) (by omega) (case_49 h4 h2 h9 hL h5 r1 r2 next)
    · rw [hT]; exact wp_le (B := 1000 + (n + 1) * 1100) (by omega) (case_50 h4 h2 h9 hL h5 r1 r2 next)
    · rw [hT]; exact wp_le (B := 1000 + (n + 1) * 1100) (by omega) (case_51 h4 h2 h9 hL h5 r1 r2 next)
    · rw [hT]; exact wp_le (B := 1000 + (n + 1) * 1100) (by omega) (case_52 h4 h2 h9 hL h5 r1 r2 next)
    · rw [hT]; exact wp_le (B := 1000 + (n + 1) * 1100) (by omega) (case_53 h4 h2 h9 hL h5 r1 r2 next)
    · rw [hT]; exact wp_le (B := 1000 + (n + 1) * 1100) (by omega) (case_54 h4 h2 h9 hL h5 r1 r2 next)
    · rw [hT]; exact wp_le (B := 1000 + (n + 1) * 1100) (by omega) (case_55 h4 h2 h9 hL h5 r1 r2 next)
    · rw [hT]; exact wp_le (B := 1000 + (n + 1) * 1100) (by omega) (case_56 h4 h2 h9 hL h5 r1 r2 next)
    · rw [hT]; exact wp_le (B := 1000 + (n + 1) * 1100) (by omega) (case_57 h4 h2 h9 hL h5 r1 r2 next)
    · rw [hT]; exact wp_le (B := 1000 + (n + 1) * 1100) (by omega) (eSeg_s (R := eRelT i.toInt) sg_58 sh_58 (fun h' hm hr => ⟨eRel_mod md_fr hm hr.1, RT_mod md_ft hm hr.2⟩) h4 h2 h9 hL h5 r1 r2 next0)
    · rw [hT]; exact wp_le (B := 1000 + (n + 1) * 1100) (by omega) (eSeg_s (R := eRelT i.toInt) sg_59 sh_59 (fun h' hm hr => ⟨eRel_mod md_fr hm hr.1, RT_mod md_ft hm hr.2⟩) h4 h2 h9 hL h5 r1 r2 next0)
    · rw [hT]; exact wp_le (B := 1000 + (n + 1) * 1100) (by omega) (case_60 h4 h2 h9 hL h5 r1 r2 next)
    · rw [hT]; exact wp_le (B := 1000 + (n + 1) * 1100) (by omega) (eSeg_s (R := eRelT i.toInt) sg_61 sh_61 (fun h' hm hr => ⟨eRel_mod md_fr hm hr.1, RT_mod md_ft hm hr.2⟩) h4 h2 h9 hL h5 r1 r2 next0)
    · rw [hT]; exact wp_le (B := 1000 + (n + 1) * 1100) (by omega) (eSeg_s (R := eRelT i.toInt) sg_61 sh_61 (fun h' hm hr => ⟨eRel_mod md_fr hm hr.1, RT_mod md_ft hm hr.2⟩) h4 h2 h9 hL h5 r1 r2 next0)
    · rw [hT]; exact wp_le (B := 1000 + (n + 1) * 1100) (by omega) (eSeg_s (R := eRelT i.toInt) sg_61 sh_61 (fun h' hm hr => ⟨eRel_mod md_fr hm hr.1, RT_mod md_ft hm hr.2⟩) h4 h2 h9 hL h5 r1 r2 next0)
theorem law_whole {ys : List Int32} (hL : ys.length ≤ 2560) : wLaw ys := by
  have h := law_all hL 2560 0 lv0 hp0 119 1108 (by decide) (by decide) (by decide) ⟨⟨_, rfl⟩, rfl, rfl, rfl, rfl, rfl⟩ ⟨hp0_inv, hp0_sz, hp0_relT⟩ (by decide) (by decide)
  exact wp_le (Nat.le_of_ble_eq_true rfl) h
end
section
/-! THE CLAIM OUT OF ONE WALK OF THE LAW'S BODY. Your part is whole_start (and what it stands on); all else here is the same for every law, but numbers. -/
noncomputable def R_law : String := "KeyWardLaw"
noncomputable def lw_P (b : Addr) (xs : List Int32) (args : Array Value) (s : State) : Prop := args = #[.ref b] ∧ s.IntsAt b xs ∧ xs.length ≤ 2560 ∧ (Jvm.Cond.and given_1 narrow_1).before args s = true
/-- what a walk over the start with the record d0 says of its end, said of the start itself -/
theorem lw_closed {s t : State} {o : Outcome} {d0 : Drawn} {L : List Loc} {k n : Nat} (hd0 : s.drawn.sameBut d0 lw_cs) (hv : ∃ v, o = .returned v) (hW : (s.setDrawn d0).WarmedH t.vm) (hs : (s.setDrawn d0).sameButNew ({ t with vm := s.vm } : State) L k n) : State.butDraws s t lw_cs (fun t1 => Framed s o t1 L k n) := by
  have h2 : t.drawn = d0 := congrArg State.drawn hs.1
  refine ⟨⟨hv, hW, State.sameButNew.setDrawn hs s.drawn⟩, ?_, by decide⟩
  rw [h2]
  exact hd0
noncomputable def lw_Q (_ : Array Value) (s : State) (o : Outcome) (t : State) : Prop := o = .returned (some (.int 1)) ∧ State.butDraws s t lw_cs (fun t1 => Framed s o t1 [] 659737 7057502)
noncomputable def lw_Z (below : List Frame) (a : Array Value) (s : State) : State → Prop := fun t => ∃ o, t.status = .running ∧ Ended t below o ∧ lw_Q a s o t
/-- the law's own end, with 1 on the stack, nothing written that was there before, its room as the claim has it; d0: the record of draws at this point (at the entry s.drawn: begin with 'refine W.base ?_' and 'have hd0 := Drawn.sameBut.refl s.drawn lw_cs') -/
theorem lw_ret {p : Program} {l : Launch} {e : Env} {s : State} {m : MethodId} {below : List Frame} {meth : Method} {c : Code} {b : Nat} {d0 : Drawn} (hd0 : s.drawn.sameBut d0 lw_cs) (hx : p.tables.exec = Jvm.exec) (hb : c.code = code) (hr : meth.sig.returnType = ret) (hlocks : meth.locks = false) {pc : Nat} {H : Heap} {ls : Array Slot} (hdg : decode code pc = .ok (.ireturn, 1)) : W p l e room_1 (s.setDrawn d0) m #[Value.ref b] below meth c H [] 659737 7057502 (lw_Z below #[Value.ref b] s) (F0 m pc ls [.int 1]) := by
  intro T hT X
  obtain ⟨fs, hret, hrun, hended, hW, hframe⟩ := X.leave (v := some (.int 1)) (hlocks := hlocks) (fun h => by rw [hr] at h; cases h)
  have hmeth' : T.vm.method? m = some meth := X.method'
  refine ⟨T.setFrames fs, ?_, .returned (some (.int 1)), hrun, hended, rfl, lw_closed hd0 ⟨_, rfl⟩ hW hframe⟩
  jvm_step X.here [X.here.top, hx, hb, hdg, hmeth', hr, ret, narrow_b1]
  (try refine ⟨rfl, ?_⟩); (try refine ⟨rfl, ?_⟩)
  first | (intro acts; rw [hret _ acts rfl rfl rfl]) | rw [hret _ _ rfl rfl rfl]
  exact Steps.refl _
/-- what holds at the law's entry: the machine, the code, the tables' words (any of lw_tbl by 'hts w (by decide +kernel)'), the script of L ints xs at the cell b, what the Statement gives of the start (any of its parts by flat_of_before) -/
noncomputable def lw_At (p : Program) (s : State) (m : MethodId) (meth : Method) (c : Code) (b L : Nat) (xs : Nat → Int32) : Prop :=
  p.tables.exec = Jvm.exec ∧ c.code = code ∧ meth.sig.returnType = ret ∧ c.maxLocals = 9 ∧ s.vm.findClass R_law = some m.cls ∧ (∀ w ∈ lw_tbl, w.before #[Value.ref b] s = true) ∧ va_X b L xs s s.heap ∧ b < s.heap.size ∧ meth.locks = false ∧ (Jvm.Cond.and given_1 narrow_1).before #[Value.ref b] s = true
end
