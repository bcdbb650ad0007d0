set_option maxHeartbeats 4000000 in
theorem sP_ok {p : Program} {l : Launch} {e : Env} {R : Room} {s : State} {m : MethodId} {args : Array Value} {below : List Frame} {meth : Method} {c : Code} {H : Heap} {locs : List Loc} {cells slots : Nat} {Q : State → Prop}
    {cc : ByteArray} {pc len pc1 nL n : Nat} {i : Instr} {ls : Array Slot} {ad : Nat → Nat} {b : Nat} {lv lv' : sL} {st st' : List Value}
    (hx : p.tables.exec = Jvm.exec) (hb : c.code = cc) (hd : decode cc pc = .ok (i, len)) (hlen : (∃ d lo hi o, i = .tableswitch d lo hi o) ∨ len = sLen i) (h : sP nL i pc lv st = some (pc1, lv', st'))
    (hl : lv_has ls nL (sLc ad b lv)) (hw : ∀ q ∈ lv, sOk n q.2) (hs : ∀ v ∈ st, sOk n v)
    (k : sGo p l e R s m args below meth c H locs cells slots Q nL n ad b pc1 lv' st') : W p l e R s m args below meth c H locs cells slots Q (F0 m pc ls (st.map (sV ad b))) := by
  by_cases hsw : ∃ d lo hi o, i = .tableswitch d lo hi o
  · obtain ⟨d, lo, hi, o, rfl⟩ := hsw
    unfold sP at h; dsimp only at h
    split at h
    · next x r =>
      split at h
      · next h1 =>
        split at h
        · next t ht => cases h; exact lv_tableOut hx hb hd h1 (sTg_of ht) (k ls hl hw (fun v hv => hs v (List.mem_cons_of_mem _ hv)))
        · cases h
      · next h1 =>
        split at h
        · next off ho =>
          split at h
          · next t ht => cases h; exact lv_tableIn hx hb hd (fun q => h1 (Or.inl q)) (fun q => h1 (Or.inr q)) ho (sTg_of ht) (k ls hl hw (fun v hv => hs v (List.mem_cons_of_mem _ hv)))
          · cases h
        · cases h
    · cases h
  · have hlen : len = sLen i := hlen.elim (fun q => absurd q hsw) id
    subst hlen
    cases i with
    | iload j => exact sLdI_ok hl hw hs h (fun x h1 k1 => lv_iload hx hb hd h1 k1) k
    | iload_n j => exact sLdI_ok hl hw hs h (fun x h1 k1 => lv_iload_n hx hb hd rfl h1 k1) k
    | lload j => exact sLdL_ok hl hw hs h (fun x h1 k1 => lv_lload hx hb hd h1 k1) k
    | lload_n j => exact sLdL_ok hl hw hs h (fun x h1 k1 => lv_lload_n hx hb hd rfl h1 k1) k
    | fload j => exact sLdF_ok hl hw hs h (fun x h1 k1 => lv_fload hx hb hd h1 k1) k
    | fload_n j => exact sLdF_ok hl hw hs h (fun x h1 k1 => lv_fload_n hx hb hd rfl h1 k1) k
    | dload j => exact sLdD_ok hl hw hs h (fun x h1 k1 => lv_dload hx hb hd h1 k1) k
    | dload_n j => exact sLdD_ok hl hw hs h (fun x h1 k1 => lv_dload_n hx hb hd rfl h1 k1) k
    | aload j => exact sLdA_ok hl hw hs h (fun x h1 k1 => lv_aload hx hb hd h1 k1) k
    | aload_n j => exact sLdA_ok hl hw hs h (fun x h1 k1 => lv_aload_n hx hb hd rfl h1 k1) k
    | istore j => exact sStI_ok hl hw hs h (fun x r h1 k1 => lv_istore hx hb hd hl h1 rfl k1) k
    | istore_n j => exact sStI_ok hl hw hs h (fun x r h1 k1 => lv_istore_n hx hb hd rfl hl h1 rfl k1) k
    | lstore j => exact sStL_ok hl hw hs h (fun x r h1 k1 => lv_lstore hx hb hd hl h1 rfl k1) k
    | lstore_n j => exact sStL_ok hl hw hs h (fun x r h1 k1 => lv_lstore_n hx hb hd rfl hl h1 rfl k1) k
    | fstore j => exact sStF_ok hl hw hs h (fun x r h1 k1 => lv_fstore hx hb hd hl h1 rfl k1) k
    | fstore_n j => exact sStF_ok hl hw hs h (fun x r h1 k1 => lv_fstore_n hx hb hd rfl hl h1 rfl k1) k
    | dstore j => exact sStD_ok hl hw hs h (fun x r h1 k1 => lv_dstore hx hb hd hl h1 rfl k1) k
    | dstore_n j => exact sStD_ok hl hw hs h (fun x r h1 k1 => lv_dstore_n hx hb hd rfl hl h1 rfl k1) k
    | astore j => exact sStA_ok hl hw hs h (fun x r h1 k1 => lv_astore hx hb hd hl h1 rfl k1) k
    | astore_n j => exact sStA_ok hl hw hs h (fun x r h1 k1 => lv_astore_n hx hb hd rfl hl h1 rfl k1) k
    | iconst j => cases h; exact lv_iconst hx hb hd rfl (sGo_push hl hw hs (by exact True.intro) k)
    | bipush j => cases h; exact lv_bipush hx hb hd rfl (sGo_push hl hw hs (by exact True.intro) k)
    | sipush j => cases h; exact lv_sipush hx hb hd rfl (sGo_push hl hw hs (by exact True.intro) k)
    | lconst j => cases h; exact lv_lconst hx hb hd rfl (sGo_push hl hw hs (by exact True.intro) k)
    | fconst j =>
      unfold sP at h; dsimp only at h
      split at h
      · next e => subst e; cases h; exact lv_fconst0 hx hb hd (sGo_push hl hw hs (by exact True.intro) k)
      · cases h
    | dconst j =>
      unfold sP at h; dsimp only at h
      split at h
      · next e => subst e; cases h; exact lv_dconst0 hx hb hd (sGo_push hl hw hs (by exact True.intro) k)
      · cases h
    | goto off =>
      unfold sP at h; dsimp only at h
      split at h
      · next t ht => cases h; exact lv_goto hx hb hd (sTg_of ht) (k ls hl hw hs)
      · cases h
    | iinc j n =>
      unfold sP at h; dsimp only at h
      split at h
      · next x hv =>
        split at h
        · next hj =>
          cases h
          have hm : (j, Value.int x) ∈ sLc ad b lv := List.mem_map.mpr ⟨(j, .int x), sLk_mem hv, rfl⟩
          obtain ⟨q, hq⟩ := List.getElem?_of_mem hm
          exact lv_iinc hx hb hd hl hq rfl hj (sS1_c j (.int (x + Int32.ofInt n)) lv) (fun ls' h' => k ls' h' (sOk_s1 hw trivial) hs)
        · cases h
      · cases h
    | ifCond cd off =>
      cases cd with
      | eq => exact sIf_ok (cd := fun x => x = 0) (fun _ => inferInstance) hl hw hs h (fun x r t ht k1 k2 => lv_if_eq hx hb hd ht k1 k2) k
      | ne => exact sIf_ok (cd := fun x => ¬ x = 0) (fun _ => inferInstance) hl hw hs h (fun x r t ht k1 k2 => lv_if_ne hx hb hd ht k1 (fun q => k2 (fun z => z q))) k
      | lt => exact sIf_ok (cd := fun x => x < 0) (fun _ => inferInstance) hl hw hs h (fun x r t ht k1 k2 => lv_if_lt hx hb hd ht k1 k2) k
      | ge => exact sIf_ok (cd := fun x => 0 ≤ x) (fun _ => inferInstance) hl hw hs h (fun x r t ht k1 k2 => lv_if_ge hx hb hd ht k1 k2) k
      | gt => exact sIf_ok (cd := fun x => 0 < x) (fun _ => inferInstance) hl hw hs h (fun x r t ht k1 k2 => lv_if_gt hx hb hd ht k1 k2) k
      | le => exact sIf_ok (cd := fun x => x ≤ 0) (fun _ => inferInstance) hl hw hs h (fun x r t ht k1 k2 => lv_if_le hx hb hd ht k1 k2) k
    | if_icmp cd off =>
      cases cd with
      | eq => exact sIc_ok (cd := fun x y => x = y) (fun _ _ => inferInstance) hl hw hs h (fun x y r t ht k1 k2 => lv_icmp_eq hx hb hd ht k1 k2) k
      | ne => exact sIc_ok (cd := fun x y => ¬ x = y) (fun _ _ => inferInstance) hl hw hs h (fun x y r t ht k1 k2 => lv_icmp_ne hx hb hd ht k1 (fun q => k2 (fun z => z q))) k
      | lt => exact sIc_ok (cd := fun x y => x < y) (fun _ _ => inferInstance) hl hw hs h (fun x y r t ht k1 k2 => lv_icmp_lt hx hb hd ht k1 k2) k
      | ge => exact sIc_ok (cd := fun x y => y ≤ x) (fun _ _ => inferInstance) hl hw hs h (fun x y r t ht k1 k2 => lv_icmp_ge hx hb hd ht k1 k2) k
      | gt => exact sIc_ok (cd := fun x y => y < x) (fun _ _ => inferInstance) hl hw hs h (fun x y r t ht k1 k2 => lv_icmp_gt hx hb hd ht k1 k2) k
      | le => exact sIc_ok (cd := fun x y => x ≤ y) (fun _ _ => inferInstance) hl hw hs h (fun x y r t ht k1 k2 => lv_icmp_le hx hb hd ht k1 k2) k
    | iadd => exact sBi_ok hl hw hs h (fun x y r k1 => lv_iadd hx hb hd k1) k
    | isub => exact sBi_ok hl hw hs h (fun x y r k1 => lv_isub hx hb hd k1) k
    | imul => exact sBi_ok hl hw hs h (fun x y r k1 => lv_imul hx hb hd k1) k
    | iand => exact sBi_ok hl hw hs h (fun x y r k1 => lv_iand hx hb hd k1) k
    | ior => exact sBi_ok hl hw hs h (fun x y r k1 => lv_ior hx hb hd k1) k
    | ixor => exact sBi_ok hl hw hs h (fun x y r k1 => lv_ixor hx hb hd k1) k
    | ishl => exact sBi_ok hl hw hs h (fun x y r k1 => lv_ishl hx hb hd k1) k
    | ishr => exact sBi_ok hl hw hs h (fun x y r k1 => lv_ishr hx hb hd k1) k
    | iushr => exact sBi_ok hl hw hs h (fun x y r k1 => lv_iushr hx hb hd rfl k1) k
    | ladd => exact sBl_ok hl hw hs h (fun x y r k1 => lv_ladd hx hb hd k1) k
    | lsub => exact sBl_ok hl hw hs h (fun x y r k1 => lv_lsub hx hb hd k1) k
    | lmul => exact sBl_ok hl hw hs h (fun x y r k1 => lv_lmul hx hb hd k1) k
    | land => exact sBl_ok hl hw hs h (fun x y r k1 => lv_land hx hb hd k1) k
    | lor => exact sBl_ok hl hw hs h (fun x y r k1 => lv_lor hx hb hd k1) k
    | lxor => exact sBl_ok hl hw hs h (fun x y r k1 => lv_lxor hx hb hd k1) k
    | lshl => exact sBs_ok hl hw hs h (fun x y r k1 => lv_lshl hx hb hd rfl k1) k
    | lshr => exact sBs_ok hl hw hs h (fun x y r k1 => lv_lshr hx hb hd rfl k1) k
    | lushr => exact sBs_ok hl hw hs h (fun x y r k1 => lv_lushr hx hb hd rfl k1) k
    | idiv =>
      unfold sP at h; dsimp only at h
      split at h
      · next y x r =>
        split at h
        · cases h
        · next hy => cases h; exact lv_idiv hx hb hd hy (sGo_pop2 hl hw hs (by exact True.intro) k)
      · cases h
    | irem =>
      unfold sP at h; dsimp only at h
      split at h
      · next y x r =>
        split at h
        · cases h
        · next hy => cases h; exact lv_irem hx hb hd hy (sGo_pop2 hl hw hs (by exact True.intro) k)
      · cases h
    | lcmp =>
      unfold sP at h; dsimp only at h
      split at h
      · next y x r => cases h; exact W.lcmp hx hb hd (sGo_pop2 hl hw hs (by exact True.intro) k)
      · cases h
    | fcmp op =>
      unfold sP at h; dsimp only at h
      split at h
      · next y x r => cases h; exact lv_fcmp hx hb hd (sGo_pop2 hl hw hs (by exact True.intro) k)
      · cases h
    | dcmp op =>
      unfold sP at h; dsimp only at h
      split at h
      · next y x r => cases h; exact lv_dcmp hx hb hd (sGo_pop2 hl hw hs (by exact True.intro) k)
      · cases h
    | fdiv =>
      unfold sP at h; dsimp only at h
      split at h
      · next y x r =>
        split at h
        · next hy => cases h; exact lv_fdiv hx hb hd hy (sGo_pop2 hl hw hs (by exact True.intro) k)
        · cases h
      · cases h
    | ddiv =>
      unfold sP at h; dsimp only at h
      split at h
      · next y x r =>
        split at h
        · next hy => cases h; exact lv_ddiv hx hb hd hy (sGo_pop2 hl hw hs (by exact True.intro) k)
        · cases h
      · cases h
    | ineg =>
      unfold sP sCv at h; dsimp only at h
      split at h
      · next v r =>
        split at h
        · next w hv =>
          cases h
          unfold vNeg at hv
          split at hv
          · cases hv; exact lv_ineg hx hb hd (sGo_pop1 hl hw hs (by exact True.intro) k)
          · cases hv
        · cases h
      · cases h
    | i2l =>
      unfold sP sCv at h; dsimp only at h
      split at h
      · next v r =>
        split at h
        · next w hv =>
          cases h
          unfold vI2l at hv
          split at hv
          · cases hv; exact lv_i2l hx hb hd rfl (sGo_pop1 hl hw hs (by exact True.intro) k)
          · cases hv
        · cases h
      · cases h
    | l2i =>
      unfold sP sCv at h; dsimp only at h
      split at h
      · next v r =>
        split at h
        · next w hv =>
          cases h
          unfold vL2i at hv
          split at hv
          · cases hv; exact lv_l2i hx hb hd rfl (sGo_pop1 hl hw hs (by exact True.intro) k)
          · cases hv
        · cases h
      · cases h
    | i2f =>
      unfold sP sCv at h; dsimp only at h
      split at h
      · next v r =>
        split at h
        · next w hv =>
          cases h
          unfold vI2f at hv
          split at hv
          · cases hv; exact lv_i2f hx hb hd (sGo_pop1 hl hw hs (by exact True.intro) k)
          · cases hv
        · cases h
      · cases h
    | i2d =>
      unfold sP sCv at h; dsimp only at h
      split at h
      · next v r =>
        split at h
        · next w hv =>
          cases h
          unfold vI2d at hv
          split at hv
          · cases hv; exact lv_i2d hx hb hd (sGo_pop1 hl hw hs (by exact True.intro) k)
          · cases hv
        · cases h
      · cases h
    | f2d =>
      unfold sP sCv at h; dsimp only at h
      split at h
      · next v r =>
        split at h
        · next w hv =>
          cases h
          unfold vF2d at hv
          split at hv
          · split at hv
            · next hy => cases hv; exact lv_f2d hx hb hd hy (sGo_pop1 hl hw hs (by exact True.intro) k)
            · cases hv
          · cases hv
        · cases h
      · cases h
    | dup =>
      unfold sP at h; dsimp only at h
      split at h
      · next v r =>
        split at h
        · next hv =>
          cases h
          exact lv_dup hx hb hd ((sV_cat ad b v).trans hv) (k ls hl hw (fun w hq => (List.mem_cons.mp hq).elim (fun e => by rw [e]; exact hs v List.mem_cons_self) (hs w)))
        · cases h
      · cases h
    | dup2 =>
      unfold sP at h; dsimp only at h
      split at h
      · next v w r =>
        split at h
        · next hv =>
          cases h
          refine lv_dup2_11 hx hb hd ((sV_cat ad b v).trans hv.1) ((sV_cat ad b w).trans hv.2) (k ls hl hw (fun z hq => ?_))
          rcases List.mem_cons.mp hq with e | hq
          · rw [e]; exact hs v List.mem_cons_self
          · rcases List.mem_cons.mp hq with e | hq
            · rw [e]; exact hs w (List.mem_cons_of_mem _ List.mem_cons_self)
            · exact hs z hq
        · cases h
      · cases h
    | pop =>
      unfold sP at h; dsimp only at h
      split at h
      · next v r =>
        split at h
        · next hv =>
          cases h
          exact lv_pop hx hb hd ((sV_cat ad b v).trans hv) (k ls hl hw (fun w hq => hs w (List.mem_cons_of_mem _ hq)))
        · cases h
      · cases h
    | pop2 =>
      unfold sP at h; dsimp only at h
      split at h
      · next v r =>
        split at h
        · next hv =>
          cases h
          exact lv_pop2_2 hx hb hd ((sV_cat ad b v).trans hv) (k ls hl hw (fun w hq => hs w (List.mem_cons_of_mem _ hq)))
        · cases h
      · cases h
    | tableswitch d lo hi o => exact absurd ⟨d, lo, hi, o, rfl⟩ hsw
    | _ => cases h
