section SM
variable {p : Program} {l : Launch} {e : Env} {R : Room} {s : State} {m : MethodId} {args : Array Value} {below : List Frame} {meth : Method} {c : Code} {Q : State → Prop}
variable {cc : ByteArray} {pc pc1 nL a1 a2 cells slots n0 b : Nat} {lv lv' : sL} {st st' : List Value} {h0 h1 : sH} {D : va_G} {cA : Nat → ClassId} {A : Nat → Prop} {ad0 : Nat → Nat} {own : String} {Ts : List Cond} {xs : Option (List Int32)} {isI : Bool}
theorem sJ_tail {v : Value} {r : List Value} {n : Nat} (hs : ∀ w ∈ v :: r, sOk n w) : ∀ w ∈ r, sOk n w := fun w h => hs w (List.mem_cons_of_mem _ h)
theorem sJ_cons {v : Value} {r : List Value} {n : Nat} (hv : sOk n v) (hs : ∀ w ∈ r, sOk n w) : ∀ w ∈ v :: r, sOk n w := fun w h => (List.mem_cons.mp h).elim (fun e => by rw [e]; exact hv) (hs w)
theorem sInv_set {ad : Nat → Nat} {H1 H0 : Heap} {locs1 : List Loc} {k : Nat} {d : sC} {ee : va_E} (hO : sOkH h0.length h0) (hn : n0 ≤ h0.length) (hag : ∀ k, k < n0 → ad k = ad0 k) (hd : sOkC h0.length d) (he : ee = sCell ad cA b d)
    (hP : va_P D sCl ((sW ad cA b h0).set k (ad k, ee)) H1) (hD : va_D A ((sW ad cA b h0).set k (ad k, ee))) (hS : va_S A H0 H1 locs1) : sInv D cA b A H0 n0 ad0 ad (h0.set k d) H1 locs1 := by
  subst he
  rw [sW_set] at hP hD
  refine ⟨hP, hD, hS, ?_, by rw [List.length_set]; exact hn, hag⟩
  rw [List.length_set]
  exact sOkH_set hO hd
theorem sLen_set {v : List Value} {k : Nat} {d : sC} (h : ∀ w ∈ v, sOk h0.length w) : ∀ w ∈ v, sOk (h0.set k d).length w := by rw [List.length_set]; exact h
theorem sLen_setL {k : Nat} {d : sC} (h : ∀ q ∈ lv, sOk h0.length q.2) : ∀ q ∈ lv, sOk (h0.set k d).length q.2 := by rw [List.length_set]; exact h
set_option maxHeartbeats 4000000 in
theorem sHp_ok {i : Instr} {len : Nat} (hx : p.tables.exec = Jvm.exec) (hb : c.code = cc) (hown : s.vm.findClass own = some m.cls) (hts : ∀ w ∈ Ts, w.before args s = true) (hK : va_K D sCl (sTys cA) s)
    (hinit : isI = true → meth.name = "<init>") (hcls : ∀ ci, ci < 10 → ∀ w ∈ u_ws (sNm ci) (sT4 ci) (sNf ci), w ∈ Ts) (hscr : sScr A b xs s)
    (hd : decode cc pc = .ok (i, len)) (hlen : len = sLen i) (hwd : sHw Ts own isI i a1 a2 = true) (h : sHp xs i a1 a2 pc lv st h0 = some (pc1, lv', st', h1))
    (k : sJ p l e R s m args below meth c Q nL D cA b A n0 ad0 pc1 lv' st' h1 cells slots) : sJ p l e R s m args below meth c Q nL D cA b A n0 ad0 pc lv st h0 cells slots := by
  subst hlen
  cases i with
  | getfield ix =>
    unfold sHp at h; dsimp only at h
    split at h
    · next a r =>
      split at h
      · next q hq =>
        split at h
        · next e1 =>
          split at h
          · next v hv =>
            cases h
            intro ad H locs ls hI hl hw hs
            obtain ⟨hP, hD, hS, hO, hn, hag⟩ := id hI
            simp only [sHw, Bool.and_eq_true, decide_eq_true_eq] at hwd
            obtain ⟨h10, hk, hlk⟩ := hwd
            subst e1
            exact va_get (D := D) (ci := q.1) (v := sV ad b v) (C := sNm q.1) (T := sT4 q.1) (N := sNf q.1) (fs := q.2.map (sV ad b)) hx hb hts (hcls _ h10) hown hK hP a (sW_get hq) (sCl_at _ h10) a2 hk (hts _ hlk) (fun _ h9 => h9) (by rw [List.getElem?_map, hv]; rfl) hd
              (k ad H locs ls hI hl hw (sJ_cons (sGet_ok hO hq v (List.mem_of_getElem? hv)) (sJ_tail hs)))
          · cases h
        · cases h
      · cases h
    · cases h
  | putfield ix =>
    unfold sHp at h; dsimp only at h
    split at h
    · next v a r =>
      split at h
      · next q hq =>
        split at h
        · next e1 =>
          cases h
          obtain ⟨e1, hlt, hfit⟩ := e1
          intro ad H locs ls hI hl hw hs
          obtain ⟨hP, hD, hS, hO, hn, hag⟩ := id hI
          simp only [sHw, Bool.and_eq_true, Bool.or_eq_true, decide_eq_true_eq] at hwd
          obtain ⟨h10, hk, hlk, hfin⟩ := hwd
          subst e1
          have hnf := narrow_fit (ad := ad) (b := b) hfit
          have hvs : sOk h0.length v := hs v List.mem_cons_self
          have hc : sOkC h0.length (.inr (q.1, q.2.set a2 v)) := sVs_set (sGet_ok hO hq) hvs
          have he : (Sum.inr (q.1, (q.2.map (sV ad b)).set a2 (sV ad b v)) : va_E) = sCell ad cA b (.inr (q.1, q.2.set a2 v)) := by
            show _ = Sum.inr (q.1, (q.2.set a2 v).map (sV ad b))
            rw [List.map_set]
          have kk : ∀ (H1 : Heap) (locs1 : List Loc), va_P D sCl ((sW ad cA b h0).set a (ad a, .inr (q.1, (q.2.map (sV ad b)).set a2 (sV ad b v)))) H1 → va_D A ((sW ad cA b h0).set a (ad a, .inr (q.1, (q.2.map (sV ad b)).set a2 (sV ad b v)))) → va_S A s.heap H1 locs1 → W p l e R s m args below meth c H1 locs1 cells slots Q (F0 m (pc + 3) ls (st'.map (sV ad b))) := fun H1 locs1 hP1 hD1 hS1 =>
            k ad H1 locs1 ls (sInv_set hO hn hag hc he hP1 hD1 hS1) hl (sLen_setL hw) (sLen_set (sJ_tail (sJ_tail hs)))
          by_cases hf : (sT4 q.1 a2).2.2.2 = false
          · exact va_put (D := D) (ci := q.1) (v := sV ad b v) (C := sNm q.1) (T := sT4 q.1) (N := sNf q.1) (fs := q.2.map (sV ad b)) hx hb hts (hcls _ h10) (sFt q.1) (sFt_ok _ h10) (sNm_ok _ h10) hown hK hP hD hS a (sW_get hq) (sCl_at _ h10) a2 hk (hts _ hlk) (fun _ h9 => h9) hf (sFt_ok _ h10 _ hk) hnf.1 hnf.2 (by rw [List.length_map]; exact hlt) hd kk
          · obtain ⟨hi, hdecl⟩ := hfin.resolve_left hf
            exact va_putF (D := D) (ci := q.1) (v := sV ad b v) (C := sNm q.1) (T := sT4 q.1) (N := sNf q.1) (fs := q.2.map (sV ad b)) hx hb hts (hcls _ h10) (sFt q.1) (sFt_ok _ h10) (sNm_ok _ h10) hown hK hP hD hS a (sW_get hq) (sCl_at _ h10) a2 hk (hts _ hlk) (fun _ h9 => h9)
              (eq_true_of_ne_false hf) (hinit hi) hdecl (sFt_ok _ h10 _ hk) hnf.1 hnf.2 (by rw [List.length_map]; exact hlt) hd kk
        · cases h
      · cases h
    · cases h
  | iaload =>
    unfold sHp at h; dsimp only at h
    split at h
    · next i a r =>
      split at h
      · next w hq =>
        split at h
        · next e1 =>
          cases h
          intro ad H locs ls hI hl hw hs
          obtain ⟨hP, hD, hS, hO, hn, hag⟩ := id hI
          obtain ⟨t0, ht⟩ := sTys_at (cA := cA) (t := 0) (by decide)
          exact va_iald (cA := cA 0) (n := w.length) (f := fun j => iOf (w.getD j .null)) hx hb hK hP a t0 (sW_get hq) ht (sIn_ok e1) hd (k ad H locs ls hI hl hw (sJ_cons (by exact True.intro) (sJ_tail (sJ_tail hs))))
        · cases h
      · cases h
    · next i a r =>
      cases xs with
      | none => cases h
      | some ys =>
        dsimp only at h
        split at h
        · next e1 =>
          cases h
          intro ad H locs ls hI hl hw hs
          obtain ⟨hX, hbl, hbA⟩ := hscr ys rfl
          exact va_sld hx hb hX hbl hbA hI.2.2.1 (sIn_ok e1) hd (k ad H locs ls hI hl hw (sJ_cons (by exact True.intro) (sJ_tail (sJ_tail hs))))
        · cases h
    · cases h
  | baload =>
    unfold sHp at h; dsimp only at h
    split at h
    · next i a r =>
      split at h
      · next w hq =>
        split at h
        · next e1 =>
          cases h
          intro ad H locs ls hI hl hw hs
          obtain ⟨hP, hD, hS, hO, hn, hag⟩ := id hI
          obtain ⟨t0, ht⟩ := sTys_at (cA := cA) (t := 1) (by decide)
          exact va_zald (cA := cA 1) (n := w.length) (f := fun j => iOf (w.getD j .null)) hx hb hK hP a t0 (sW_get hq) ht (sIn_ok e1) hd (k ad H locs ls hI hl hw (sJ_cons (by exact True.intro) (sJ_tail (sJ_tail hs))))
        · cases h
      · cases h
    · cases h
  | laload =>
    unfold sHp at h; dsimp only at h
    split at h
    · next i a r =>
      split at h
      · next w hq =>
        split at h
        · next e1 =>
          cases h
          intro ad H locs ls hI hl hw hs
          obtain ⟨hP, hD, hS, hO, hn, hag⟩ := id hI
          obtain ⟨t0, ht⟩ := sTys_at (cA := cA) (t := 2) (by decide)
          exact va_lald (cA := cA 2) (n := w.length) (f := fun j => lOf (w.getD j .null)) hx hb hK hP a t0 (sW_get hq) ht (sIn_ok e1) hd (k ad H locs ls hI hl hw (sJ_cons (by exact True.intro) (sJ_tail (sJ_tail hs))))
        · cases h
      · cases h
    · cases h
  | daload =>
    unfold sHp at h; dsimp only at h
    split at h
    · next i a r =>
      split at h
      · next w hq =>
        split at h
        · next e1 =>
          cases h
          intro ad H locs ls hI hl hw hs
          obtain ⟨hP, hD, hS, hO, hn, hag⟩ := id hI
          obtain ⟨t0, ht⟩ := sTys_at (cA := cA) (t := 3) (by decide)
          exact va_dald (cA := cA 3) (n := w.length) (f := fun j => dOf (w.getD j .null)) hx hb hK hP a t0 (sW_get hq) ht (sIn_ok e1) hd (k ad H locs ls hI hl hw (sJ_cons (by exact True.intro) (sJ_tail (sJ_tail hs))))
        · cases h
      · cases h
    · cases h
  | aaload =>
    unfold sHp at h; dsimp only at h
    split at h
    · next i a r =>
      split at h
      · next t w hq =>
        split at h
        · next e1 =>
          cases h
          intro ad H locs ls hI hl hw hs
          obtain ⟨hP, hD, hS, hO, hn, hag⟩ := id hI
          obtain ⟨t0, ht⟩ := sTys_at (cA := cA) e1.2
          have hin := sIn_ok e1.1
          have hlt := sIn_lt e1.1
          have hrd : (arrV (cA (t + 4)) w.length (fun j => va_rf (rAd ad (w.getD j .null)))).slots[i.toNatClampNeg]? = some (sV ad b (rOf (w.getD i.toNatClampNeg .null))) := by rw [arrV_read _ _ hlt, rAd_rf ad b]
          refine W.aald (v := sV ad b (rOf (w.getD i.toNatClampNeg .null))) (ty := sTy (t + 4)) hx hb (hP a _ (sW_get hq)) ((hK.2 t0 _ ht).1 w.length (fun j => va_rf (rAd ad (w.getD j .null)))) (by cases t <;> rfl) (fun q => by cases q) (by show ¬ (i < 0 ∨ (arrV _ _ _).slots.size ≤ _); rw [arrV_size]; exact hin) hrd rfl rfl hd ?_
          refine k ad H locs ls hI hl hw (sJ_cons ?_ (sJ_tail (sJ_tail hs)))
          have hg := getD_ok (sGet_ok hO hq) i.toNatClampNeg
          revert hg
          show sOk h0.length (w.getD i.toNatClampNeg .null) → _
          cases w.getD i.toNatClampNeg .null <;> intro hg <;> first | exact hg | exact True.intro
        · cases h
      · cases h
    · cases h
  | iastore =>
    unfold sHp at h; dsimp only at h
    split at h
    · next x i a r =>
      split at h
      · next w hq =>
        split at h
        · next e1 =>
          cases h
          intro ad H locs ls hI hl hw hs
          obtain ⟨hP, hD, hS, hO, hn, hag⟩ := id hI
          obtain ⟨t0, ht⟩ := sTys_at (cA := cA) (t := 0) (by decide)
          refine va_iast (cA := cA 0) (n := w.length) (f := fun j => iOf (w.getD j .null)) hx hb hK hP hD hS a t0 (sW_get hq) ht (sIn_ok e1) hd (fun H1 locs1 hP1 hD1 hS1 => ?_)
          exact k ad H1 locs1 ls (sInv_set hO hn hag (d := .inl (0, w.set i.toNatClampNeg (.int x))) (sVs_set (sGet_ok hO hq) (by exact True.intro)) (by rw [sCt0_set (ad := ad) (sIn_lt e1)]; rfl) hP1 hD1 hS1) hl (sLen_setL hw) (sLen_set (sJ_tail (sJ_tail (sJ_tail hs))))
        · cases h
      · cases h
    · cases h
  | bastore =>
    unfold sHp at h; dsimp only at h
    split at h
    · next x i a r =>
      split at h
      · next w hq =>
        split at h
        · next e1 =>
          cases h
          intro ad H locs ls hI hl hw hs
          obtain ⟨hP, hD, hS, hO, hn, hag⟩ := id hI
          obtain ⟨t0, ht⟩ := sTys_at (cA := cA) (t := 1) (by decide)
          obtain ⟨e1, hz⟩ := e1
          refine va_zast (cA := cA 1) (n := w.length) (f := fun j => iOf (w.getD j .null)) hx hb hK hP hD hS a t0 (sW_get hq) ht (sIn_ok e1) hd (fun H1 locs1 hP1 hD1 hS1 => ?_)
          have hz2 : vp_nar .boolean x = x := by rcases hz with rfl | rfl <;> decide +kernel
          rw [hz2] at hP1 hD1
          exact k ad H1 locs1 ls (sInv_set hO hn hag (d := .inl (1, w.set i.toNatClampNeg (.int x))) (sVs_set (sGet_ok hO hq) (by exact True.intro)) (by rw [sCt1_set (ad := ad) (sIn_lt e1)]; rfl) hP1 hD1 hS1) hl (sLen_setL hw) (sLen_set (sJ_tail (sJ_tail (sJ_tail hs))))
        · cases h
      · cases h
    · cases h
  | lastore =>
    unfold sHp at h; dsimp only at h
    split at h
    · next x i a r =>
      split at h
      · next w hq =>
        split at h
        · next e1 =>
          cases h
          intro ad H locs ls hI hl hw hs
          obtain ⟨hP, hD, hS, hO, hn, hag⟩ := id hI
          obtain ⟨t0, ht⟩ := sTys_at (cA := cA) (t := 2) (by decide)
          refine va_last (cA := cA 2) (n := w.length) (f := fun j => lOf (w.getD j .null)) hx hb hK hP hD hS a t0 (sW_get hq) ht (sIn_ok e1) hd (fun H1 locs1 hP1 hD1 hS1 => ?_)
          exact k ad H1 locs1 ls (sInv_set hO hn hag (d := .inl (2, w.set i.toNatClampNeg (.long x))) (sVs_set (sGet_ok hO hq) (by exact True.intro)) (by rw [sCt2_set (ad := ad) (sIn_lt e1)]; rfl) hP1 hD1 hS1) hl (sLen_setL hw) (sLen_set (sJ_tail (sJ_tail (sJ_tail hs))))
        · cases h
      · cases h
    · cases h
  | dastore =>
    unfold sHp at h; dsimp only at h
    split at h
    · next x i a r =>
      split at h
      · next w hq =>
        split at h
        · next e1 =>
          cases h
          intro ad H locs ls hI hl hw hs
          obtain ⟨hP, hD, hS, hO, hn, hag⟩ := id hI
          obtain ⟨t0, ht⟩ := sTys_at (cA := cA) (t := 3) (by decide)
          refine va_dast (cA := cA 3) (n := w.length) (f := fun j => dOf (w.getD j .null)) hx hb hK hP hD hS a t0 (sW_get hq) ht (sIn_ok e1) hd (fun H1 locs1 hP1 hD1 hS1 => ?_)
          exact k ad H1 locs1 ls (sInv_set hO hn hag (d := .inl (3, w.set i.toNatClampNeg (.double x))) (sVs_set (sGet_ok hO hq) (by exact True.intro)) (by rw [sCt3_set (ad := ad) (sIn_lt e1)]; rfl) hP1 hD1 hS1) hl (sLen_setL hw) (sLen_set (sJ_tail (sJ_tail (sJ_tail hs))))
        · cases h
      · cases h
    · cases h
  | aastore =>
    unfold sHp at h; dsimp only at h
    split at h
    · next x i a r =>
      split at h
      · next t w hq =>
        split at h
        · next q hq2 =>
          split at h
          · next e1 =>
            cases h
            intro ad H locs ls hI hl hw hs
            obtain ⟨hP, hD, hS, hO, hn, hag⟩ := id hI
            obtain ⟨e1, e2, e3, e4⟩ := e1
            obtain ⟨t0, ht⟩ := sTys_at (cA := cA) e2
            subst e3
            refine va_astq (cA := cA (q.1 + 5)) (r := (sNm q.1, sT4 q.1, sNf q.1)) (n := w.length) (f := fun j => rAd ad (w.getD j .null)) hx hb hK hP hD hS a t0 x q.1 (sW_get hq) ht (sW_get hq2) (sCl_at _ e4) (sIn_ok e1) hd (fun H1 locs1 hP1 hD1 hS1 => ?_)
            exact k ad H1 locs1 ls (sInv_set hO hn hag (d := .inl (q.1 + 5, w.set i.toNatClampNeg (.ref x))) (sVs_set (sGet_ok hO hq) (hs (.ref x) List.mem_cons_self)) (by rw [sCt4_set (ad := ad) (t := q.1 + 1) (sIn_lt e1)]; rfl) hP1 hD1 hS1) hl (sLen_setL hw) (sLen_set (sJ_tail (sJ_tail (sJ_tail hs))))
          · cases h
        · cases h
      · cases h
    · cases h
  | arraylength =>
    unfold sHp at h; dsimp only at h
    split at h
    · next a r =>
      split at h
      · next q hq =>
        split at h
        · next e1 =>
          cases h
          intro ad H locs ls hI hl hw hs
          obtain ⟨hP, hD, hS, hO, hn, hag⟩ := id hI
          obtain ⟨t0, ht⟩ := sTys_at (cA := cA) e1
          exact va_alen (cA := cA q.1) (x := sCt ad q.1 q.2) (v := Int32.ofNat q.2.length) hx hb hK hP a t0 (sW_get hq) ht (by rw [sCt_len]) hd (k ad H locs ls hI hl hw (sJ_cons (by exact True.intro) (sJ_tail hs)))
        · cases h
      · cases h
    · next a r =>
      cases xs with
      | none => cases h
      | some ys =>
        cases h
        intro ad H locs ls hI hl hw hs
        obtain ⟨hX, hbl, hbA⟩ := hscr ys rfl
        exact va_slen hx hb hX hbl hbA hI.2.2.1 hd (k ad H locs ls hI hl hw (sJ_cons (by exact True.intro) (sJ_tail hs)))
    · cases h
  | ldc ix =>
    cases h
    intro ad H locs ls hI hl hw hs
    simp only [sHw, decide_eq_true_eq] at hwd
    exact lv_ldc hx hb hown (hts _ hwd) hd (k ad H locs ls hI hl hw (sJ_cons (by exact True.intro) hs))
  | ldc_w ix =>
    cases h
    intro ad H locs ls hI hl hw hs
    simp only [sHw, decide_eq_true_eq] at hwd
    have kk := k ad H locs ls hI hl hw (sJ_cons (by exact True.intro) hs)
    intro T hT X
    obtain ⟨t, x1, x2⟩ := kk T hT X
    exact ⟨t, va_ldcwI X hx hown (hts _ hwd) (g := F0 m pc ls (st.map (sV ad b))) rfl (by rw [hb]; exact hd) t x1, x2⟩
  | ldc2_w ix =>
    cases h
    intro ad H locs ls hI hl hw hs
    simp only [sHw, decide_eq_true_eq] at hwd
    exact lv_ldc2 hx hb hown (hts _ hwd) hd (k ad H locs ls hI hl hw (sJ_cons (by exact True.intro) hs))
  | _ => cases h
end SM
