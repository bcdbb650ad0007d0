/-! the law's walk out of its run by the pure machine -/
theorem sArrK {s : State} {ty : FieldType} {cA : ClassId} {kA : Class} {comp : ClassId} (h1 : s.vm.classes[cA]? = some kA) (h2 : kA.kind = .array comp ty) : ArrOfT s cA ty := fun N z => ⟨(fun k h => by cases h), kA, h1, comp, h2⟩
theorem sArrP {args : Array Value} {s : State} {ty : FieldType} (hp : ∀ C, ty ≠ .object C) (h : (Cond.arrayClass ty).before args s = true) : ∃ cA, ArrOfT s cA ty ∧ va_RA s cA ty := by
  obtain ⟨c, k, comp, h1, h2, h3⟩ := Cond.arrayClass_spec h
  refine ⟨c, sArrK h2 h3, ?_⟩
  cases ty <;> first | exact h1 | exact absurd rfl (hp _)
theorem sArrO {args : Array Value} {s : State} {C : String} (h : (Cond.arrayOver (.object C)).before args s = true) : ∃ cA, ArrOfT s cA (.object C) ∧ va_RA s cA (.object C) := by
  obtain ⟨comp, c, k, h1, h2, h3, h4, h5⟩ := Cond.arrayOver_spec h
  exact ⟨c, sArrK h3 h4, k, comp, h3, h4, h1, h5⟩
theorem sArrA {args : Array Value} {s : State} {ty : FieldType} (h : (Cond.arrayOver (.array ty)).before args s = true) : ∃ cA, ArrOfT s cA (.array ty) ∧ va_RA s cA (.array ty) := by
  obtain ⟨comp, c, k, h1, h2, h3, h4, h5⟩ := arrayOver_specB h
  exact ⟨c, sArrK h3 h4, h5⟩
theorem sPosL {α : Type} {L : List α} {T : List Cond} (g : α → Cond) (ps : List Nat) (h : L.map g = ps.filterMap (fun i => T[i]?)) : ∀ q ∈ L, g q ∈ T := by
  intro q hq
  have h1 : g q ∈ L.map g := List.mem_map.mpr ⟨q, hq, rfl⟩
  rw [h] at h1
  obtain ⟨i, -, hi⟩ := List.mem_filterMap.mp h1
  exact List.mem_of_getElem? hi
theorem sPos1 {T : List Cond} {w : Cond} (i : Nat) (h : T[i]? = some w) : w ∈ T := List.mem_of_getElem? h
theorem sStr_1 : ∀ q ∈ sSS, Cond.exactly (.string q.1 q.2.1) "java/lang/String" ∈ flatC (Jvm.Cond.and given_1 narrow_1) := sPosL (fun (q : String × Nat × String) => Cond.exactly (.string q.1 q.2.1) "java/lang/String") [101, 144, 173, 222, 245, 272, 292, 313, 337, 365, 412, 387, 447, 474, 494, 540, 568, 593, 623, 669, 699, 744, 784, 806, 828, 861, 883, 909, 952, 971, 998, 1036, 1065, 1098, 1140, 1166, 1218, 1191, 1247, 1270, 1300, 1350, 1382, 1405, 1452, 1498, 1473, 1525, 1547, 1572, 1594, 1636] (by decide +kernel)
theorem sStr_2 : ∀ q ∈ sSS, Cond.stringRef q.1 q.2.1 q.2.2 ∈ tables_1 := sPosL (fun (q : String × Nat × String) => Cond.stringRef q.1 q.2.1 q.2.2) [504, 540, 568, 578, 596, 601, 606, 655, 663, 672, 685, 684, 743, 837, 853, 861, 876, 881, 896, 915, 951, 960, 961, 969, 974, 975, 983, 991, 1006, 1014, 1015, 1027, 1038, 1047, 1055, 1060, 1077, 1076, 1099, 1107, 1116, 1128, 1139, 1154, 1155, 1168, 1167, 1176, 1188, 1203, 1234, 1278] (by decide +kernel)
theorem sNc_1 : ∀ q ∈ sCC, Cond.not (.castable q.1 q.2) ∈ flatC (Jvm.Cond.and given_1 narrow_1) := sPosL (fun (q : String × String) => Cond.not (.castable q.1 q.2)) [48, 64, 32, 79, 95, 17, 66, 33, 81, 97, 19, 51, 35, 83, 99, 16, 49, 65, 80, 96, 20, 52, 67, 36, 100, 21, 53, 68, 37, 84] (by decide +kernel)
theorem sIns_all : ∀ ci, ci < 10 → Cond.instantiable (sNm ci) (sNf ci) ∈ lw_tbl := lt10 (P := fun ci => Cond.instantiable (sNm ci) (sNf ci) ∈ lw_tbl) (sPos1 306 (by decide +kernel)) (sPos1 233 (by decide +kernel)) (sPos1 285 (by decide +kernel)) (sPos1 208 (by decide +kernel)) (sPos1 123 (by decide +kernel)) (sPos1 264 (by decide +kernel)) (sPos1 249 (by decide +kernel)) (sPos1 162 (by decide +kernel)) (sPos1 115 (by decide +kernel)) (sPos1 1377 (by decide +kernel))
set_option maxRecDepth 100000 in
set_option maxHeartbeats 4000000 in
theorem sLaw_ok {p : Program} {e : Env} {s : State} {m : MethodId} {below : List Frame} {meth : Method} {c : Code} (l : Launch) (hflags : l.flags = flags0) {b L : Nat} {xs : Nat → Int32} (C0 : lw_At p s m meth c b L xs) (hxt0 : c.exceptionTable.toList = []) {F : Nat} {h' : sH}
    (hrun : sRun mtv (sGo1 mtv eFu 30) mL_law (some ((List.range L).map xs)) F (0, [(0, .retAddr 0)], [], [], 0, 0) = some (.inl (some (.int 1)), h')) :
    W p l e room_1 s m #[Value.ref b] below meth c s.heap [] 0 0 (lw_Z below #[Value.ref b] s) (entryFrame m ([Value.ref b] : List Value).toArray 9) := by
  obtain ⟨hx, hb, hr, hml, hown, hts, hX, hbl, hlocks, hgv⟩ := id C0
  have hl9 : l.stackTraces = false := by unfold Launch.stackTraces; rw [hflags]; decide +kernel
  have hA : ∀ q : Nat, s.heap.size ≤ q → (fun q : Nat => s.heap.size ≤ q) q := fun _ h => h
  have hfl := flat_of_before _ hgv
  have htsB : ∀ w ∈ gB sGv, w.before #[Value.ref b] s = true := fun w hw => by
    have hw : w ∈ lw_tbl.filter goodWord := hw
    exact hts w (List.mem_filter.mp hw).1
  have htab : ∀ w ∈ tables_1, w.before #[Value.ref b] s = true := fun w hw => hts w (List.mem_append_right _ hw)
  have hout : ∀ a : Nat, a < s.heap.size → ¬ (fun q : Nat => s.heap.size ≤ q) a := fun a h => Nat.not_le.mpr h
  have hE : sEnv sGv s := by
    refine ⟨fun w hw => ?_, fun q hq => ?_, fun q hq => ?_, ?_, ?_⟩
    · have hw : w ∈ lw_tbl.filter sMov := hw
      obtain ⟨h1, h2⟩ := List.mem_filter.mp hw
      have h3 : w.onTables = true := by
        unfold sMov at h2
        split at h2 <;> first | rfl | cases h2
      exact va_Nw.of h3 (hts w h1)
    · obtain ⟨a, c9, cell, k9, h2, -⟩ := Cond.exactly_spec (hfl _ (sStr_1 q hq))
      exact ⟨a, vk_R.of (htab _ (sStr_2 q hq)) h2⟩
    · exact va_Nc.of (hfl _ (sNc_1 q hq))
    · intro t ht
      have ht : t = 0 ∨ t = 1 ∨ t = 2 ∨ t = 3 ∨ t = 5 ∨ t = 6 := by
        simp only [sTl, List.mem_cons, List.not_mem_nil, or_false] at ht
        omega
      rcases ht with rfl | rfl | rfl | rfl | rfl | rfl
      · exact va_AO.of (htab (.arrayOver (.object RX0)) (sPos1 118 (by decide +kernel)))
      · exact va_AO.of (htab (.arrayOver (.object RX1)) (sPos1 110 (by decide +kernel)))
      · exact va_AO.of (htab (.arrayOver (.object RX2)) (sPos1 116 (by decide +kernel)))
      · exact va_AO.of (htab (.arrayOver (.object RX3)) (sPos1 108 (by decide +kernel)))
      · exact va_AO.of (htab (.arrayOver (.object RX5)) (sPos1 114 (by decide +kernel)))
      · exact va_AO.of (htab (.arrayOver (.object RX6)) (sPos1 112 (by decide +kernel)))
    · exact htab (.arrayOver (.array .int)) (sPos1 40 (by decide +kernel))
  have hZ : sZq (fun q : Nat => s.heap.size ≤ q) s s.heap :=
    ⟨vx_Zqof (htab _ (by decide +kernel)) (htab (.initialized Bundle.tN) (by decide +kernel)) (hfl _ (by decide +kernel)) hout, vx_Zqof (htab _ (by decide +kernel)) (htab (.initialized Bundle.tN) (by decide +kernel)) (hfl _ (by decide +kernel)) hout⟩
  obtain ⟨D, hKc⟩ : ∃ D : va_G, ∀ (k : Nat) (q : vw_C), sCl[k]? = some q → u_Kn s q.1 q.2.1 q.2.2 (D.1 k) (D.2 k) := by
    have h1 : ∀ ci : Nat, ∃ z : ClassId × (Nat → Nat), ci < 10 → u_Kn s (sNm ci) (sT4 ci) (sNf ci) z.1 z.2 := by
      intro ci
      by_cases hci : ci < 10
      · obtain ⟨c9, iS, h2⟩ := u_known (C := sNm ci) (T := sT4 ci) (N := sNf ci) htsB (sGv_3 ci hci) (hts _ (sIns_all ci hci))
        exact ⟨(c9, iS), fun _ => h2⟩
      · exact ⟨(0, fun _ => 0), fun h => absurd h hci⟩
    obtain ⟨f, hf⟩ := Classical.axiomOfChoice h1
    refine ⟨(fun k => (f k).1, fun k => (f k).2), fun k q hq => ?_⟩
    have hk : k < 10 := (List.getElem?_eq_some_iff.mp hq).1
    have h3 := sCl_at k hk
    rw [hq] at h3
    cases h3
    exact hf k hk
  obtain ⟨cA, hcA⟩ : ∃ cA : Nat → ClassId, ∀ t ∈ sTl, ArrOfT s (cA t) (sTy t) ∧ va_RA s (cA t) (sTy t) := by
    have h1 : ∀ t : Nat, ∃ z : ClassId, t ∈ sTl → ArrOfT s z (sTy t) ∧ va_RA s z (sTy t) := by
      intro t
      by_cases ht : t ∈ sTl
      · have ht2 : t = 0 ∨ t = 1 ∨ t = 2 ∨ t = 3 ∨ t = 4 ∨ t = 5 ∨ t = 6 ∨ t = 7 ∨ t = 8 ∨ t = 10 ∨ t = 11 := by
          simpa only [sTl, List.mem_cons, List.not_mem_nil, or_false] using ht
        have g : ∃ z : ClassId, ArrOfT s z (sTy t) ∧ va_RA s z (sTy t) := by
          rcases ht2 with rfl | rfl | rfl | rfl | rfl | rfl | rfl | rfl | rfl | rfl | rfl
          · exact sArrP (fun C h => by cases h) (htab (.arrayClass .int) (sPos1 71 (by decide +kernel)))
          · exact sArrP (fun C h => by cases h) (htab (.arrayClass .boolean) (sPos1 1438 (by decide +kernel)))
          · exact sArrP (fun C h => by cases h) (htab (.arrayClass .long) (sPos1 106 (by decide +kernel)))
          · exact sArrP (fun C h => by cases h) (htab (.arrayClass .double) (sPos1 1826 (by decide +kernel)))
          · exact sArrA (htab (.arrayOver (.array .int)) (sPos1 40 (by decide +kernel)))
          · exact sArrO (htab (.arrayOver (.object RX0)) (sPos1 118 (by decide +kernel)))
          · exact sArrO (htab (.arrayOver (.object RX1)) (sPos1 110 (by decide +kernel)))
          · exact sArrO (htab (.arrayOver (.object RX2)) (sPos1 116 (by decide +kernel)))
          · exact sArrO (htab (.arrayOver (.object RX3)) (sPos1 108 (by decide +kernel)))
          · exact sArrO (htab (.arrayOver (.object RX5)) (sPos1 114 (by decide +kernel)))
          · exact sArrO (htab (.arrayOver (.object RX6)) (sPos1 112 (by decide +kernel)))
        obtain ⟨z, hz⟩ := g
        exact ⟨z, fun _ => hz⟩
      · exact ⟨0, fun h => absurd h ht⟩
    obtain ⟨f, hf⟩ := Classical.axiomOfChoice h1
    exact ⟨f, hf⟩
  have hK : va_K D sCl (sTys cA) s := ⟨hKc, fun k q hq => by
    obtain ⟨t, ht, rfl⟩ := List.mem_map.mp (List.mem_of_getElem? hq)
    exact hcA t ht⟩
  have hI : sInv D cA b (fun q : Nat => s.heap.size ≤ q) s.heap 0 (fun _ => 0) (fun _ => 0) [] s.heap [] :=
    ⟨fun k q h => by simp [sW] at h, ⟨fun i j p q h => by simp [sW] at h, fun k q h => by simp [sW] at h⟩, va_S.rf, fun _ h => (nomatch h), Nat.le_refl _, fun _ _ => rfl⟩
  have hlenL : ((List.range L).map xs).length = L := by simp
  have hscr : sScr (fun q : Nat => s.heap.size ≤ q) b (some ((List.range L).map xs)) s := by
    intro ys hys
    cases hys
    refine ⟨?_, hbl, Nat.not_le.mpr hbl⟩
    rw [hlenL]
    obtain ⟨scr, g1, g2, g3, g4, g5⟩ := hX
    refine ⟨scr, g1, g2, g3, g4, fun j hj => ?_⟩
    rw [g5 j hj]
    congr 2
    show xs j = (List.map xs (List.range L)).getD j 0
    rw [List.getD_eq_getElem?_getD, List.getElem?_map, List.getElem?_range hj]
    rfl
  have hxt : c.exceptionTable.toList = tableOf (mT mL_law) := hxt0
  have F9 : sFr p l room_1 s m #[Value.ref b] meth c sGv mtv mL_law D cA b 30 (fun q : Nat => s.heap.size ≤ q) (some ((List.range L).map xs)) (sGo1 mtv eFu 30) :=
    ⟨⟨hx, hb, hml, hown, htsB⟩, ⟨sGv_ok, hK, hZ, hE, hA⟩, ⟨(fun h9 => absurd h9 (by decide +kernel)), hscr, hxt⟩, fun k _ => (sMtv k).1, sPlw, sGo_ok hl9 sGv_ok sGv_at sMtv 30, by decide, by decide, by decide, by decide⟩
  have key := sRun_ok (e := e) (below := below) (Q := lw_Z below #[Value.ref b] s) (n0 := 0) (ad0 := fun _ => 0) F9
    (fun i v h pc lv st cl sl hr9 hd hv hcl hsl => by
      cases hr9
      intro ad H locs ls hI hl hw hst
      cases i with
      | ireturn =>
        unfold sRet at hv; dsimp only at hv
        split at hv
        · next x ty h1 =>
          split at hv
          · next h2 =>
            cases hv
            refine va_forget (fun q hq => hI.2.2.1.2.2 q hq) ?_
            refine W.widen hcl hsl ?_
            exact W.base (lw_ret (d0 := s.drawn) (Drawn.sameBut.refl s.drawn lw_cs) hx hb hr hlocks hd)
          · cases hv
        · cases hv
      | return_ =>
        unfold sRet at hv; dsimp only at hv
        split at hv <;> cases hv
      | lreturn =>
        unfold sRet at hv; dsimp only at hv
        split at hv <;> cases hv
      | freturn =>
        unfold sRet at hv; dsimp only at hv
        split at hv <;> cases hv
      | dreturn =>
        unfold sRet at hv; dsimp only at hv
        split at hv <;> cases hv
      | _ => cases hv)
    (fun k h ad H locs ls q ce pc rest cl sl hr9 => by cases hr9) (fun k ik h pc lv st cl sl hr9 => by cases hr9) F 0 [(0, .retAddr 0)] [] [] 0 0 (Nat.zero_le _) (Nat.zero_le _) hrun
  rw [lg_entry_eq]
  have hl := lv_entry ([.ref b]) (n := 9) (Nat.le_of_ble_eq_true rfl)
  exact key (fun _ => 0) s.heap [] _ hI hl (fun q hq => by rw [List.mem_singleton.mp hq]; exact True.intro) (fun v hv => nomatch hv)
