/-! decode in a piece of the bytes -/
noncomputable def sBA (l : List UInt8) : ByteArray := ⟨⟨l⟩⟩
noncomputable def sSh {α : Type} (pre suf post : List UInt8) (r r' : Decoder α) : Prop := ∀ p a p', r.runAt (sBA suf) p = .ok (a, p') → r'.runAt (sBA (pre ++ (suf ++ post))) (pre.length + p) = .ok (a, pre.length + p')
theorem sSh_pure {α : Type} {pre suf post : List UInt8} {a : α} : sSh pre suf post (pure a : Decoder α) (pure a) := by
  intro p a' p' h
  cases h
  rfl
theorem sSh_bind {α β : Type} {pre suf post : List UInt8} {r r' : Decoder α} {f f' : α → Decoder β} (hr : sSh pre suf post r r') (hf : ∀ a, sSh pre suf post (f a) (f' a)) : sSh pre suf post (r >>= f) (r' >>= f') := by
  intro p b p' h
  have e1 : (r >>= f).runAt (sBA suf) p = (r.runAt (sBA suf) p >>= fun q => (f q.1).runAt (sBA suf) q.2) := rfl
  have e2 : (r' >>= f').runAt (sBA (pre ++ (suf ++ post))) (pre.length + p) = (r'.runAt (sBA (pre ++ (suf ++ post))) (pre.length + p) >>= fun q => (f' q.1).runAt (sBA (pre ++ (suf ++ post))) q.2) := rfl
  rw [e1] at h
  rw [e2]
  cases h1 : r.runAt (sBA suf) p with
  | error e => rw [h1] at h; cases h
  | ok q =>
    rw [h1] at h
    rw [hr _ _ _ h1]
    exact hf q.1 _ _ _ h
theorem sU1 : ∀ (l : List UInt8) (k : Nat), (Reader.u1 : Decoder Nat).runAt (sBA l) k = (if h : k < l.length then .ok (l[k].toNat, k + 1) else .error (HasTruncated.truncated k)) := by
  intro l k
  have e0 : (Reader.u1 : Decoder Nat).runAt (sBA l) k = (if h : k < (sBA l).size then (do set (k + 1); Pure.pure ((sBA l)[k].toNat) : Decoder Nat) else throw (HasTruncated.truncated k)) (sBA l) k := rfl
  rw [e0]
  by_cases hk : k < l.length
  · rw [dif_pos hk, dif_pos (show k < (sBA l).size from hk)]
    rfl
  · rw [dif_neg hk, dif_neg (show ¬ k < (sBA l).size from hk)]
    rfl
theorem sSh_u1 {pre suf post : List UInt8} : sSh pre suf post (Reader.u1 : Decoder Nat) Reader.u1 := by
  intro p a p' h
  rw [sU1] at h
  split at h
  · next hk =>
    cases h
    rw [sU1]
    have hk2 : pre.length + p < (pre ++ (suf ++ post)).length := by simp only [List.length_append]; omega
    rw [dif_pos hk2]
    have hb : (pre ++ (suf ++ post))[pre.length + p] = suf[p] := by
      rw [List.getElem_append_right (Nat.le_add_right _ _)]
      simp only [Nat.add_sub_cancel_left]
      rw [List.getElem_append_left hk]
    rw [hb]
    rfl
  · cases h

theorem sSh_u2 {pre suf post : List UInt8} : sSh pre suf post (Reader.u2 : Decoder Nat) Reader.u2 := sSh_bind sSh_u1 (fun _ => sSh_bind sSh_u1 (fun _ => sSh_pure))
theorem sSh_map {α β : Type} {pre suf post : List UInt8} {r r' : Decoder α} {f : α → β} (hr : sSh pre suf post r r') : sSh pre suf post (f <$> r) (f <$> r') := sSh_bind hr (fun _ => sSh_pure)
theorem sSh_s1 {pre suf post : List UInt8} : sSh pre suf post (Reader.s1 : Decoder Int) Reader.s1 := sSh_map sSh_u1
theorem sSh_s2 {pre suf post : List UInt8} : sSh pre suf post (Reader.s2 : Decoder Int) Reader.s2 := sSh_map sSh_u2
theorem sSh_s4 {pre suf post : List UInt8} : sSh pre suf post (Reader.s4 : Decoder Int) Reader.s4 := sSh_map (sSh_bind sSh_u2 (fun _ => sSh_bind sSh_u2 (fun _ => sSh_pure)))
theorem sDec_s {pre suf post : List UInt8} {f : Nat → Nat → Decoder Instr} (hi : ∀ pc, Decoder.instr pc = (Reader.u1 >>= f pc)) {p : Nat} {o : UInt8} (ho : suf[p]? = some o) (hf : sSh pre suf post (f p o.toNat) (f (pre.length + p) o.toNat)) {i : Instr} {len : Nat} (hd : decode (sBA suf) p = .ok (i, len)) : decode (sBA (pre ++ (suf ++ post))) (pre.length + p) = .ok (i, len) := by
  obtain ⟨hk, ho2⟩ := List.getElem?_eq_some_iff.mp ho
  have e0 : ∀ (l : List UInt8) (k : Nat), decode (sBA l) k = ((Reader.u1 : Decoder Nat).runAt (sBA l) k >>= fun q => ((f k q.1).runAt (sBA l) q.2 >>= fun q2 => (pure (q2.1, q2.2 - k) : Except DecodeError (Instr × Nat)))) := by
    intro l k
    unfold decode
    rw [hi k]
    show (((Reader.u1 : Decoder Nat).runAt (sBA l) k >>= fun q => (f k q.1).runAt (sBA l) q.2) >>= fun q2 => (pure (q2.1, q2.2 - k) : Except DecodeError (Instr × Nat))) = _
    cases (Reader.u1 : Decoder Nat).runAt (sBA l) k <;> rfl
  have u0 : (Reader.u1 : Decoder Nat).runAt (sBA suf) p = .ok (o.toNat, p + 1) := by rw [sU1, dif_pos hk, ho2]
  have u1 := sSh_u1 (pre := pre) (post := post) _ _ _ u0
  rw [e0, u0] at hd
  rw [e0, u1]
  have hd : ((f p o.toNat).runAt (sBA suf) (p + 1) >>= fun q2 => (pure (q2.1, q2.2 - p) : Except DecodeError (Instr × Nat))) = .ok (i, len) := hd
  show ((f (pre.length + p) o.toNat).runAt (sBA (pre ++ (suf ++ post))) (pre.length + (p + 1)) >>= fun q2 => (pure (q2.1, q2.2 - (pre.length + p)) : Except DecodeError (Instr × Nat))) = .ok (i, len)
  cases h1 : (f p o.toNat).runAt (sBA suf) (p + 1) with
  | error e => rw [h1] at hd; cases hd
  | ok q =>
    rw [h1] at hd
    rw [hf _ _ _ h1]
    cases hd
    show Except.ok (_, _) = Except.ok (_, _)
    congr 2
    omega
theorem sSh_thr {α : Type} {pre suf post : List UInt8} {e e' : DecodeError} : sSh pre suf post (throw e : Decoder α) (throw e') := by
  intro p a p' h
  cases h
noncomputable def sUs : List Nat := [3, 4, 5, 6, 7, 8, 16, 21, 25, 42, 43, 44, 45, 46, 47, 54, 56, 57, 58, 76, 77, 78, 87, 88, 89, 96, 100, 126, 132, 133, 148, 153, 154, 159, 163, 167, 172, 182, 183, 184, 187, 190]
set_option maxRecDepth 20000 in
set_option maxHeartbeats 4000000 in
theorem sDecL {pre suf post : List UInt8} {p : Nat} {o : UInt8} (ho : suf[p]? = some o) (hu : o.toNat ∈ sUs) {i : Instr} {len : Nat} (hd : decode (sBA suf) p = .ok (i, len)) : decode (sBA (pre ++ (suf ++ post))) (pre.length + p) = .ok (i, len) := by
  refine sDec_s (fun pc => rfl) ho ?_ hd
  clear hd ho
  revert hu
  generalize o.toNat = k
  intro hu
  simp only [sUs, List.mem_cons, List.not_mem_nil, or_false] at hu
  rcases hu with rfl | rfl | rfl | rfl | rfl | rfl | rfl | rfl | rfl | rfl | rfl | rfl | rfl | rfl | rfl | rfl | rfl | rfl | rfl | rfl | rfl | rfl | rfl | rfl | rfl | rfl | rfl | rfl | rfl | rfl | rfl | rfl | rfl | rfl | rfl | rfl | rfl | rfl | rfl | rfl | rfl | rfl
  · show sSh pre suf post (Pure.pure (Instr.iconst 0) : Decoder Instr) (Pure.pure (Instr.iconst 0) : Decoder Instr); exact sSh_pure
  · show sSh pre suf post (Pure.pure (Instr.iconst 1) : Decoder Instr) (Pure.pure (Instr.iconst 1) : Decoder Instr); exact sSh_pure
  · show sSh pre suf post (Pure.pure (Instr.iconst 2) : Decoder Instr) (Pure.pure (Instr.iconst 2) : Decoder Instr); exact sSh_pure
  · show sSh pre suf post (Pure.pure (Instr.iconst 3) : Decoder Instr) (Pure.pure (Instr.iconst 3) : Decoder Instr); exact sSh_pure
  · show sSh pre suf post (Pure.pure (Instr.iconst 4) : Decoder Instr) (Pure.pure (Instr.iconst 4) : Decoder Instr); exact sSh_pure
  · show sSh pre suf post (Pure.pure (Instr.iconst 5) : Decoder Instr) (Pure.pure (Instr.iconst 5) : Decoder Instr); exact sSh_pure
  · show sSh pre suf post (do Pure.pure (Instr.bipush (← Reader.s1)) : Decoder Instr) (do Pure.pure (Instr.bipush (← Reader.s1)) : Decoder Instr); exact sSh_bind sSh_s1 (fun _ => sSh_pure)
  · show sSh pre suf post (do Pure.pure (Instr.iload (← Reader.u1)) : Decoder Instr) (do Pure.pure (Instr.iload (← Reader.u1)) : Decoder Instr); exact sSh_bind sSh_u1 (fun _ => sSh_pure)
  · show sSh pre suf post (do Pure.pure (Instr.aload (← Reader.u1)) : Decoder Instr) (do Pure.pure (Instr.aload (← Reader.u1)) : Decoder Instr); exact sSh_bind sSh_u1 (fun _ => sSh_pure)
  · show sSh pre suf post (Pure.pure (Instr.aload_n 0) : Decoder Instr) (Pure.pure (Instr.aload_n 0) : Decoder Instr); exact sSh_pure
  · show sSh pre suf post (Pure.pure (Instr.aload_n 1) : Decoder Instr) (Pure.pure (Instr.aload_n 1) : Decoder Instr); exact sSh_pure
  · show sSh pre suf post (Pure.pure (Instr.aload_n 2) : Decoder Instr) (Pure.pure (Instr.aload_n 2) : Decoder Instr); exact sSh_pure
  · show sSh pre suf post (Pure.pure (Instr.aload_n 3) : Decoder Instr) (Pure.pure (Instr.aload_n 3) : Decoder Instr); exact sSh_pure
  · show sSh pre suf post (Pure.pure (Instr.iaload) : Decoder Instr) (Pure.pure (Instr.iaload) : Decoder Instr); exact sSh_pure
  · show sSh pre suf post (Pure.pure (Instr.laload) : Decoder Instr) (Pure.pure (Instr.laload) : Decoder Instr); exact sSh_pure
  · show sSh pre suf post (do Pure.pure (Instr.istore (← Reader.u1)) : Decoder Instr) (do Pure.pure (Instr.istore (← Reader.u1)) : Decoder Instr); exact sSh_bind sSh_u1 (fun _ => sSh_pure)
  · show sSh pre suf post (do Pure.pure (Instr.fstore (← Reader.u1)) : Decoder Instr) (do Pure.pure (Instr.fstore (← Reader.u1)) : Decoder Instr); exact sSh_bind sSh_u1 (fun _ => sSh_pure)
  · show sSh pre suf post (do Pure.pure (Instr.dstore (← Reader.u1)) : Decoder Instr) (do Pure.pure (Instr.dstore (← Reader.u1)) : Decoder Instr); exact sSh_bind sSh_u1 (fun _ => sSh_pure)
  · show sSh pre suf post (do Pure.pure (Instr.astore (← Reader.u1)) : Decoder Instr) (do Pure.pure (Instr.astore (← Reader.u1)) : Decoder Instr); exact sSh_bind sSh_u1 (fun _ => sSh_pure)
  · show sSh pre suf post (Pure.pure (Instr.astore_n 1) : Decoder Instr) (Pure.pure (Instr.astore_n 1) : Decoder Instr); exact sSh_pure
  · show sSh pre suf post (Pure.pure (Instr.astore_n 2) : Decoder Instr) (Pure.pure (Instr.astore_n 2) : Decoder Instr); exact sSh_pure
  · show sSh pre suf post (Pure.pure (Instr.astore_n 3) : Decoder Instr) (Pure.pure (Instr.astore_n 3) : Decoder Instr); exact sSh_pure
  · show sSh pre suf post (Pure.pure (Instr.pop) : Decoder Instr) (Pure.pure (Instr.pop) : Decoder Instr); exact sSh_pure
  · show sSh pre suf post (Pure.pure (Instr.pop2) : Decoder Instr) (Pure.pure (Instr.pop2) : Decoder Instr); exact sSh_pure
  · show sSh pre suf post (Pure.pure (Instr.dup) : Decoder Instr) (Pure.pure (Instr.dup) : Decoder Instr); exact sSh_pure
  · show sSh pre suf post (Pure.pure (Instr.iadd) : Decoder Instr) (Pure.pure (Instr.iadd) : Decoder Instr); exact sSh_pure
  · show sSh pre suf post (Pure.pure (Instr.isub) : Decoder Instr) (Pure.pure (Instr.isub) : Decoder Instr); exact sSh_pure
  · show sSh pre suf post (Pure.pure (Instr.iand) : Decoder Instr) (Pure.pure (Instr.iand) : Decoder Instr); exact sSh_pure
  · show sSh pre suf post (do Pure.pure (Instr.iinc (← Reader.u1) (← Reader.s1)) : Decoder Instr) (do Pure.pure (Instr.iinc (← Reader.u1) (← Reader.s1)) : Decoder Instr); exact sSh_bind sSh_u1 (fun _ => sSh_bind sSh_s1 (fun _ => sSh_pure))
  · show sSh pre suf post (Pure.pure (Instr.i2l) : Decoder Instr) (Pure.pure (Instr.i2l) : Decoder Instr); exact sSh_pure
  · show sSh pre suf post (Pure.pure (Instr.lcmp) : Decoder Instr) (Pure.pure (Instr.lcmp) : Decoder Instr); exact sSh_pure
  · show sSh pre suf post (do Pure.pure (Instr.ifCond .eq (← Reader.s2)) : Decoder Instr) (do Pure.pure (Instr.ifCond .eq (← Reader.s2)) : Decoder Instr); exact sSh_bind sSh_s2 (fun _ => sSh_pure)
  · show sSh pre suf post (do Pure.pure (Instr.ifCond .ne (← Reader.s2)) : Decoder Instr) (do Pure.pure (Instr.ifCond .ne (← Reader.s2)) : Decoder Instr); exact sSh_bind sSh_s2 (fun _ => sSh_pure)
  · show sSh pre suf post (do Pure.pure (Instr.if_icmp .eq (← Reader.s2)) : Decoder Instr) (do Pure.pure (Instr.if_icmp .eq (← Reader.s2)) : Decoder Instr); exact sSh_bind sSh_s2 (fun _ => sSh_pure)
  · show sSh pre suf post (do Pure.pure (Instr.if_icmp .gt (← Reader.s2)) : Decoder Instr) (do Pure.pure (Instr.if_icmp .gt (← Reader.s2)) : Decoder Instr); exact sSh_bind sSh_s2 (fun _ => sSh_pure)
  · show sSh pre suf post (do Pure.pure (Instr.goto (← Reader.s2)) : Decoder Instr) (do Pure.pure (Instr.goto (← Reader.s2)) : Decoder Instr); exact sSh_bind sSh_s2 (fun _ => sSh_pure)
  · show sSh pre suf post (Pure.pure (Instr.ireturn) : Decoder Instr) (Pure.pure (Instr.ireturn) : Decoder Instr); exact sSh_pure
  · show sSh pre suf post (do Pure.pure (Instr.invokevirtual (← Reader.u2)) : Decoder Instr) (do Pure.pure (Instr.invokevirtual (← Reader.u2)) : Decoder Instr); exact sSh_bind sSh_u2 (fun _ => sSh_pure)
  · show sSh pre suf post (do Pure.pure (Instr.invokespecial (← Reader.u2)) : Decoder Instr) (do Pure.pure (Instr.invokespecial (← Reader.u2)) : Decoder Instr); exact sSh_bind sSh_u2 (fun _ => sSh_pure)
  · show sSh pre suf post (do Pure.pure (Instr.invokestatic (← Reader.u2)) : Decoder Instr) (do Pure.pure (Instr.invokestatic (← Reader.u2)) : Decoder Instr); exact sSh_bind sSh_u2 (fun _ => sSh_pure)
  · show sSh pre suf post (do Pure.pure (Instr.new (← Reader.u2)) : Decoder Instr) (do Pure.pure (Instr.new (← Reader.u2)) : Decoder Instr); exact sSh_bind sSh_u2 (fun _ => sSh_pure)
  · show sSh pre suf post (Pure.pure (Instr.arraylength) : Decoder Instr) (Pure.pure (Instr.arraylength) : Decoder Instr); exact sSh_pure
