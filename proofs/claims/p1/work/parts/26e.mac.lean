/-! calls that are told, inner loops taken one round at a time -/
section MAC
variable {d cl sl B : Nat} {Q : sR → Prop} {h : sH} {lv : sL}
theorem sG_wp {F k : Nat} {as : List Value} {r : sR} (hc : sCat as ≤ mL (mtv k)) {B : Nat} (hB : B ≤ F) (w : sWp mtv (sGo1 mtv F d) (mtv k) none B (0, lv_args 0 as, [], h, 0, 0) (fun r' => r' = r)) : sGo1 mtv F (d + 1) k as h = some r := by
  obtain ⟨r', e, w⟩ := wp_le hB w
  have w0 := w 0
  rw [Nat.zero_add] at w0
  rw [sGo1_s, if_pos hc, w0, e]
def sAbs (x : Int32) : Int32 := cond (sC1 .ge x) x (-x)
theorem amount_ok (x : Int32) : sGo1 mtv 10000000 (d + 1) 213 [.int x] h = some (.inl (some (.int (sAbs x))), h) := by
  refine sG_wp (B := 10) (Nat.le_of_ble_eq_true rfl) (by decide) ?_
  refine wp_iload_n q213_0 (by rfl) ?_
  unfold sAbs
  cases hx : sC1 .ge x with
  | true =>
    refine wp_ift (t := 9) q213_1 hx (by rfl) ?_
    refine wp_iload_n q213_9 (by rfl) ?_
    exact wp_ireturn q213_10 (by rfl) (by rfl) rfl
  | false =>
    refine wp_iff q213_1 hx (by rfl) ?_
    refine wp_iload_n q213_4 (by rfl) ?_
    refine wp_ineg q213_5 ?_
    refine wp_goto (t := 10) q213_6 (by rfl) ?_
    exact wp_ireturn q213_10 (by rfl) (by rfl) rfl
theorem bit_ok (x y : Int32) : sGo1 mtv 10000000 (d + 1) 35 [.int x, .int y] h = some (.inl (some (.long ((1 : Int64) <<< ((8 * x + y).toInt64 &&& 63)))), h) := by
  refine sG_wp (B := 10) (Nat.le_of_ble_eq_true rfl) (by decide) ?_
  refine wp_lconst q35_0 ?_
  refine wp_bipush q35_1 ?_
  refine wp_iload_n q35_3 (by rfl) ?_
  refine wp_imul q35_4 ?_
  refine wp_iload_n q35_5 (by rfl) ?_
  refine wp_iadd q35_6 ?_
  refine wp_lshl q35_7 ?_
  exact wp_lreturn q35_8 (by rfl) rfl
end MAC
section MAC2
variable {d cl sl B : Nat} {Q : sR → Prop} {h : sH} {lv : sL}
/-- one round of the innermost loop of the reference's both -/
def mAdd (n k ap sp fi A my : Int32) (v : Int32) : Int32 := cond (sC2 .gt (sAbs (k - n)) ap) 0 (cond (sC2 .gt (sp * sAbs (k - n)) A) 0 (cond (sC2 .ge (fi + k * sp) my) 0 v))
theorem m1_ok {n k dp ap sp fi A my : Int32} {o wa nx : Nat} {fs wn ww : List Value} (h9 : sLk 9 lv = some (.int n)) (h8 : sLk 8 lv = some (.int k)) (h3 : sLk 3 lv = some (.int dp)) (h4 : sLk 4 lv = some (.int ap)) (h2 : sLk 2 lv = some (.int sp)) (h1 : sLk 1 lv = some (.int fi)) (h0 : sLk 0 lv = some (.ref o)) (h5 : sLk 5 lv = some (.ref wa)) (h6 : sLk 6 lv = some (.ref nx))
    (c0 : sC2 .ge n dp = false) (ho : h[o]? = some (.inr (9, fs))) (f33 : fs[33]? = some (.int A)) (f32 : fs[32]? = some (.int my)) (hn : h[nx]? = some (.inl (0, wn))) (hw : h[wa]? = some (.inl (0, ww))) (ik : sIn k wn.length = true) (iw : sIn n ww.length = true) (hcl : cl ≤ 2 ∧ sl ≤ 12)
    (K : sWp mtv (sGo1 mtv 10000000 (d + 1)) (mtv 256) none B (141, sS1 9 (.int (n + Int32.ofInt 1)) lv, [], h.set nx (.inl (0, wn.set k.toNatClampNeg (.int (iOf (wn.getD k.toNatClampNeg .null) + mAdd n k ap sp fi A my (iOf (ww.getD n.toNatClampNeg .null)))))), cl, sl) Q) :
    sWp mtv (sGo1 mtv 10000000 (d + 1)) (mtv 256) none (B + 60) (141, lv, [], h, cl, sl) Q := by
  have hbud : ∀ rest : List Value, sCat rest ≤ 8 → sCat rest ≤ 8 ∧ cl + mC (mtv 213) ≤ mC (mtv 256) ∧ sl + mS (mtv 213) ≤ mS (mtv 256) := fun rest hr => ⟨hr, by show cl + 0 ≤ 2; omega, by show sl + 0 ≤ 12; omega⟩
  have fin : ∀ v : Int32, sWp mtv (sGo1 mtv 10000000 (d + 1)) (mtv 256) none B (141, sS1 9 (.int (n + Int32.ofInt 1)) lv, [], h.set nx (.inl (0, wn.set k.toNatClampNeg (.int (iOf (wn.getD k.toNatClampNeg .null) + v)))), cl, sl) Q → sWp mtv (sGo1 mtv 10000000 (d + 1)) (mtv 256) none (B + 4) (205, lv, [.int v, .int (iOf (wn.getD k.toNatClampNeg .null)), .int k, .ref nx], h, cl, sl) Q := by
    intro v K
    refine wp_iadd q256_205 ?_
    refine wp_iastore q256_206 hn ik ?_
    refine wp_iinc q256_207 h9 (Nat.le_of_ble_eq_true rfl) ?_
    exact wp_goto (t := 141) q256_210 (by rfl) K
  refine wp_le (B := B + 44) (by omega) ?_
  refine wp_iload q256_141 h9 ?_
  refine wp_iload_n q256_143 h3 ?_
  refine wp_icf (t := 213) q256_144 c0 (by rfl) ?_
  refine wp_aload q256_147 h6 ?_
  refine wp_iload q256_149 h8 ?_
  refine wp_dup2 q256_151 ⟨rfl, rfl⟩ ?_
  refine wp_iaload q256_152 hn ik ?_
  refine wp_iload q256_153 h8 ?_
  refine wp_iload q256_155 h9 ?_
  refine wp_isub q256_157 ?_
  refine wp_told q256_158 (by decide) rfl rfl rfl rfl (hbud _ (Nat.le_of_ble_eq_true rfl)) (amount_ok _) ?_
  refine wK_v ?_
  refine wp_iload q256_161 h4 ?_
  unfold mAdd at K
  cases c1 : sC2 .gt (sAbs (k - n)) ap with
  | true =>
    rw [c1] at K
    refine wp_ict (t := 204) q256_163 c1 (by rfl) ?_
    refine wp_iconst q256_204 ?_
    exact wp_le (B := B + 4) (by omega) (fin _ K)
  | false =>
    rw [c1] at K
    refine wp_icf (t := 204) q256_163 c1 (by rfl) ?_
    refine wp_iload_n q256_166 h2 ?_
    refine wp_iload q256_167 h8 ?_
    refine wp_iload q256_169 h9 ?_
    refine wp_isub q256_171 ?_
    refine wp_told q256_172 (by decide) rfl rfl rfl rfl (hbud _ (Nat.le_of_ble_eq_true rfl)) (amount_ok _) ?_
    refine wK_v ?_
    refine wp_imul q256_175 ?_
    refine wp_aload_n q256_176 h0 ?_
    refine wp_getfield q256_177 ho f33 ?_
    cases c2 : sC2 .gt (sp * sAbs (k - n)) A with
    | true =>
      rw [c2] at K
      refine wp_ict (t := 204) q256_180 c2 (by rfl) ?_
      refine wp_iconst q256_204 ?_
      exact wp_le (B := B + 4) (by omega) (fin _ K)
    | false =>
      rw [c2] at K
      refine wp_icf (t := 204) q256_180 c2 (by rfl) ?_
      refine wp_iload_n q256_183 h1 ?_
      refine wp_iload q256_184 h8 ?_
      refine wp_iload_n q256_186 h2 ?_
      refine wp_imul q256_187 ?_
      refine wp_iadd q256_188 ?_
      refine wp_aload_n q256_189 h0 ?_
      refine wp_getfield q256_190 ho f32 ?_
      cases c3 : sC2 .ge (fi + k * sp) my with
      | true =>
        rw [c3] at K
        refine wp_ict (t := 204) q256_193 c3 (by rfl) ?_
        refine wp_iconst q256_204 ?_
        exact wp_le (B := B + 4) (by omega) (fin _ K)
      | false =>
        rw [c3] at K
        refine wp_icf (t := 204) q256_193 c3 (by rfl) ?_
        refine wp_aload q256_196 h5 ?_
        refine wp_iload q256_198 h9 ?_
        refine wp_iaload q256_200 hw iw ?_
        refine wp_goto (t := 205) q256_201 (by rfl) ?_
        exact wp_le (B := B + 4) (by omega) (fin _ K)
end MAC2
section MAC3
variable {d cl sl B : Nat} {Q : sR → Prop} {h : sH} {lv : sL}
/-- one round of the innermost loop of the reference's countBy -/
def mAdd2 (n k A pv : Int32) (v : Int32) : Int32 := cond (sC2 .gt (sAbs (k - n)) A) 0 (cond (sC2 .ne ((pv >>> (k &&& 31)) &&& Int32.ofInt 1) (Int32.ofInt 1)) 0 v)
theorem m2_ok {n k ch A my : Int32} {o wa nx pi : Nat} {fs wn ww wp : List Value} (h5 : sLk 5 lv = some (.int n)) (h4 : sLk 4 lv = some (.int k)) (h3 : sLk 3 lv = some (.int ch)) (h0 : sLk 0 lv = some (.ref o)) (h1 : sLk 1 lv = some (.ref wa)) (h2 : sLk 2 lv = some (.ref nx))
    (c0 : sC2 .ge n my = false) (ho : h[o]? = some (.inr (9, fs))) (f33 : fs[33]? = some (.int A)) (f32 : fs[32]? = some (.int my)) (f20 : fs[20]? = some (.ref pi)) (hn : h[nx]? = some (.inl (0, wn))) (hw : h[wa]? = some (.inl (0, ww))) (hp : h[pi]? = some (.inl (0, wp))) (ik : sIn k wn.length = true) (iw : sIn n ww.length = true) (ip : sIn ch wp.length = true) (hcl : cl ≤ 2 ∧ sl ≤ 12)
    (K : sWp mtv (sGo1 mtv 10000000 (d + 1)) (mtv 212) none B (69, sS1 5 (.int (n + Int32.ofInt 1)) lv, [], h.set nx (.inl (0, wn.set k.toNatClampNeg (.int (iOf (wn.getD k.toNatClampNeg .null) + mAdd2 n k A (iOf (wp.getD ch.toNatClampNeg .null)) (iOf (ww.getD n.toNatClampNeg .null)))))), cl, sl) Q) :
    sWp mtv (sGo1 mtv 10000000 (d + 1)) (mtv 212) none (B + 60) (69, lv, [], h, cl, sl) Q := by
  have hbud : ∀ rest : List Value, sCat rest ≤ 8 → sCat rest ≤ 8 ∧ cl + mC (mtv 213) ≤ mC (mtv 212) ∧ sl + mS (mtv 213) ≤ mS (mtv 212) := fun rest hr => ⟨hr, by show cl + 0 ≤ 2; omega, by show sl + 0 ≤ 12; omega⟩
  have fin : ∀ v : Int32, sWp mtv (sGo1 mtv 10000000 (d + 1)) (mtv 212) none B (69, sS1 5 (.int (n + Int32.ofInt 1)) lv, [], h.set nx (.inl (0, wn.set k.toNatClampNeg (.int (iOf (wn.getD k.toNatClampNeg .null) + v)))), cl, sl) Q → sWp mtv (sGo1 mtv 10000000 (d + 1)) (mtv 212) none (B + 4) (121, lv, [.int v, .int (iOf (wn.getD k.toNatClampNeg .null)), .int k, .ref nx], h, cl, sl) Q := by
    intro v K
    refine wp_iadd q212_121 ?_
    refine wp_iastore q212_122 hn ik ?_
    refine wp_iinc q212_123 h5 (Nat.le_of_ble_eq_true rfl) ?_
    exact wp_goto (t := 69) q212_126 (by rfl) K
  refine wp_le (B := B + 44) (by omega) ?_
  refine wp_iload q212_69 h5 ?_
  refine wp_aload_n q212_71 h0 ?_
  refine wp_getfield q212_72 ho f32 ?_
  refine wp_icf (t := 129) q212_75 c0 (by rfl) ?_
  refine wp_aload_n q212_78 h2 ?_
  refine wp_iload q212_79 h4 ?_
  refine wp_dup2 q212_81 ⟨rfl, rfl⟩ ?_
  refine wp_iaload q212_82 hn ik ?_
  refine wp_iload q212_83 h4 ?_
  refine wp_iload q212_85 h5 ?_
  refine wp_isub q212_87 ?_
  refine wp_told q212_88 (by decide) rfl rfl rfl rfl (hbud _ (Nat.le_of_ble_eq_true rfl)) (amount_ok _) ?_
  refine wK_v ?_
  refine wp_aload_n q212_91 h0 ?_
  refine wp_getfield q212_92 ho f33 ?_
  unfold mAdd2 at K
  cases c1 : sC2 .gt (sAbs (k - n)) A with
  | true =>
    rw [c1] at K
    refine wp_ict (t := 120) q212_95 c1 (by rfl) ?_
    refine wp_iconst q212_120 ?_
    exact wp_le (B := B + 4) (by omega) (fin _ K)
  | false =>
    rw [c1] at K
    refine wp_icf (t := 120) q212_95 c1 (by rfl) ?_
    refine wp_aload_n q212_98 h0 ?_
    refine wp_getfield q212_99 ho f20 ?_
    refine wp_iload_n q212_102 h3 ?_
    refine wp_iaload q212_103 hp ip ?_
    refine wp_iload q212_104 h4 ?_
    refine wp_ishr q212_106 ?_
    refine wp_iconst q212_107 ?_
    refine wp_iand q212_108 ?_
    refine wp_iconst q212_109 ?_
    cases c2 : sC2 .ne ((iOf (wp.getD ch.toNatClampNeg .null) >>> (k &&& 31)) &&& Int32.ofInt 1) (Int32.ofInt 1) with
    | true =>
      rw [c2] at K
      refine wp_ict (t := 120) q212_110 c2 (by rfl) ?_
      refine wp_iconst q212_120 ?_
      exact wp_le (B := B + 4) (by omega) (fin _ K)
    | false =>
      rw [c2] at K
      refine wp_icf (t := 120) q212_110 c2 (by rfl) ?_
      refine wp_aload_n q212_113 h1 ?_
      refine wp_iload q212_114 h5 ?_
      refine wp_iaload q212_116 hw iw ?_
      refine wp_goto (t := 121) q212_117 (by rfl) ?_
      exact wp_le (B := B + 4) (by omega) (fin _ K)
/-- one round of waysOn's loop -/
def aAbs (x : Int32) : Int32 := if 0 ≤ x then x else 0 - x
theorem m3_ok {call : Nat → List Value → sH → Option sR} {n s c dep lim dp : Int32} {o w r : Nat} {fs rows vals : List Value} (h5 : sLk 5 lv = some (.int n)) (h4 : sLk 4 lv = some (.int s)) (h3 : sLk 3 lv = some (.int lim)) (h2 : sLk 2 lv = some (.int dep)) (h1 : sLk 1 lv = some (.int c)) (h0 : sLk 0 lv = some (.ref o))
    (c0 : sC2 .ge n dp = false) (ho : h[o]? = some (.inr (4, fs))) (f2 : fs[2]? = some (.int dp)) (f0 : fs[0]? = some (.ref w)) (hw : h[w]? = some (.inl (4, rows))) (iw : sIn (c + Int32.ofInt 1) rows.length = true) (hr : rOf (rows.getD (c + Int32.ofInt 1).toNatClampNeg .null) = .ref r) (hv : h[r]? = some (.inl (0, vals))) (iv : sIn n vals.length = true)
    (h5' : ∀ v : Value, sLk 5 (sS1 4 v lv) = some (.int n))
    (K : sWp mtv call (mtv 36) none B (18, sS1 5 (.int (n + Int32.ofInt 1)) (cond (sC2 .gt (aAbs (n - dep)) lim) lv (sS1 4 (.int (s + iOf (vals.getD n.toNatClampNeg .null))) lv)), [], h, cl, sl) Q) :
    sWp mtv call (mtv 36) none (B + 60) (18, lv, [], h, cl, sl) Q := by
  refine wp_le (B := B + 30) (by omega) ?_
  refine wp_iload q36_18 h5 ?_
  refine wp_aload_n q36_20 h0 ?_
  refine wp_getfield q36_21 ho f2 ?_
  refine wp_icf (t := 60) q36_24 c0 (by rfl) ?_
  refine wp_iload q36_27 h5 ?_
  refine wp_iload_n q36_29 h2 ?_
  refine wp_isub q36_30 ?_
  refine wp_math q36_31 (by decide) (by rfl) (Nat.le_of_ble_eq_true rfl) ?_
  refine wp_iload_n q36_34 h3 ?_
  cases c1 : sC2 .gt (aAbs (n - dep)) lim with
  | true =>
    rw [c1] at K
    refine wp_ict (t := 54) q36_35 c1 (by rfl) ?_
    refine wp_iinc q36_54 h5 (Nat.le_of_ble_eq_true rfl) ?_
    refine wp_goto (t := 18) q36_57 (by rfl) ?_
    exact wp_le (B := B) (by omega) K
  | false =>
    rw [c1] at K
    refine wp_icf (t := 54) q36_35 c1 (by rfl) ?_
    refine wp_iload q36_38 h4 ?_
    refine wp_aload_n q36_40 h0 ?_
    refine wp_getfield q36_41 ho f0 ?_
    refine wp_iload_n q36_44 h1 ?_
    refine wp_iconst q36_45 ?_
    refine wp_iadd q36_46 ?_
    refine wp_aaload (t := 0) q36_47 hw (by decide) iw ?_
    rw [hr]
    refine wp_iload q36_48 h5 ?_
    refine wp_iaload q36_50 hv iv ?_
    refine wp_iadd q36_51 ?_
    refine wp_istore q36_52 (Nat.le_of_ble_eq_true rfl) ?_
    refine wp_iinc q36_54 (h5' _) (Nat.le_of_ble_eq_true rfl) ?_
    refine wp_goto (t := 18) q36_57 (by rfl) ?_
    exact wp_le (B := B) (by omega) K
end MAC3
/-! closures of several steps -/
def qM (M : sM) (pc : Nat) (f : qF) : Prop := ∀ (d : Nat) (call : Nat → List Value → sH → Option sR) (cf : sK), (∀ k as h r, call k as h = some r → sGo1 mtv 10000000 (d + 1) k as h = some r) → cf.1 = pc → (∀ cf', f call cf = some (.inl cf') → ∀ B Q, sWp mtv (sGo1 mtv 10000000 (d + 1)) M none B cf' Q → sWp mtv (sGo1 mtv 10000000 (d + 1)) M none (B + 1000) cf Q) ∧ (∀ r, f call cf = some (.inr r) → ∀ Q : sR → Prop, Q r → sWp mtv (sGo1 mtv 10000000 (d + 1)) M none 1000 cf Q)
theorem qM_of {M : sM} {pc : Nat} {f : qF} (h : qS M pc f) : qM M pc f := by
  intro d call cf hc hp
  refine ⟨fun cf' hf B Q k => wp_le (B := B + 1) (by omega) (wp_step (sStep_mono hc (h call cf _ hp hf)) k), fun r hf Q k => wp_le (B := 0 + 1) (by omega) (wp_end (sStep_mono hc (h call cf _ hp hf)) k)⟩
def fOr (f g : qF) : qF := fun call cf => match f call cf with
  | some z => some z
  | none => g call cf
theorem qM_or {M : sM} {pc : Nat} {f g : qF} (hf : qM M pc f) (hg : qM M pc g) : qM M pc (fOr f g) := by
  intro d call cf hc hp
  obtain ⟨f1, f2⟩ := hf d call cf hc hp
  obtain ⟨g1, g2⟩ := hg d call cf hc hp
  refine ⟨fun cf' h => ?_, fun r h => ?_⟩
  · unfold fOr at h
    split at h
    · next z hz => exact f1 cf' (hz.trans h)
    · exact g1 cf' h
  · unfold fOr at h
    split at h
    · next z hz => exact f2 r (hz.trans h)
    · exact g2 r h
def qOkM (M : sM) (C : Nat → Option qF) : Prop := ∀ pc f, C pc = some f → qM M pc f
theorem qOkM_of {M : sM} {C : Nat → Option qF} (h : qOk M C) : qOkM M C := fun pc f hf => qM_of (h pc f hf)
theorem qOkM_add {M : sM} {C : Nat → Option qF} {p : Nat} {f0 : qF} (h : qOkM M C) (h0 : qM M p f0) : qOkM M (fun pc => bif Nat.beq pc p then some f0 else C pc) := by
  intro pc f' h'
  have h' : (bif Nat.beq pc p then some f0 else C pc) = some f' := h'
  cases hb : Nat.beq pc p with
  | true =>
    rw [hb] at h'
    cases h'
    rw [Nat.eq_of_beq_eq_true hb]
    exact h0
  | false => rw [hb] at h'; exact h pc f' h'
theorem qRun_okM {d : Nat} {call : Nat → List Value → sH → Option sR} (hc : ∀ k as h r, call k as h = some r → sGo1 mtv 10000000 (d + 1) k as h = some r) {M : sM} {C : Nat → Option qF} (hC : qOkM M C) : ∀ (n : Nat) (cf : sK) (r : sR), qRun call C n cf = some r → sWp mtv (sGo1 mtv 10000000 (d + 1)) M none (1000 * n) cf (fun r' => r' = r)
  | 0, cf, r, h => nomatch h
  | n + 1, cf, r, h => by
    have h : (match C cf.1 with
      | some f => match f call cf with
        | some (.inl k) => qRun call C n k
        | some (.inr r) => some r
        | none => none
      | none => none) = some r := h
    split at h
    · next f hf =>
      obtain ⟨f1, f2⟩ := hC _ _ hf d call cf hc rfl
      split at h
      · next k hk => exact wp_le (B := 1000 * n + 1000) (by omega) (f1 k hk _ _ (qRun_okM hc hC n k r h))
      · next r' hk => cases h; exact wp_le (B := 1000) (by omega) (f2 _ hk _ rfl)
      · cases h
    · cases h
/-- the quicker machine with told calls -/
noncomputable def qGt (tl : Nat → List Value → sH → Option sR) (T : Nat → Option (Nat → Option qF)) (n d : Nat) : Nat → List Value → sH → Option sR :=
  Nat.rec (fun _ _ _ => none) (fun _ ih k as h => match tl k as h with
    | some r => some r
    | none => match T k with
      | some C => cond (Nat.ble (sCat as) (mL (mtv k))) (qRun ih C n (0, lv_args 0 as, [], h, 0, 0)) none
      | none => none) d
theorem qGt_ok {tl : Nat → List Value → sH → Option sR} {T : Nat → Option (Nat → Option qF)} {n : Nat} (hn : 1000 * n ≤ 10000000) (htl : ∀ d k as h r, tl k as h = some r → sGo1 mtv 10000000 (d + 1) k as h = some r) (hT : ∀ k C, T k = some C → qOkM (mtv k) C) : ∀ (d k : Nat) (as : List Value) (h : sH) (r : sR), qGt tl T n d k as h = some r → sGo1 mtv 10000000 (d + 1) k as h = some r
  | 0, k, as, h, r, hr => nomatch hr
  | d + 1, k, as, h, r, hr => by
    have hr : (match tl k as h with
      | some r => some r
      | none => match T k with
        | some C => cond (Nat.ble (sCat as) (mL (mtv k))) (qRun (qGt tl T n d) C n (0, lv_args 0 as, [], h, 0, 0)) none
        | none => none) = some r := hr
    split at hr
    · next r' h9 => cases hr; exact htl _ _ _ _ _ h9
    · split at hr
      · next C hC =>
        cases hb : Nat.ble (sCat as) (mL (mtv k)) with
        | true =>
          rw [hb] at hr
          exact sG_wp (B := 1000 * n) (Nat.le_of_ble_eq_true hb) hn (qRun_okM (qGt_ok hn htl hT d) (hT k C hC) n _ _ hr)
        | false => rw [hb] at hr; cases hr
      · cases hr
def aF (x : Int32) : Int32 := cond (Nat.ble (kb 0) (kb x)) x (nSub 0 x)
theorem aF_eq (x : Int32) : aF x = sAbs x := by
  unfold aF sAbs
  rw [kb_le, nNeg_eq]
  rfl
theorem aF_eq2 (x : Int32) : aF x = aAbs x := by
  unfold aF aAbs
  rw [kb_le, nSub_eq]
  by_cases h : 0 ≤ x
  · rw [decide_eq_true h, if_pos h]; rfl
  · rw [decide_eq_false h, if_neg h]; rfl
def qTl (k : Nat) (as : List Value) (h : sH) : Option sR := bif Nat.beq k 213 then (match as with
    | [.int x] => some (.inl (some (.int (aF x))), h)
    | _ => none) else bif Nat.beq k 35 then (match as with
    | [.int x, .int y] => some (.inl (some (.long ((1 : Int64) <<< ((8 * x + y).toInt64 &&& 63)))), h)
    | _ => none) else none
theorem qTl_ok : ∀ d k as h r, qTl k as h = some r → sGo1 mtv 10000000 (d + 1) k as h = some r := by
  intro d k as h r hr
  unfold qTl at hr
  cases h1 : Nat.beq k 213 with
  | true =>
    rw [h1] at hr
    dsimp only [cond] at hr
    rw [Nat.eq_of_beq_eq_true h1]
    split at hr
    · cases hr; rw [aF_eq]; exact amount_ok _
    · cases hr
  | false =>
    rw [h1] at hr
    dsimp only [cond] at hr
    cases h2 : Nat.beq k 35 with
    | true =>
      rw [h2] at hr
      dsimp only [cond] at hr
      rw [Nat.eq_of_beq_eq_true h2]
      split at hr
      · cases hr; exact bit_ok _ _
      · cases hr
    | false => rw [h2] at hr; cases hr
/-! readers -/
def oI (o : Option Value) : Option Int32 := match o with
  | some (.int x) => some x
  | _ => none
def oR (o : Option Value) : Option Nat := match o with
  | some (.ref x) => some x
  | _ => none
def oO (c : Nat) (o : Option sC) : Option (List Value) := match o with
  | some (.inr q) => cond (Nat.beq q.1 c) (some q.2) none
  | _ => none
def oA (t : Nat) (o : Option sC) : Option (List Value) := match o with
  | some (.inl q) => cond (Nat.beq q.1 t) (some q.2) none
  | _ => none
def oG (b : Bool) : Option Unit := cond b (some ()) none
def oN (st : List Value) : Option Unit := match st with
  | [] => some ()
  | _ => none
theorem oI_s {o : Option Value} {x : Int32} (h : oI o = some x) : o = some (.int x) := by
  unfold oI at h; split at h <;> cases h; rfl
theorem oR_s {o : Option Value} {x : Nat} (h : oR o = some x) : o = some (.ref x) := by
  unfold oR at h; split at h <;> cases h; rfl
theorem oO_s {c : Nat} {o : Option sC} {x : List Value} (h : oO c o = some x) : o = some (.inr (c, x)) := by
  unfold oO at h
  split at h
  · next q =>
    cases hb : Nat.beq q.1 c with
    | true => rw [hb] at h; cases h; rw [← Nat.eq_of_beq_eq_true hb]
    | false => rw [hb] at h; cases h
  · cases h
theorem oA_s {c : Nat} {o : Option sC} {x : List Value} (h : oA c o = some x) : o = some (.inl (c, x)) := by
  unfold oA at h
  split at h
  · next q =>
    cases hb : Nat.beq q.1 c with
    | true => rw [hb] at h; cases h; rw [← Nat.eq_of_beq_eq_true hb]
    | false => rw [hb] at h; cases h
  · cases h
theorem oG_s {b : Bool} {u : Unit} (h : oG b = some u) : b = true := by
  cases b
  · cases h
  · rfl
theorem oN_s {st : List Value} {u : Unit} (h : oN st = some u) : st = [] := by
  unfold oN at h; split at h <;> cases h; rfl
theorem tn_at {i : Int32} {w : List Value} {v : Value} (h : hGet w (tn i) = some v) (h2 : Nat.blt (tn i) 2147483648 = true) : sIn i w.length = true ∧ i.toNatClampNeg = tn i ∧ w.getD i.toNatClampNeg .null = v := by
  rw [hGet_eq] at h
  obtain ⟨hk, -⟩ := List.getElem?_eq_some_iff.mp h
  obtain ⟨h3, h4⟩ := tn_in hk h2
  exact ⟨h3, h4, by rw [h4, List.getD_eq_getElem?_getD, h]; rfl⟩
def fA1 (n k ap sp fi A my : Int32) (v : Int32) : Int32 := cond (qC2 .gt (aF (nSub k n)) ap) 0 (cond (qC2 .gt (nMul sp (aF (nSub k n))) A) 0 (cond (qC2 .ge (nAdd fi (nMul k sp)) my) 0 v))
theorem fA1_eq (n k ap sp fi A my v : Int32) : fA1 n k ap sp fi A my v = mAdd n k ap sp fi A my v := by
  unfold fA1 mAdd
  simp only [qC2_eq, aF_eq, nSub_eq, nMul_eq, nAdd_eq]
noncomputable def fM1 : qF := fun _ cf => (oN cf.2.2.1).bind fun _ => (oI (fLk 9 cf.2.1)).bind fun n => (oI (fLk 3 cf.2.1)).bind fun dp => (oG (!qC2 .ge n dp)).bind fun _ => (oI (fLk 8 cf.2.1)).bind fun k => (oI (fLk 4 cf.2.1)).bind fun ap => (oI (fLk 2 cf.2.1)).bind fun sp => (oI (fLk 1 cf.2.1)).bind fun fi => (oR (fLk 0 cf.2.1)).bind fun o => (oR (fLk 5 cf.2.1)).bind fun wa => (oR (fLk 6 cf.2.1)).bind fun nx => (oO 9 (hGet cf.2.2.2.1 o)).bind fun fs => (oI (hGet fs 33)).bind fun A => (oI (hGet fs 32)).bind fun my => (oA 0 (hGet cf.2.2.2.1 nx)).bind fun wn => (oA 0 (hGet cf.2.2.2.1 wa)).bind fun ww => (hGet wn (tn k)).bind fun vk => (hGet ww (tn n)).bind fun vn => (oG (Nat.blt (tn k) 2147483648 && (Nat.blt (tn n) 2147483648 && (Nat.ble cf.2.2.2.2.1 2 && Nat.ble cf.2.2.2.2.2 12)))).bind fun _ => some (.inl (141, fS1 9 (.int (nAdd n 1)) cf.2.1, [], hSet cf.2.2.2.1 nx (.inl (0, hSet wn (tn k) (.int (nAdd (iOf vk) (fA1 n k ap sp fi A my (iOf vn)))))), cf.2.2.2.2.1, cf.2.2.2.2.2))
theorem fM1_ok : qM (mtv 256) 141 fM1 := by
  rintro d call ⟨p, lv, st, h, cl, sl⟩ hc rfl
  refine ⟨fun cf' hf B Q K => ?_, fun r hf => ?_⟩
  · unfold fM1 at hf
    simp only [Option.bind_eq_some_iff] at hf
    obtain ⟨_, e0, n, e9, dp, e3, _, eg, k, e8, ap, e4, sp, e2, fi, e1, o, eo, wa, e5, nx, e6, fs, ef, A, eA, my, em, wn, en, ww, ew, vk, ek, vn, ev, _, eb, er⟩ := hf
    have e0 := oN_s e0
    subst e0
    rw [fLk_eq] at e9 e3 e8 e4 e2 e1 eo e5 e6
    have eg := oG_s eg
    have eb := oG_s eb
    simp only [Bool.and_eq_true] at eb
    obtain ⟨a1, a2, a3⟩ := tn_at ek eb.1
    obtain ⟨b1, b2, b3⟩ := tn_at ev eb.2.1
    rw [hGet_eq] at ef eA em en ew
    cases er
    refine wp_le (B := B + 60) (by omega) ?_
    refine m1_ok (oI_s e9) (oI_s e8) (oI_s e3) (oI_s e4) (oI_s e2) (oI_s e1) (oR_s eo) (oR_s e5) (oR_s e6) ?_ (oO_s ef) (oI_s eA) (oI_s em) (oA_s en) (oA_s ew) a1 b1 ⟨Nat.le_of_ble_eq_true eb.2.2.1, Nat.le_of_ble_eq_true eb.2.2.2⟩ ?_
    · rw [← qC2_eq]; simpa using eg
    · rw [a3, b3, a2]
      rw [fS1_eq, hSet_eq, hSet_eq, nAdd_eq, nAdd_eq, fA1_eq] at K
      exact K
  · unfold fM1 at hf
    simp only [Option.bind_eq_some_iff] at hf
    obtain ⟨_, e0, n, e9, dp, e3, _, eg, k, e8, ap, e4, sp, e2, fi, e1, o, eo, wa, e5, nx, e6, fs, ef, A, eA, my, em, wn, en, ww, ew, vk, ek, vn, ev, _, eb, er⟩ := hf
    cases er
def fA2 (n k A pv : Int32) (v : Int32) : Int32 := cond (qC2 .gt (aF (nSub k n)) A) 0 (cond (qC2 .ne ((pv >>> (k &&& 31)) &&& Int32.ofInt 1) (Int32.ofInt 1)) 0 v)
theorem fA2_eq (n k A pv v : Int32) : fA2 n k A pv v = mAdd2 n k A pv v := by
  unfold fA2 mAdd2
  simp only [qC2_eq, aF_eq, nSub_eq]
noncomputable def fM2 : qF := fun _ cf => (oN cf.2.2.1).bind fun _ => (oI (fLk 5 cf.2.1)).bind fun n => (oI (fLk 4 cf.2.1)).bind fun k => (oI (fLk 3 cf.2.1)).bind fun ch => (oR (fLk 0 cf.2.1)).bind fun o => (oR (fLk 1 cf.2.1)).bind fun wa => (oR (fLk 2 cf.2.1)).bind fun nx => (oO 9 (hGet cf.2.2.2.1 o)).bind fun fs => (oI (hGet fs 33)).bind fun A => (oI (hGet fs 32)).bind fun my => (oG (!qC2 .ge n my)).bind fun _ => (oR (hGet fs 20)).bind fun pi => (oA 0 (hGet cf.2.2.2.1 nx)).bind fun wn => (oA 0 (hGet cf.2.2.2.1 wa)).bind fun ww => (oA 0 (hGet cf.2.2.2.1 pi)).bind fun wp => (hGet wn (tn k)).bind fun vk => (hGet ww (tn n)).bind fun vn => (hGet wp (tn ch)).bind fun vp => (oG (Nat.blt (tn k) 2147483648 && (Nat.blt (tn n) 2147483648 && (Nat.blt (tn ch) 2147483648 && (Nat.ble cf.2.2.2.2.1 2 && Nat.ble cf.2.2.2.2.2 12))))).bind fun _ => some (.inl (69, fS1 5 (.int (nAdd n 1)) cf.2.1, [], hSet cf.2.2.2.1 nx (.inl (0, hSet wn (tn k) (.int (nAdd (iOf vk) (fA2 n k A (iOf vp) (iOf vn)))))), cf.2.2.2.2.1, cf.2.2.2.2.2))
theorem fM2_ok : qM (mtv 212) 69 fM2 := by
  rintro d call ⟨p, lv, st, h, cl, sl⟩ hc rfl
  refine ⟨fun cf' hf B Q K => ?_, fun r hf => ?_⟩
  · unfold fM2 at hf
    simp only [Option.bind_eq_some_iff] at hf
    obtain ⟨_, e0, n, e5, k, e4, ch, e3, o, eo, wa, e1, nx, e2, fs, ef, A, eA, my, em, _, eg, pi, epi, wn, en, ww, ew, wp, ep, vk, ek, vn, ev, vp, evp, _, eb, er⟩ := hf
    have e0 := oN_s e0
    subst e0
    rw [fLk_eq] at e5 e4 e3 eo e1 e2
    have eg := oG_s eg
    have eb := oG_s eb
    simp only [Bool.and_eq_true] at eb
    obtain ⟨a1, a2, a3⟩ := tn_at ek eb.1
    obtain ⟨b1, b2, b3⟩ := tn_at ev eb.2.1
    obtain ⟨c1, c2, c3⟩ := tn_at evp eb.2.2.1
    rw [hGet_eq] at ef eA em epi en ew ep
    cases er
    refine wp_le (B := B + 60) (by omega) ?_
    refine m2_ok (oI_s e5) (oI_s e4) (oI_s e3) (oR_s eo) (oR_s e1) (oR_s e2) ?_ (oO_s ef) (oI_s eA) (oI_s em) (oR_s epi) (oA_s en) (oA_s ew) (oA_s ep) a1 b1 c1 ⟨Nat.le_of_ble_eq_true eb.2.2.2.1, Nat.le_of_ble_eq_true eb.2.2.2.2⟩ ?_
    · rw [← qC2_eq]; simpa using eg
    · rw [a3, b3, c3, a2]
      rw [fS1_eq, hSet_eq, hSet_eq, nAdd_eq, nAdd_eq, fA2_eq] at K
      exact K
  · unfold fM2 at hf
    simp only [Option.bind_eq_some_iff] at hf
    obtain ⟨_, e0, n, e5, k, e4, ch, e3, o, eo, wa, e1, nx, e2, fs, ef, A, eA, my, em, _, eg, pi, epi, wn, en, ww, ew, wp, ep, vk, ek, vn, ev, vp, evp, _, eb, er⟩ := hf
    cases er
noncomputable def fM3 : qF := fun _ cf => (oN cf.2.2.1).bind fun _ => (oI (fLk 5 cf.2.1)).bind fun n => (oI (fLk 4 cf.2.1)).bind fun s => (oI (fLk 3 cf.2.1)).bind fun lim => (oI (fLk 2 cf.2.1)).bind fun dep => (oI (fLk 1 cf.2.1)).bind fun c => (oR (fLk 0 cf.2.1)).bind fun o => (oO 4 (hGet cf.2.2.2.1 o)).bind fun fs => (oI (hGet fs 2)).bind fun dp => (oG (!qC2 .ge n dp)).bind fun _ => (oR (hGet fs 0)).bind fun w => (oA 4 (hGet cf.2.2.2.1 w)).bind fun rows => (hGet rows (tn (nAdd c 1))).bind fun vr => (oR (some (rOf vr))).bind fun r => (oA 0 (hGet cf.2.2.2.1 r)).bind fun vals => (hGet vals (tn n)).bind fun vn => (oI (fLk 5 (fS1 4 .null cf.2.1))).bind fun n' => (oG (Nat.blt (tn (nAdd c 1)) 2147483648 && (Nat.blt (tn n) 2147483648 && Nat.beq (tn n') (tn n)))).bind fun _ => some (.inl (18, fS1 5 (.int (nAdd n 1)) (cond (qC2 .gt (aF (nSub n dep)) lim) cf.2.1 (fS1 4 (.int (nAdd s (iOf vn))) cf.2.1)), [], cf.2.2.2.1, cf.2.2.2.2.1, cf.2.2.2.2.2))
theorem tn_inj {x y : Int32} (h : tn x = tn y) : x = y := by
  apply Int32.toBitVec_inj.mp
  apply BitVec.eq_of_toNat_eq
  exact h
theorem fM3_ok : qM (mtv 36) 18 fM3 := by
  rintro d call ⟨p, lv, st, h, cl, sl⟩ hc rfl
  refine ⟨fun cf' hf B Q K => ?_, fun r hf => ?_⟩
  · unfold fM3 at hf
    simp only [Option.bind_eq_some_iff] at hf
    obtain ⟨_, e0, n, e5, s, e4, lim, e3, dep, e2, c, e1, o, eo, fs, ef, dp, ed, _, eg, w, ew, rows, er, vr, evr, r, ervr, vals, ev, vn, evn, n', en', _, eb, ere⟩ := hf
    have e0 := oN_s e0
    subst e0
    rw [fLk_eq] at e5 e4 e3 e2 e1 eo en'
    have eg := oG_s eg
    have eb := oG_s eb
    simp only [Bool.and_eq_true] at eb
    obtain ⟨a1, a2, a3⟩ := tn_at evr eb.1
    obtain ⟨b1, b2, b3⟩ := tn_at evn eb.2.1
    have hn' : n' = n := tn_inj (Nat.eq_of_beq_eq_true eb.2.2)
    rw [hGet_eq] at ef ed ew er ev
    have ervr := oR_s ervr
    cases ere
    rw [fS1_eq, hn'] at en'
    have h5' : ∀ v : Value, sLk 5 (sS1 4 v lv) = some (.int n) := fun v => oI_s en'
    rw [nAdd_eq] at a1 a2 a3
    refine wp_le (B := B + 60) (by omega) ?_
    refine m3_ok (oI_s e5) (oI_s e4) (oI_s e3) (oI_s e2) (oI_s e1) (oR_s eo) ?_ (oO_s ef) (oI_s ed) (oR_s ew) (oA_s er) a1 ?_ (oA_s ev) b1 h5' ?_
    · rw [← qC2_eq]; simpa using eg
    · show rOf (rows.getD (c + 1).toNatClampNeg .null) = _
      rw [a3]; exact Option.some.inj ervr
    · rw [b3]
      rw [fS1_eq, fS1_eq, nAdd_eq, nAdd_eq, qC2_eq, nSub_eq, aF_eq2] at K
      exact K
  · unfold fM3 at hf
    simp only [Option.bind_eq_some_iff] at hf
    obtain ⟨_, e0, n, e5, s, e4, lim, e3, dep, e2, c, e1, o, eo, fs, ef, dp, ed, _, eg, w, ew, rows, er, vr, evr, r, ervr, vals, ev, vn, evn, n', en', _, eb, ere⟩ := hf
    cases ere
/-! whole inner loops at once -/
theorem sLk_sS1 {i j : Nat} {v w : Value} (hij : j ≠ i) (hc : w.category = 1) : ∀ {l : sL}, sLk j l = some w → sLk j (sS1 i v l) = some w := by
  have key : ∀ {l : sL}, sLk j l = some w → sLk j (sDr i l) = some w := by
    intro l
    induction l with
    | nil => intro h; cases h
    | cons q l ih =>
      intro h
      unfold sDr
      rw [List.filter_cons]
      unfold sLk at h
      split at h
      · next e =>
        cases h
        have h1 : (!(q.1 == i) && !(q.1 + 1 == i && q.2.category == 2)) = true := by
          rw [hc]
          have : q.1 ≠ i := by rw [e]; exact hij
          simp [this]
        rw [if_pos h1]
        unfold sLk
        rw [if_pos e]
      · next e =>
        split
        · unfold sLk
          rw [if_neg e]
          exact ih h
        · exact ih h
  intro l h
  unfold sS1 sLk
  rw [if_neg (fun e => hij e.symm)]
  exact key h
theorem sLk_sS1_self {i : Nat} {v : Value} {l : sL} : sLk i (sS1 i v l) = some v := by
  unfold sS1 sLk
  rw [if_pos rfl]
theorem sS1_sS1 {i : Nat} {v u : Value} {l : sL} : sS1 i v (sS1 i u l) = sS1 i v l := by
  unfold sS1 sDr
  rw [List.filter_cons]
  have h1 : (!(((i, u) : Nat × Value).1 == i) && !(((i, u) : Nat × Value).1 + 1 == i && ((i, u) : Nat × Value).2.category == 2)) = false := by simp
  rw [h1]
  rw [if_neg (by decide), List.filter_filter]
  simp only [Bool.and_self]
section L1
variable {d cl sl B : Nat} {Q : sR → Prop} {h : sH} {lv : sL}
noncomputable def gL1 (k ap sp fi A my dp : Int32) (ww : List Value) : Nat → Int32 → Int32 → Option (Int32 × Int32) := Nat.rec (fun _ _ => none) (fun _ ih n acc => cond (qC2 .ge n dp) (some (n, acc)) ((hGet ww (tn n)).bind fun vn => (oG (Nat.blt (tn n) 2147483648)).bind fun _ => ih (nAdd n 1) (nAdd acc (fA1 n k ap sp fi A my (iOf vn)))))
theorem L1_ok {k dp ap sp fi A my : Int32} {o wa nx : Nat} {fs wn ww : List Value} (h8 : sLk 8 lv = some (.int k)) (h3 : sLk 3 lv = some (.int dp)) (h4 : sLk 4 lv = some (.int ap)) (h2 : sLk 2 lv = some (.int sp)) (h1 : sLk 1 lv = some (.int fi)) (h0 : sLk 0 lv = some (.ref o)) (h5 : sLk 5 lv = some (.ref wa)) (h6 : sLk 6 lv = some (.ref nx))
    (ho : h[o]? = some (.inr (9, fs))) (f33 : fs[33]? = some (.int A)) (f32 : fs[32]? = some (.int my)) (hn : h[nx]? = some (.inl (0, wn))) (hw : h[wa]? = some (.inl (0, ww))) (hne : nx ≠ wa) (ik : sIn k wn.length = true) (hcl : cl ≤ 2 ∧ sl ≤ 12) :
    ∀ (f : Nat) (n acc n' acc' : Int32), gL1 k ap sp fi A my dp ww f n acc = some (n', acc') → sWp mtv (sGo1 mtv 10000000 (d + 1)) (mtv 256) none B (213, sS1 9 (.int n') lv, [], h.set nx (.inl (0, wn.set k.toNatClampNeg (.int acc'))), cl, sl) Q → sWp mtv (sGo1 mtv 10000000 (d + 1)) (mtv 256) none (B + 60 * f) (141, sS1 9 (.int n) lv, [], h.set nx (.inl (0, wn.set k.toNatClampNeg (.int acc))), cl, sl) Q := by
  intro f
  induction f with
  | zero =>
    intro n acc n' acc' hg K
    have hg : (none : Option (Int32 × Int32)) = some (n', acc') := hg
    cases hg
  | succ f ihf =>
    intro n acc n' acc' hg K
    have hg : cond (qC2 .ge n dp) (some (n, acc)) ((hGet ww (tn n)).bind fun vn => (oG (Nat.blt (tn n) 2147483648)).bind fun _ => gL1 k ap sp fi A my dp ww f (nAdd n 1) (nAdd acc (fA1 n k ap sp fi A my (iOf vn)))) = some (n', acc') := hg
    have hlen : k.toNatClampNeg < wn.length := by
      have h9 := sIn_ok ik
      exact Nat.not_le.mp (fun h8 => h9 (Or.inr h8))
    have hnx : nx < h.length := (List.getElem?_eq_some_iff.mp hn).1
    cases c0 : sC2 .ge n dp with
    | true =>
      rw [qC2_eq, c0] at hg
      cases hg
      refine wp_le (B := B + 3) (by omega) ?_
      refine wp_iload q256_141 sLk_sS1_self ?_
      refine wp_iload_n q256_143 (sLk_sS1 (by decide) rfl h3) ?_
      exact wp_ict (t := 213) q256_144 c0 (by rfl) K
    | false =>
      rw [qC2_eq, c0] at hg
      dsimp only [cond] at hg
      simp only [Option.bind_eq_some_iff] at hg
      obtain ⟨vn, ev, _, eb, hg⟩ := hg
      obtain ⟨b1, b2, b3⟩ := tn_at ev (oG_s eb)
      have ih := ihf _ _ _ _ hg K
      have hono : nx ≠ o := fun e => by rw [e, ho] at hn; cases hn
      refine wp_le (B := (B + 60 * f) + 60) (by omega) ?_
      refine m1_ok (wn := wn.set k.toNatClampNeg (.int acc)) (ww := ww) (fs := fs) (A := A) (my := my) sLk_sS1_self (sLk_sS1 (by decide) rfl h8) (sLk_sS1 (by decide) rfl h3) (sLk_sS1 (by decide) rfl h4) (sLk_sS1 (by decide) rfl h2) (sLk_sS1 (by decide) rfl h1) (sLk_sS1 (by decide) rfl h0) (sLk_sS1 (by decide) rfl h5) (sLk_sS1 (by decide) rfl h6) c0 ?_ f33 f32 ?_ ?_ ?_ b1 hcl ?_
      · rw [List.getElem?_set_ne hono]; exact ho
      · rw [List.getElem?_set_self hnx]
      · rw [List.getElem?_set_ne hne]; exact hw
      · rw [List.length_set]; exact ik
      · rw [sS1_sS1, List.set_set, List.set_set, b3]
        have e1 : (wn.set k.toNatClampNeg (Value.int acc)).getD k.toNatClampNeg .null = .int acc := by
          rw [List.getD_eq_getElem?_getD, List.getElem?_set_self hlen]; rfl
        rw [e1]
        rw [nAdd_eq, nAdd_eq, fA1_eq] at ih
        exact ih
end L1
section L2
variable {d cl sl B : Nat} {Q : sR → Prop} {h : sH} {lv : sL}
noncomputable def gL2 (k A pv my : Int32) (ww : List Value) : Nat → Int32 → Int32 → Option (Int32 × Int32) := Nat.rec (fun _ _ => none) (fun _ ih n acc => cond (qC2 .ge n my) (some (n, acc)) ((hGet ww (tn n)).bind fun vn => (oG (Nat.blt (tn n) 2147483648)).bind fun _ => ih (nAdd n 1) (nAdd acc (fA2 n k A pv (iOf vn)))))
theorem L2_ok {k ch A my : Int32} {o wa nx pi : Nat} {fs wn ww wp : List Value} (h4 : sLk 4 lv = some (.int k)) (h3 : sLk 3 lv = some (.int ch)) (h0 : sLk 0 lv = some (.ref o)) (h1 : sLk 1 lv = some (.ref wa)) (h2 : sLk 2 lv = some (.ref nx))
    (ho : h[o]? = some (.inr (9, fs))) (f33 : fs[33]? = some (.int A)) (f32 : fs[32]? = some (.int my)) (f20 : fs[20]? = some (.ref pi)) (hn : h[nx]? = some (.inl (0, wn))) (hw : h[wa]? = some (.inl (0, ww))) (hp : h[pi]? = some (.inl (0, wp))) (hne : nx ≠ wa) (hne2 : nx ≠ pi) (ik : sIn k wn.length = true) (ip : sIn ch wp.length = true) (hcl : cl ≤ 2 ∧ sl ≤ 12) :
    ∀ (f : Nat) (n acc n' acc' : Int32), gL2 k A (iOf (wp.getD ch.toNatClampNeg .null)) my ww f n acc = some (n', acc') → sWp mtv (sGo1 mtv 10000000 (d + 1)) (mtv 212) none B (129, sS1 5 (.int n') lv, [], h.set nx (.inl (0, wn.set k.toNatClampNeg (.int acc'))), cl, sl) Q → sWp mtv (sGo1 mtv 10000000 (d + 1)) (mtv 212) none (B + 60 * f) (69, sS1 5 (.int n) lv, [], h.set nx (.inl (0, wn.set k.toNatClampNeg (.int acc))), cl, sl) Q := by
  have hlen : k.toNatClampNeg < wn.length := by
    have h9 := sIn_ok ik
    exact Nat.not_le.mp (fun h8 => h9 (Or.inr h8))
  have hnx : nx < h.length := (List.getElem?_eq_some_iff.mp hn).1
  have hono : nx ≠ o := fun e => by rw [e, ho] at hn; cases hn
  intro f
  induction f with
  | zero =>
    intro n acc n' acc' hg K
    have hg : (none : Option (Int32 × Int32)) = some (n', acc') := hg
    cases hg
  | succ f ihf =>
    intro n acc n' acc' hg K
    have hg : cond (qC2 .ge n my) (some (n, acc)) ((hGet ww (tn n)).bind fun vn => (oG (Nat.blt (tn n) 2147483648)).bind fun _ => gL2 k A (iOf (wp.getD ch.toNatClampNeg .null)) my ww f (nAdd n 1) (nAdd acc (fA2 n k A (iOf (wp.getD ch.toNatClampNeg .null)) (iOf vn)))) = some (n', acc') := hg
    have hob : (h.set nx (.inl (0, wn.set k.toNatClampNeg (.int acc))))[o]? = some (.inr (9, fs)) := by rw [List.getElem?_set_ne hono]; exact ho
    cases c0 : sC2 .ge n my with
    | true =>
      rw [qC2_eq, c0] at hg
      cases hg
      refine wp_le (B := B + 4) (by omega) ?_
      refine wp_iload q212_69 sLk_sS1_self ?_
      refine wp_aload_n q212_71 (sLk_sS1 (by decide) rfl h0) ?_
      refine wp_getfield q212_72 hob f32 ?_
      exact wp_ict (t := 129) q212_75 c0 (by rfl) K
    | false =>
      rw [qC2_eq, c0] at hg
      dsimp only [cond] at hg
      simp only [Option.bind_eq_some_iff] at hg
      obtain ⟨vn, ev, _, eb, hg⟩ := hg
      obtain ⟨b1, b2, b3⟩ := tn_at ev (oG_s eb)
      have ih := ihf _ _ _ _ hg K
      refine wp_le (B := (B + 60 * f) + 60) (by omega) ?_
      refine m2_ok (wn := wn.set k.toNatClampNeg (.int acc)) (ww := ww) (wp := wp) (fs := fs) (A := A) (my := my) (pi := pi) sLk_sS1_self (sLk_sS1 (by decide) rfl h4) (sLk_sS1 (by decide) rfl h3) (sLk_sS1 (by decide) rfl h0) (sLk_sS1 (by decide) rfl h1) (sLk_sS1 (by decide) rfl h2) c0 hob f33 f32 f20 ?_ ?_ ?_ ?_ b1 ip hcl ?_
      · rw [List.getElem?_set_self hnx]
      · rw [List.getElem?_set_ne hne]; exact hw
      · rw [List.getElem?_set_ne hne2]; exact hp
      · rw [List.length_set]; exact ik
      · rw [sS1_sS1, List.set_set, List.set_set, b3]
        have e1 : (wn.set k.toNatClampNeg (Value.int acc)).getD k.toNatClampNeg .null = .int acc := by
          rw [List.getD_eq_getElem?_getD, List.getElem?_set_self hlen]; rfl
        rw [e1]
        rw [nAdd_eq, nAdd_eq, fA2_eq] at ih
        exact ih
end L2
noncomputable def fL1 : qF := fun _ cf => (oN cf.2.2.1).bind fun _ => (oI (fLk 9 cf.2.1)).bind fun n => (oI (fLk 3 cf.2.1)).bind fun dp => (oG (!qC2 .ge n dp)).bind fun _ => (oI (fLk 8 cf.2.1)).bind fun k => (oI (fLk 4 cf.2.1)).bind fun ap => (oI (fLk 2 cf.2.1)).bind fun sp => (oI (fLk 1 cf.2.1)).bind fun fi => (oR (fLk 0 cf.2.1)).bind fun o => (oR (fLk 5 cf.2.1)).bind fun wa => (oR (fLk 6 cf.2.1)).bind fun nx => (oO 9 (hGet cf.2.2.2.1 o)).bind fun fs => (oI (hGet fs 33)).bind fun A => (oI (hGet fs 32)).bind fun my => (oA 0 (hGet cf.2.2.2.1 nx)).bind fun wn => (oA 0 (hGet cf.2.2.2.1 wa)).bind fun ww => (hGet wn (tn k)).bind fun vk => (hGet ww (tn n)).bind fun vn => (oG (Nat.blt (tn k) 2147483648 && (Nat.blt (tn n) 2147483648 && (Nat.ble cf.2.2.2.2.1 2 && (Nat.ble cf.2.2.2.2.2 12 && !Nat.beq nx wa))))).bind fun _ => (gL1 k ap sp fi A my dp ww 12 (nAdd n 1) (nAdd (iOf vk) (fA1 n k ap sp fi A my (iOf vn)))).bind fun q => some (.inl (213, fS1 9 (.int q.1) cf.2.1, [], hSet cf.2.2.2.1 nx (.inl (0, hSet wn (tn k) (.int q.2))), cf.2.2.2.2.1, cf.2.2.2.2.2))
theorem fL1_ok : qM (mtv 256) 141 fL1 := by
  rintro d call ⟨p, lv, st, h, cl, sl⟩ hc rfl
  refine ⟨fun cf' hf B Q K => ?_, fun r hf => ?_⟩
  · unfold fL1 at hf
    simp only [Option.bind_eq_some_iff] at hf
    obtain ⟨_, e0, n, e9, dp, e3, _, eg, k, e8, ap, e4, sp, e2, fi, e1, o, eo, wa, e5, nx, e6, fs, ef, A, eA, my, em, wn, en, ww, ew, vk, ek, vn, ev, _, eb, q, eq, er⟩ := hf
    have e0 := oN_s e0
    subst e0
    rw [fLk_eq] at e9 e3 e8 e4 e2 e1 eo e5 e6
    have eg := oG_s eg
    have eb := oG_s eb
    simp only [Bool.and_eq_true] at eb
    obtain ⟨a1, a2, a3⟩ := tn_at ek eb.1
    obtain ⟨b1, b2, b3⟩ := tn_at ev eb.2.1
    rw [hGet_eq] at ef eA em en ew
    have hne : nx ≠ wa := fun e => by have h9 := eb.2.2.2.2; rw [e] at h9; simp at h9
    have hcl : cl ≤ 2 ∧ sl ≤ 12 := ⟨Nat.le_of_ble_eq_true eb.2.2.1, Nat.le_of_ble_eq_true eb.2.2.2.1⟩
    obtain ⟨q1, q2⟩ := q
    cases er
    rw [fS1_eq, hSet_eq, hSet_eq] at K
    refine wp_le (B := (B + 60 * 12) + 60) (by omega) ?_
    refine m1_ok (oI_s e9) (oI_s e8) (oI_s e3) (oI_s e4) (oI_s e2) (oI_s e1) (oR_s eo) (oR_s e5) (oR_s e6) ?_ (oO_s ef) (oI_s eA) (oI_s em) (oA_s en) (oA_s ew) a1 b1 hcl ?_
    · rw [← qC2_eq]; simpa using eg
    · have L := L1_ok (B := B) (Q := Q) (d := d) (cl := cl) (sl := sl) (oI_s e8) (oI_s e3) (oI_s e4) (oI_s e2) (oI_s e1) (oR_s eo) (oR_s e5) (oR_s e6) (oO_s ef) (oI_s eA) (oI_s em) (oA_s en) (oA_s ew) hne a1 hcl 12 _ _ _ _ eq (by rw [a2]; exact K)
      rw [a3, b3]
      rw [nAdd_eq, nAdd_eq, fA1_eq] at L
      exact L
  · unfold fL1 at hf
    simp only [Option.bind_eq_some_iff] at hf
    obtain ⟨_, e0, n, e9, dp, e3, _, eg, k, e8, ap, e4, sp, e2, fi, e1, o, eo, wa, e5, nx, e6, fs, ef, A, eA, my, em, wn, en, ww, ew, vk, ek, vn, ev, _, eb, q, eq, er⟩ := hf
    cases er
noncomputable def fL2 : qF := fun _ cf => (oN cf.2.2.1).bind fun _ => (oI (fLk 5 cf.2.1)).bind fun n => (oI (fLk 4 cf.2.1)).bind fun k => (oI (fLk 3 cf.2.1)).bind fun ch => (oR (fLk 0 cf.2.1)).bind fun o => (oR (fLk 1 cf.2.1)).bind fun wa => (oR (fLk 2 cf.2.1)).bind fun nx => (oO 9 (hGet cf.2.2.2.1 o)).bind fun fs => (oI (hGet fs 33)).bind fun A => (oI (hGet fs 32)).bind fun my => (oG (!qC2 .ge n my)).bind fun _ => (oR (hGet fs 20)).bind fun pi => (oA 0 (hGet cf.2.2.2.1 nx)).bind fun wn => (oA 0 (hGet cf.2.2.2.1 wa)).bind fun ww => (oA 0 (hGet cf.2.2.2.1 pi)).bind fun wp => (hGet wn (tn k)).bind fun vk => (hGet ww (tn n)).bind fun vn => (hGet wp (tn ch)).bind fun vp => (oG (Nat.blt (tn k) 2147483648 && (Nat.blt (tn n) 2147483648 && (Nat.blt (tn ch) 2147483648 && (Nat.ble cf.2.2.2.2.1 2 && (Nat.ble cf.2.2.2.2.2 12 && (!Nat.beq nx wa && !Nat.beq nx pi))))))).bind fun _ => (gL2 k A (iOf vp) my ww 12 (nAdd n 1) (nAdd (iOf vk) (fA2 n k A (iOf vp) (iOf vn)))).bind fun q => some (.inl (129, fS1 5 (.int q.1) cf.2.1, [], hSet cf.2.2.2.1 nx (.inl (0, hSet wn (tn k) (.int q.2))), cf.2.2.2.2.1, cf.2.2.2.2.2))
theorem fL2_ok : qM (mtv 212) 69 fL2 := by
  rintro d call ⟨p, lv, st, h, cl, sl⟩ hc rfl
  refine ⟨fun cf' hf B Q K => ?_, fun r hf => ?_⟩
  · unfold fL2 at hf
    simp only [Option.bind_eq_some_iff] at hf
    obtain ⟨_, e0, n, e5, k, e4, ch, e3, o, eo, wa, e1, nx, e2, fs, ef, A, eA, my, em, _, eg, pi, epi, wn, en, ww, ew, wp, ep, vk, ek, vn, ev, vp, evp, _, eb, q, eq, er⟩ := hf
    have e0 := oN_s e0
    subst e0
    rw [fLk_eq] at e5 e4 e3 eo e1 e2
    have eg := oG_s eg
    have eb := oG_s eb
    simp only [Bool.and_eq_true] at eb
    obtain ⟨a1, a2, a3⟩ := tn_at ek eb.1
    obtain ⟨b1, b2, b3⟩ := tn_at ev eb.2.1
    obtain ⟨c1, c2, c3⟩ := tn_at evp eb.2.2.1
    rw [hGet_eq] at ef eA em epi en ew ep
    have hne : nx ≠ wa := fun e => by have h9 := eb.2.2.2.2.2.1; rw [e] at h9; simp at h9
    have hne2 : nx ≠ pi := fun e => by have h9 := eb.2.2.2.2.2.2; rw [e] at h9; simp at h9
    have hcl : cl ≤ 2 ∧ sl ≤ 12 := ⟨Nat.le_of_ble_eq_true eb.2.2.2.1, Nat.le_of_ble_eq_true eb.2.2.2.2.1⟩
    obtain ⟨q1, q2⟩ := q
    cases er
    rw [fS1_eq, hSet_eq, hSet_eq] at K
    refine wp_le (B := (B + 60 * 12) + 60) (by omega) ?_
    refine m2_ok (oI_s e5) (oI_s e4) (oI_s e3) (oR_s eo) (oR_s e1) (oR_s e2) ?_ (oO_s ef) (oI_s eA) (oI_s em) (oR_s epi) (oA_s en) (oA_s ew) (oA_s ep) a1 b1 c1 hcl ?_
    · rw [← qC2_eq]; simpa using eg
    · rw [← c3] at eq
      have L := L2_ok (B := B) (Q := Q) (d := d) (cl := cl) (sl := sl) (oI_s e4) (oI_s e3) (oR_s eo) (oR_s e1) (oR_s e2) (oO_s ef) (oI_s eA) (oI_s em) (oR_s epi) (oA_s en) (oA_s ew) (oA_s ep) hne hne2 a1 c1 hcl 12 _ _ _ _ eq (by rw [a2]; exact K)
      rw [a3, b3]
      rw [nAdd_eq, nAdd_eq, fA2_eq] at L
      exact L
  · unfold fL2 at hf
    simp only [Option.bind_eq_some_iff] at hf
    obtain ⟨_, e0, n, e5, k, e4, ch, e3, o, eo, wa, e1, nx, e2, fs, ef, A, eA, my, em, _, eg, pi, epi, wn, en, ww, ew, wp, ep, vk, ek, vn, ev, vp, evp, _, eb, q, eq, er⟩ := hf
    cases er
noncomputable def qw256 : Nat → Option qF := fun pc => bif Nat.beq pc 141 then some (fOr fL1 (fLdI 9 143)) else qc256 pc
noncomputable def qw212 : Nat → Option qF := fun pc => bif Nat.beq pc 69 then some (fOr fL2 (fLdI 5 71)) else qc212 pc
noncomputable def qw36 : Nat → Option qF := fun pc => bif Nat.beq pc 18 then some (fOr fM3 (fLdI 5 20)) else qc36 pc
theorem qw256_ok : qOkM (mtv 256) qw256 := qOkM_add (qOkM_of qd256) (qM_or fL1_ok (qM_of (q_iload q256_141 rfl)))
theorem qw212_ok : qOkM (mtv 212) qw212 := qOkM_add (qOkM_of qd212) (qM_or fL2_ok (qM_of (q_iload q212_69 rfl)))
theorem qw36_ok : qOkM (mtv 36) qw36 := qOkM_add (qOkM_of qd36) (qM_or fM3_ok (qM_of (q_iload q36_18 rfl)))
noncomputable def qU : Nat → Option (Nat → Option qF) := fun k => bif Nat.beq k 256 then some qw256 else bif Nat.beq k 212 then some qw212 else bif Nat.beq k 36 then some qw36 else qT k
theorem qU_ok : ∀ k C, qU k = some C → qOkM (mtv k) C := by
  intro k C h
  unfold qU at h
  cases h1 : Nat.beq k 256 with
  | true => rw [h1] at h; cases h; rw [Nat.eq_of_beq_eq_true h1]; exact qw256_ok
  | false =>
    rw [h1] at h
    dsimp only [cond] at h
    cases h2 : Nat.beq k 212 with
    | true => rw [h2] at h; cases h; rw [Nat.eq_of_beq_eq_true h2]; exact qw212_ok
    | false =>
      rw [h2] at h
      dsimp only [cond] at h
      cases h3 : Nat.beq k 36 with
      | true => rw [h3] at h; cases h; rw [Nat.eq_of_beq_eq_true h3]; exact qw36_ok
      | false => rw [h3] at h; exact qOkM_of (qT_ok k C h)
