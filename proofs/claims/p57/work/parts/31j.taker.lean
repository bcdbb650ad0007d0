/-! 31j: the model's taker ends, as each round sets a bit more -/
theorem i32_orand (x y z : Int32) : (x ||| y) &&& z = (x &&& z) ||| (y &&& z) := by
  apply Int32.toBitVec_inj.mp
  show (x.toBitVec ||| y.toBitVec) &&& z.toBitVec = (x.toBitVec &&& z.toBitVec) ||| (y.toBitVec &&& z.toBitVec)
  apply BitVec.eq_of_getLsbD_eq
  intro i _
  simp only [BitVec.getLsbD_and, BitVec.getLsbD_or]
  cases x.toBitVec.getLsbD i <;> cases y.toBitVec.getLsbD i <;> cases z.toBitVec.getLsbD i <;> rfl
theorem i32_orshr (x y k : Int32) : (x ||| y) >>> k = (x >>> k) ||| (y >>> k) := by
  apply Int32.toBitVec_inj.mp
  show BitVec.sshiftRight (x.toBitVec ||| y.toBitVec) _ = BitVec.sshiftRight x.toBitVec _ ||| BitVec.sshiftRight y.toBitVec _
  exact BitVec.sshiftRight_or_distrib _ _ _
/-- the bit k of p, as the method reads it -/
def tkb (p k : Int32) : Int32 := (p >>> (k &&& 31)) &&& 1
theorem tkb_01 (p k : Int32) : tkb p k = 0 ∨ tkb p k = 1 := by
  have h := i32_and (x := p >>> (k &&& 31)) (y := 1) (by decide)
  have h1 : (1 : Int32).toInt = 1 := rfl
  have h0 : (0 : Int32).toInt = 0 := rfl
  unfold tkb
  rcases (show ((p >>> (k &&& 31)) &&& 1).toInt = 0 ∨ ((p >>> (k &&& 31)) &&& 1).toInt = 1 by omega) with e | e
  · exact Or.inl (Int32.toInt_inj.mp (e.trans h0.symm))
  · exact Or.inr (Int32.toInt_inj.mp (e.trans h1.symm))
theorem tkb_or (p q k : Int32) : tkb (p ||| q) k = tkb p k ||| tkb q k := by
  unfold tkb
  rw [i32_orshr, i32_orand]
def tkt (p : Int32) (k : Nat) : Nat := if tkb p (Int32.ofNat k) = 1 then 0 else 1
theorem tkt_mono (p q : Int32) (k : Nat) : tkt (p ||| q) k ≤ tkt p k := by
  unfold tkt
  by_cases h : tkb p (Int32.ofNat k) = 1
  · have h2 : tkb (p ||| q) (Int32.ofNat k) = 1 := by
      rw [tkb_or, h]
      rcases tkb_01 q (Int32.ofNat k) with e | e <;> rw [e] <;> rfl
    rw [if_pos h, if_pos h2]
    exact Nat.le_refl _
  · rw [if_neg h]
    split
    · exact Nat.zero_le _
    · exact Nat.le_refl _
theorem tkt_set (p : Int32) (k : Nat) (hk : k < 8) : tkt (p ||| ((1 : Int32) <<< (Int32.ofNat k &&& 31))) k = 0 := by
  have h : tkb ((1 : Int32) <<< (Int32.ofNat k &&& 31)) (Int32.ofNat k) = 1 := by
    rcases (show k = 0 ∨ k = 1 ∨ k = 2 ∨ k = 3 ∨ k = 4 ∨ k = 5 ∨ k = 6 ∨ k = 7 by omega) with rfl | rfl | rfl | rfl | rfl | rfl | rfl | rfl <;> decide
  unfold tkt
  rw [if_pos]
  rw [tkb_or, h]
  rcases tkb_01 p (Int32.ofNat k) with e | e <;> rw [e] <;> rfl
def tkc (p : Int32) : Nat := tkt p 0 + tkt p 1 + tkt p 2 + tkt p 3 + tkt p 4 + tkt p 5 + tkt p 6 + tkt p 7
theorem tkc_lt (p : Int32) (k : Nat) (hk : k < 8) (h : ¬ tkb p (Int32.ofNat k) = 1) : tkc (p ||| ((1 : Int32) <<< (Int32.ofNat k &&& 31))) < tkc p := by
  have h1 : tkt p k = 1 := if_neg h
  have h2 := tkt_set p k hk
  unfold tkc
  have m0 := tkt_mono p ((1 : Int32) <<< (Int32.ofNat k &&& 31)) 0
  have m1 := tkt_mono p ((1 : Int32) <<< (Int32.ofNat k &&& 31)) 1
  have m2 := tkt_mono p ((1 : Int32) <<< (Int32.ofNat k &&& 31)) 2
  have m3 := tkt_mono p ((1 : Int32) <<< (Int32.ofNat k &&& 31)) 3
  have m4 := tkt_mono p ((1 : Int32) <<< (Int32.ofNat k &&& 31)) 4
  have m5 := tkt_mono p ((1 : Int32) <<< (Int32.ofNat k &&& 31)) 5
  have m6 := tkt_mono p ((1 : Int32) <<< (Int32.ofNat k &&& 31)) 6
  have m7 := tkt_mono p ((1 : Int32) <<< (Int32.ofNat k &&& 31)) 7
  rcases (show k = 0 ∨ k = 1 ∨ k = 2 ∨ k = 3 ∨ k = 4 ∨ k = 5 ∨ k = 6 ∨ k = 7 by omega) with rfl | rfl | rfl | rfl | rfl | rfl | rfl | rfl <;> omega
theorem sLk_s1 {k : Nat} {v : Value} {l : sL} : sLk k (sS1 k v l) = some v := by
  unfold sS1 sLk; exact if_pos rfl
theorem sLk_s1n {j k : Nat} {v w : Value} {l : sL} (hj : j ≠ k) (h : sLk j l = some w) (hc : w.category = 1) : sLk j (sS1 k v l) = some w := by
  unfold sS1 sLk
  rw [if_neg (fun e => hj e.symm)]
  refine sLk_fil h ?_
  dsimp only
  rw [hc, Bool.and_eq_true]
  refine ⟨?_, ?_⟩
  · rw [Bool.not_eq_true', beq_eq_false_iff_ne]; exact hj
  · rw [Bool.not_eq_true', Bool.and_eq_false_iff]; exact Or.inr rfl
theorem tk_loop {call : Nat → List Value → sH → Option sR} {h : sH} {vs w w2 : List Value} (e85 : h[85]? = some (.inr (9, vs))) (v8 : vs[8]? = some (.ref 94)) (v13 : vs[13]? = some (.ref 99)) (e94 : h[94]? = some (.inl (1, w))) (l94 : w.length = 8)
    (e99 : h[99]? = some (.inl (0, w2))) (l99 : w2.length = 8) (b99 : ∀ v ∈ w2, eFm 0 (.inl (-1, 7)) v) : ∀ (n : Nat) (p at_ : Int32) (lc : sL), tkc p ≤ n → sLk 0 lc = some (.ref 85) → sLk 2 lc = some (.int at_) → sLk 3 lc = some (.int p) → (at_ = -1 ∨ ((0 ≤ at_.toInt ∧ at_.toInt ≤ 7) ∧ ¬ tkb p at_ = 1)) →
    sWp mtv call mX9_taker none ((n + 1) * 60) (4, lc, [], h, 0, 0) (fun r => ∃ v : Int32, r = (.inl (some (.int v)), h) ∧ -1 ≤ v.toInt ∧ v.toInt ≤ 7) := by
  intro n
  induction n with
  | zero =>
    intro p at_ lc hn h0 h2 h3 hat
    have hend : ∀ B, (at_ = -1 ∨ (0 ≤ at_.toInt ∧ at_.toInt ≤ 7)) → sWp mtv call mX9_taker none (B + 2) (47, lc, [], h, 0, 0) (fun r => ∃ v : Int32, r = (.inl (some (.int v)), h) ∧ -1 ≤ v.toInt ∧ v.toInt ≤ 7) := fun B hb => by
      refine wp_iload_n (show mE mX9_taker 47 = some (.iload_n 2, 1, 0, 0) from rfl) h2 ?_
      refine wp_ireturn (show mE mX9_taker 48 = some (.ireturn, 1, 0, 0) from rfl) rfl rfl ⟨at_, rfl, ?_⟩
      rcases hb with rfl | hb
      · exact ⟨by decide, by decide⟩
      · exact ⟨by omega, hb.2⟩
    refine wp_le (B := 58 + 2) (by omega) ?_
    rcases hat with rfl | ⟨hb, hc⟩
    · refine wp_iload_n (show mE mX9_taker 4 = some (.iload_n 2, 1, 0, 0) from rfl) h2 ?_
      refine wp_iconst (show mE mX9_taker 5 = some (.iconst (-1), 1, 0, 0) from rfl) ?_
      refine wp_ict (t := 47) (show mE mX9_taker 6 = some (.if_icmp .eq 41, 3, 0, 0) from rfl) (by rfl) (by rfl) ?_
      exact hend 55 (Or.inl rfl)
    · exfalso
      obtain ⟨k, hk, rfl⟩ := i32_nat (m := 7) hb.1 hb.2
      have := tkc_lt p k (by omega) hc
      omega
  | succ n ih =>
    intro p at_ lc hn h0 h2 h3 hat
    have hend : ∀ B, (at_ = -1 ∨ (0 ≤ at_.toInt ∧ at_.toInt ≤ 7)) → sWp mtv call mX9_taker none (B + 2) (47, lc, [], h, 0, 0) (fun r => ∃ v : Int32, r = (.inl (some (.int v)), h) ∧ -1 ≤ v.toInt ∧ v.toInt ≤ 7) := fun B hb => by
      refine wp_iload_n (show mE mX9_taker 47 = some (.iload_n 2, 1, 0, 0) from rfl) h2 ?_
      refine wp_ireturn (show mE mX9_taker 48 = some (.ireturn, 1, 0, 0) from rfl) rfl rfl ⟨at_, rfl, ?_⟩
      rcases hb with rfl | hb
      · exact ⟨by decide, by decide⟩
      · exact ⟨by omega, hb.2⟩
    rw [show (n + 1 + 1) * 60 = ((n + 1) * 60 + 20) + 40 by omega]
    generalize hB : (n + 1) * 60 + 20 = B0
    have hB1 : (n + 1) * 60 ≤ B0 := by omega
    rcases hat with rfl | ⟨hb, hc⟩
    · refine wp_iload_n (show mE mX9_taker 4 = some (.iload_n 2, 1, 0, 0) from rfl) h2 ?_
      refine wp_iconst (show mE mX9_taker 5 = some (.iconst (-1), 1, 0, 0) from rfl) ?_
      refine wp_ict (t := 47) (show mE mX9_taker 6 = some (.if_icmp .eq 41, 3, 0, 0) from rfl) (by rfl) (by rfl) ?_
      exact wp_le (B := (B0 + 35) + 2) (by omega) (hend _ (Or.inl rfl))
    · have hne : sC2 .eq at_ (-1) = false := decide_eq_false (fun e => by rw [e] at hb; exact absurd hb.1 (by decide))
      refine wp_iload_n (show mE mX9_taker 4 = some (.iload_n 2, 1, 0, 0) from rfl) h2 ?_
      refine wp_iconst (show mE mX9_taker 5 = some (.iconst (-1), 1, 0, 0) from rfl) ?_
      refine wp_icf (t := 47) (show mE mX9_taker 6 = some (.if_icmp .eq 41, 3, 0, 0) from rfl) hne (by rfl) ?_
      refine wp_aload_n (show mE mX9_taker 9 = some (.aload_n 0, 1, 0, 0) from rfl) h0 ?_
      refine wp_getfield (show mE mX9_taker 10 = some (.getfield 35, 3, 9, 8) from rfl) e85 v8 ?_
      refine wp_iload_n (show mE mX9_taker 13 = some (.iload_n 2, 1, 0, 0) from rfl) h2 ?_
      have hin : at_.toNatClampNeg < 8 := by show at_.toInt.toNat < 8; omega
      have hsin : sIn at_ 8 = true := by
        unfold sIn
        rw [Bool.not_eq_true', Bool.or_eq_false_iff, decide_eq_false_iff_not, decide_eq_false_iff_not]
        exact ⟨fun e => by have := Int32.lt_iff_toInt_lt.mp e; have h0 : (0 : Int32).toInt = 0 := rfl; omega, Nat.not_le.mpr hin⟩
      refine wp_baload (show mE mX9_taker 14 = some (.baload, 1, 0, 0) from rfl) e94 (by rw [l94]; exact hsin) ?_
      generalize iOf (w.getD at_.toNatClampNeg .null) = aw
      by_cases haw : aw = 0
      · refine wp_ift (t := 47) (show mE mX9_taker 15 = some (.ifCond .eq 32, 3, 0, 0) from rfl) (decide_eq_true haw) (by rfl) ?_
        exact wp_le (B := (B0 + 30) + 2) (by omega) (hend _ (Or.inr hb))
      · refine wp_iff (t := 47) (show mE mX9_taker 15 = some (.ifCond .eq 32, 3, 0, 0) from rfl) (decide_eq_false haw) (by rfl) ?_
        refine wp_iload_n (show mE mX9_taker 18 = some (.iload_n 3, 1, 0, 0) from rfl) h3 ?_
        refine wp_iconst (show mE mX9_taker 19 = some (.iconst 1, 1, 0, 0) from rfl) ?_
        refine wp_iload_n (show mE mX9_taker 20 = some (.iload_n 2, 1, 0, 0) from rfl) h2 ?_
        refine wp_ishl (show mE mX9_taker 21 = some (.ishl, 1, 0, 0) from rfl) ?_
        refine wp_ior (show mE mX9_taker 22 = some (.ior, 1, 0, 0) from rfl) ?_
        refine wp_istore_n (show mE mX9_taker 23 = some (.istore_n 3, 1, 0, 0) from rfl) (by decide) ?_
        have k0 : sLk 0 (sS1 3 (.int (p ||| (Int32.ofInt 1 <<< (at_ &&& 31)))) lc) = some (.ref 85) := sLk_s1n (by decide) h0 rfl
        have k2 : sLk 2 (sS1 3 (.int (p ||| (Int32.ofInt 1 <<< (at_ &&& 31)))) lc) = some (.int at_) := sLk_s1n (by decide) h2 rfl
        have k3 : sLk 3 (sS1 3 (.int (p ||| (Int32.ofInt 1 <<< (at_ &&& 31)))) lc) = some (.int (p ||| (Int32.ofInt 1 <<< (at_ &&& 31)))) := sLk_s1
        refine wp_aload_n (show mE mX9_taker 24 = some (.aload_n 0, 1, 0, 0) from rfl) k0 ?_
        refine wp_getfield (show mE mX9_taker 25 = some (.getfield 50, 3, 9, 13) from rfl) e85 v13 ?_
        refine wp_iload_n (show mE mX9_taker 28 = some (.iload_n 2, 1, 0, 0) from rfl) k2 ?_
        refine wp_iaload (show mE mX9_taker 29 = some (.iaload, 1, 0, 0) from rfl) e99 (by rw [l99]; exact hsin) ?_
        obtain ⟨d, hd, d1, d2⟩ := b99 _ (sGetD (w := w2) (j := at_.toNatClampNeg) (by rw [l99]; exact hin))
        rw [show iOf (w2.getD at_.toNatClampNeg .null) = d by rw [hd]; rfl]
        refine wp_istore_n (show mE mX9_taker 30 = some (.istore_n 2, 1, 0, 0) from rfl) (by decide) ?_
        have j0 : sLk 0 (sS1 2 (.int d) (sS1 3 (.int (p ||| (Int32.ofInt 1 <<< (at_ &&& 31)))) lc)) = some (.ref 85) := sLk_s1n (by decide) k0 rfl
        have j2 : sLk 2 (sS1 2 (.int d) (sS1 3 (.int (p ||| (Int32.ofInt 1 <<< (at_ &&& 31)))) lc)) = some (.int d) := sLk_s1
        have j3 : sLk 3 (sS1 2 (.int d) (sS1 3 (.int (p ||| (Int32.ofInt 1 <<< (at_ &&& 31)))) lc)) = some (.int (p ||| (Int32.ofInt 1 <<< (at_ &&& 31)))) := sLk_s1n (by decide) k3 rfl
        have hlt : tkc (p ||| (Int32.ofInt 1 <<< (at_ &&& 31))) ≤ n := by
          obtain ⟨k, hk, rfl⟩ := i32_nat (m := 7) hb.1 hb.2
          have := tkc_lt p k (by omega) hc
          have e : Int32.ofInt 1 = (1 : Int32) := rfl
          rw [e]
          omega
        refine wp_iload_n (show mE mX9_taker 31 = some (.iload_n 2, 1, 0, 0) from rfl) j2 ?_
        refine wp_iconst (show mE mX9_taker 32 = some (.iconst (-1), 1, 0, 0) from rfl) ?_
        by_cases hd1 : d = -1
        · refine wp_ict (t := 4) (show mE mX9_taker 33 = some (.if_icmp .eq (-29), 3, 0, 0) from rfl) (decide_eq_true hd1) (by rfl) ?_
          exact wp_le (B := (n + 1) * 60) (by omega) (ih _ d _ hlt j0 j2 j3 (Or.inl hd1))
        · refine wp_icf (t := 4) (show mE mX9_taker 33 = some (.if_icmp .eq (-29), 3, 0, 0) from rfl) (decide_eq_false hd1) (by rfl) ?_
          have hd0 : 0 ≤ d.toInt := by
            have : d.toInt ≠ -1 := fun e => hd1 (Int32.toInt_inj.mp (e.trans rfl))
            omega
          refine wp_iload_n (show mE mX9_taker 36 = some (.iload_n 3, 1, 0, 0) from rfl) j3 ?_
          refine wp_iload_n (show mE mX9_taker 37 = some (.iload_n 2, 1, 0, 0) from rfl) j2 ?_
          refine wp_ishr (show mE mX9_taker 38 = some (.ishr, 1, 0, 0) from rfl) ?_
          refine wp_iconst (show mE mX9_taker 39 = some (.iconst 1, 1, 0, 0) from rfl) ?_
          refine wp_iand (show mE mX9_taker 40 = some (.iand, 1, 0, 0) from rfl) ?_
          refine wp_iconst (show mE mX9_taker 41 = some (.iconst 1, 1, 0, 0) from rfl) ?_
          by_cases hbit : tkb (p ||| (Int32.ofInt 1 <<< (at_ &&& 31))) d = 1
          · refine wp_icf (t := 4) (show mE mX9_taker 42 = some (.if_icmp .ne (-38), 3, 0, 0) from rfl) (decide_eq_false (fun e => e hbit)) (by rfl) ?_
            refine wp_iconst (show mE mX9_taker 45 = some (.iconst (-1), 1, 0, 0) from rfl) ?_
            exact wp_le (B := (B0 + 9) + 1) (by omega) (wp_ireturn (show mE mX9_taker 46 = some (.ireturn, 1, 0, 0) from rfl) rfl rfl ⟨-1, rfl, by decide, by decide⟩)
          · refine wp_ict (t := 4) (show mE mX9_taker 42 = some (.if_icmp .ne (-38), 3, 0, 0) from rfl) (decide_eq_true hbit) (by rfl) ?_
            exact wp_le (B := (n + 1) * 60) (by omega) (ih _ d _ hlt j0 j2 j3 (Or.inr ⟨⟨hd0, d2⟩, hbit⟩))
def cC_X9_taker : eC := (282, 2, [eRr 85 85, .inl (0, 7)], [], [], some (.inl (-1, 7)), [], [])
theorem eRef1 {a : Nat} {v : Value} (h : eFm 0 (eRr a a) v) : v = .ref a := by
  obtain ⟨j, rfl, h1, h2⟩ := eRe_s (a := a) (b := a) h
  rw [Nat.le_antisymm h2 h1]
theorem kC_X9_taker : eCo mtv eFu cC_X9_taker := by
  intro D as h hD hI hA _
  obtain ⟨D', rfl⟩ : ∃ D', D = D' + 1 := ⟨D - 1, by have : 2 ≤ D := hD; omega⟩
  have hA : eAm 0 [eRr 85 85, .inl (0, 7)] as := hA
  cases as with
  | nil => exact False.elim hA
  | cons v1 as =>
  cases as with
  | nil => exact False.elim hA.2
  | cons v2 as =>
  cases as with
  | cons _ _ => exact False.elim hA.2.2
  | nil =>
  obtain ⟨a1, ⟨p, rfl, p1, p2⟩, -⟩ := hA
  obtain rfl := eRef1 a1
  obtain ⟨-, -, vs, e85, -, hv⟩ := eInv_o (q := (85, 85)) (c := 9) (a := 85) hI rfl (Nat.le_refl _) (Nat.le_refl _)
  obtain ⟨u8, v8, f8⟩ := hv 8 _ rfl
  obtain ⟨u13, v13, f13⟩ := hv 13 _ rfl
  obtain rfl := eRef1 f8
  obtain rfl := eRef1 f13
  obtain ⟨-, -, w, e94, l94, -⟩ := eInv_a (q := (94, 94)) (a := 94) hI rfl (Nat.le_refl _) (Nat.le_refl _)
  obtain ⟨-, -, w2, e99, l99, b99⟩ := eInv_a (q := (99, 99)) (a := 99) hI rfl (Nat.le_refl _) (Nat.le_refl _)
  have key : sWp mtv (sGo1 mtv eFu D') mX9_taker none (9 * 60 + 4) (0, lv_args 0 [.ref 85, .int p], [], h, 0, 0) (fun r => ∃ v : Int32, r = (.inl (some (.int v)), h) ∧ -1 ≤ v.toInt ∧ v.toInt ≤ 7) := by
    refine wp_iload_n (show mE mX9_taker 0 = some (.iload_n 1, 1, 0, 0) from rfl) (show sLk 1 (lv_args 0 [.ref 85, .int p]) = some (.int p) from rfl) ?_
    refine wp_istore_n (show mE mX9_taker 1 = some (.istore_n 2, 1, 0, 0) from rfl) (by decide) ?_
    refine wp_iconst (show mE mX9_taker 2 = some (.iconst 0, 1, 0, 0) from rfl) ?_
    refine wp_istore_n (show mE mX9_taker 3 = some (.istore_n 3, 1, 0, 0) from rfl) (by decide) ?_
    refine tk_loop e85 v8 v13 e94 l94 e99 l99 b99 8 (Int32.ofInt 0) p _ (by decide) ?_ ?_ sLk_s1 ?_
    · exact sLk_s1n (by decide) (sLk_s1n (by decide) rfl rfl) rfl
    · exact sLk_s1n (by decide) sLk_s1 rfl
    · refine Or.inr ⟨⟨p1, p2⟩, ?_⟩
      obtain ⟨k, hk, rfl⟩ := i32_nat (m := 7) p1 p2
      rcases (show k = 0 ∨ k = 1 ∨ k = 2 ∨ k = 3 ∨ k = 4 ∨ k = 5 ∨ k = 6 ∨ k = 7 by omega) with rfl | rfl | rfl | rfl | rfl | rfl | rfl | rfl <;> decide
  obtain ⟨r, ⟨v, rfl, v1, v2⟩, hr⟩ := key
  refine ⟨.inl (some (.int v)), h, ?_, hI, Nat.le_refl _, eMod_rf, ⟨v, rfl, v1, v2⟩, fun _ h => (nomatch h)⟩
  have h2 := hr (eFu - (9 * 60 + 4))
  rw [show eFu - (9 * 60 + 4) + (9 * 60 + 4) = eFu from rfl] at h2
  show sGo1 mtv eFu (D' + 1) 282 _ h = _
  rw [sGo1_s, if_pos (show sCat [.ref 85, .int p] ≤ mL (mtv 282) from Nat.le_of_ble_eq_true rfl)]
  exact h2
