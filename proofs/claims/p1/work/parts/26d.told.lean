set_option maxRecDepth 100000
/-! a call whose end is known -/
theorem wp_told {mt : Nat → sM} {F d : Nat} {M : sM} {xs : Option (List Int32)} {B cl sl pc a1 a2 ln : Nat} {Q : sR → Prop} {lv : sL} {st rest as : List Value} {h : sH} {i : Instr} {r : sR} (he : mE M pc = some (i, ln, a1, a2)) (hlt : ¬ 1000 ≤ a1) (hP : sP (mL M) i pc lv st = none) (hH : sHp xs i a1 a2 pc lv st h = none) (hr : sRet (mR M) i st = none) (hi : sInv0 mt i a1 a2 st h = some (as, rest)) (hc : sCat rest ≤ 8 ∧ cl + mC (mt a1) ≤ mC M ∧ sl + mS (mt a1) ≤ mS M) (hg : sGo1 mt F (d + 1) a1 as h = some r)
    (k : wK mt (sGo1 mt F (d + 1)) M xs B pc lv rest (cl + mC (mt a1)) (sl + mS (mt a1)) Q r) : sWp mt (sGo1 mt F (d + 1)) M xs (B + 1) (pc, lv, st, h, cl, sl) Q := by
  have hs0 : ∀ r0 : sR, sGo1 mt F (d + 1) a1 as h = some r0 → sStep mt (sGo1 mt F (d + 1)) M xs (pc, lv, st, h, cl, sl) = (match r0 with
      | (.inl v, h1) => some (.inl (pc + 3, lv, v.toList ++ rest, h1, cl + mC (mt a1), sl + mS (mt a1)))
      | (.inr E, h1) => (match mT M with
        | [] => some (.inr (.inr E, h1))
        | t :: ts => match sHd (mE M) E pc (t :: ts) with
          | some hp => if 6 ≤ E then none else sCk (mE M) lv h1 (cl + mC (mt a1)) (sl + mS (mt a1)) (mL M) hp
          | none => none)) := by
    intro r0 hg
    unfold sStep; rw [he]; dsimp only
    rw [hP]; dsimp only; rw [hH]; dsimp only; rw [hr]; dsimp only; rw [if_neg hlt, hi]; dsimp only; rw [if_pos hc, hg]
    rcases r0 with ⟨v | E, h1⟩ <;> rfl
  have hs := hs0 r hg
  rcases r with ⟨v | E, h1⟩
  · exact wp_step hs k
  · unfold wK at k
    dsimp only at k hs
    split at k
    · next hT =>
      rw [hT] at hs
      exact wp_end hs k
    · next t ts hT =>
      obtain ⟨hp, k9, e1, e2, e3, e4⟩ := k
      rw [hT] at hs
      dsimp only at hs
      rw [e1] at hs
      dsimp only at hs
      rw [if_neg (Nat.not_le.mpr e2), e3] at hs
      exact wp_step hs e4
theorem sInv0_v {mt : Nat → sM} {ix a1 a2 o : Nat} {st rest fs : List Value} {h : sH} (hn : mN (mt a1) ≤ st.length) (hd : st.drop (mN (mt a1)) = .ref o :: rest) (ho : h[o]? = some (.inr (a2, fs))) : sInv0 mt (.invokevirtual ix) a1 a2 st h = some (.ref o :: sArgs (mN (mt a1)) st, rest) := by
  unfold sInv0; dsimp only
  rw [if_pos hn, hd]; dsimp only
  rw [ho]; dsimp only
  rw [if_pos rfl]
