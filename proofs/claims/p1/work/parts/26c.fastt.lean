/-! the tables of the quicker machine (printed by a program of mine) -/
set_option maxRecDepth 100000
/-! what a run may ask of its calls -/
theorem sStep_mono {mt : Nat → sM} {call call' : Nat → List Value → sH → Option sR} (hc : ∀ k as h r, call k as h = some r → call' k as h = some r) {M : sM} {xs : Option (List Int32)} {cf : sK} {z : sK ⊕ sR} (h : sStep mt call M xs cf = some z) : sStep mt call' M xs cf = some z := by
  unfold sStep at h ⊢
  split at h
  · cases h
  next e he =>
  (try rw [he]); (try dsimp only)
  split at h
  · next q hq => (try rw [hq]); exact h
  next hP =>
  (try rw [hP]); (try dsimp only)
  split at h
  · next q hq => (try rw [hq]); exact h
  next hH =>
  (try rw [hH]); (try dsimp only)
  split at h
  · next q hq => (try rw [hq]); exact h
  next hR =>
  (try rw [hR]); (try dsimp only)
  split at h
  · next h1 => (try rw [if_pos h1]); exact h
  next h1 =>
  (try rw [if_neg h1])
  split at h
  · next q hq =>
    (try rw [hq]); (try dsimp only)
    split at h
    · next hcond =>
      (try rw [if_pos hcond])
      split at h
      · next v h9 hr => rw [hc _ _ _ _ hr]; exact h
      · next E h9 hr => rw [hc _ _ _ _ hr]; exact h
      · cases h
    · cases h
  · next hI => (try rw [hI]); exact h
theorem sRun_mono {mt : Nat → sM} {call call' : Nat → List Value → sH → Option sR} (hc : ∀ k as h r, call k as h = some r → call' k as h = some r) {M : sM} {xs : Option (List Int32)} : ∀ (n : Nat) (cf : sK) (r : sR), sRun mt call M xs n cf = some r → sRun mt call' M xs n cf = some r
  | 0, cf, r, h => nomatch h
  | n + 1, cf, r, h => by
    rw [sRun_s] at h ⊢
    split at h
    · cases h
    · next k hs => rw [sStep_mono hc hs]; exact sRun_mono hc n k r h
    · next r' hs => rw [sStep_mono hc hs]; exact h
theorem qGo_ok {T : Nat → Option (Nat → Option qF)} {F : Nat} (hT : ∀ k C, T k = some C → qOk (mtv k) C) : ∀ (d k : Nat) (as : List Value) (h : sH) (r : sR), qGo T F d k as h = some r → sGo1 mtv F d k as h = some r
  | 0, k, as, h, r, hr => nomatch hr
  | d + 1, k, as, h, r, hr => by
    have hr : (match T k with
      | some C => cond (Nat.ble (sCat as) (mL (mtv k))) (qRun (qGo T F d) C F (0, lv_args 0 as, [], h, 0, 0)) none
      | none => none) = some r := hr
    rw [sGo1_s]
    split at hr
    · next C hC =>
      cases hb : Nat.ble (sCat as) (mL (mtv k)) with
      | true =>
        rw [hb] at hr
        rw [if_pos (Nat.le_of_ble_eq_true hb)]
        exact sRun_mono (qGo_ok hT d) F _ _ (qRun_ok (hT k C hC) F _ _ hr)
      | false => rw [hb] at hr; cases hr
    · cases hr
theorem q34_0 : mE (mtv 34) 0 = some (.aload_n 0, 1, 0, 0) := rfl
theorem q34_1 : mE (mtv 34) 1 = some (.getfield 16, 3, 4, 1) := rfl
theorem q34_4 : mE (mtv 34) 4 = some (.iconst 1, 1, 0, 0) := rfl
theorem q34_5 : mE (mtv 34) 5 = some (.isub, 1, 0, 0) := rfl
theorem q34_6 : mE (mtv 34) 6 = some (.istore 4, 2, 0, 0) := rfl
theorem q34_8 : mE (mtv 34) 8 = some (.iload 4, 2, 0, 0) := rfl
theorem q34_10 : mE (mtv 34) 10 = some (.ifCond .lt 64, 3, 0, 0) := rfl
theorem q34_13 : mE (mtv 34) 13 = some (.iconst 0, 1, 0, 0) := rfl
theorem q34_14 : mE (mtv 34) 14 = some (.istore 5, 2, 0, 0) := rfl
theorem q34_16 : mE (mtv 34) 16 = some (.iload 5, 2, 0, 0) := rfl
theorem q34_18 : mE (mtv 34) 18 = some (.aload_n 0, 1, 0, 0) := rfl
theorem q34_19 : mE (mtv 34) 19 = some (.getfield 20, 3, 4, 2) := rfl
theorem q34_22 : mE (mtv 34) 22 = some (.if_icmp .ge 46, 3, 0, 0) := rfl
theorem q34_25 : mE (mtv 34) 25 = some (.aload_n 0, 1, 0, 0) := rfl
theorem q34_26 : mE (mtv 34) 26 = some (.getfield 11, 3, 4, 0) := rfl
theorem q34_29 : mE (mtv 34) 29 = some (.iload 4, 2, 0, 0) := rfl
theorem q34_31 : mE (mtv 34) 31 = some (.aaload, 1, 0, 0) := rfl
theorem q34_32 : mE (mtv 34) 32 = some (.iload 5, 2, 0, 0) := rfl
theorem q34_34 : mE (mtv 34) 34 = some (.lload_n 1, 1, 0, 0) := rfl
theorem q34_35 : mE (mtv 34) 35 = some (.iload 4, 2, 0, 0) := rfl
theorem q34_37 : mE (mtv 34) 37 = some (.iload 5, 2, 0, 0) := rfl
theorem q34_39 : mE (mtv 34) 39 = some (.invokestatic 47, 3, 35, 0) := rfl
theorem q34_42 : mE (mtv 34) 42 = some (.land, 1, 0, 0) := rfl
theorem q34_43 : mE (mtv 34) 43 = some (.lconst 0, 1, 0, 0) := rfl
theorem q34_44 : mE (mtv 34) 44 = some (.lcmp, 1, 0, 0) := rfl
theorem q34_45 : mE (mtv 34) 45 = some (.ifCond .ne 7, 3, 0, 0) := rfl
theorem q34_48 : mE (mtv 34) 48 = some (.iconst 0, 1, 0, 0) := rfl
theorem q34_49 : mE (mtv 34) 49 = some (.goto 12, 3, 0, 0) := rfl
theorem q34_52 : mE (mtv 34) 52 = some (.aload_n 0, 1, 0, 0) := rfl
theorem q34_53 : mE (mtv 34) 53 = some (.iload 4, 2, 0, 0) := rfl
theorem q34_55 : mE (mtv 34) 55 = some (.iload 5, 2, 0, 0) := rfl
theorem q34_57 : mE (mtv 34) 57 = some (.iload_n 3, 1, 0, 0) := rfl
theorem q34_58 : mE (mtv 34) 58 = some (.invokevirtual 51, 3, 36, 4) := rfl
theorem q34_61 : mE (mtv 34) 61 = some (.iastore, 1, 0, 0) := rfl
theorem q34_62 : mE (mtv 34) 62 = some (.iinc 5 1, 3, 0, 0) := rfl
theorem q34_65 : mE (mtv 34) 65 = some (.goto (-49), 3, 0, 0) := rfl
theorem q34_68 : mE (mtv 34) 68 = some (.iinc 4 (-1), 3, 0, 0) := rfl
theorem q34_71 : mE (mtv 34) 71 = some (.goto (-63), 3, 0, 0) := rfl
theorem q34_74 : mE (mtv 34) 74 = some (.iconst 0, 1, 0, 0) := rfl
theorem q34_75 : mE (mtv 34) 75 = some (.istore 4, 2, 0, 0) := rfl
theorem q34_77 : mE (mtv 34) 77 = some (.iconst 0, 1, 0, 0) := rfl
theorem q34_78 : mE (mtv 34) 78 = some (.istore 5, 2, 0, 0) := rfl
theorem q34_80 : mE (mtv 34) 80 = some (.iload 5, 2, 0, 0) := rfl
theorem q34_82 : mE (mtv 34) 82 = some (.aload_n 0, 1, 0, 0) := rfl
theorem q34_83 : mE (mtv 34) 83 = some (.getfield 20, 3, 4, 2) := rfl
theorem q34_86 : mE (mtv 34) 86 = some (.if_icmp .ge 23, 3, 0, 0) := rfl
theorem q34_89 : mE (mtv 34) 89 = some (.iload 4, 2, 0, 0) := rfl
theorem q34_91 : mE (mtv 34) 91 = some (.aload_n 0, 1, 0, 0) := rfl
theorem q34_92 : mE (mtv 34) 92 = some (.getfield 11, 3, 4, 0) := rfl
theorem q34_95 : mE (mtv 34) 95 = some (.iconst 0, 1, 0, 0) := rfl
theorem q34_96 : mE (mtv 34) 96 = some (.aaload, 1, 0, 0) := rfl
theorem q34_97 : mE (mtv 34) 97 = some (.iload 5, 2, 0, 0) := rfl
theorem q34_99 : mE (mtv 34) 99 = some (.iaload, 1, 0, 0) := rfl
theorem q34_100 : mE (mtv 34) 100 = some (.iadd, 1, 0, 0) := rfl
theorem q34_101 : mE (mtv 34) 101 = some (.istore 4, 2, 0, 0) := rfl
theorem q34_103 : mE (mtv 34) 103 = some (.iinc 5 1, 3, 0, 0) := rfl
theorem q34_106 : mE (mtv 34) 106 = some (.goto (-26), 3, 0, 0) := rfl
theorem q34_109 : mE (mtv 34) 109 = some (.iload 4, 2, 0, 0) := rfl
theorem q34_111 : mE (mtv 34) 111 = some (.ireturn, 1, 0, 0) := rfl
theorem q36_0 : mE (mtv 36) 0 = some (.iload_n 1, 1, 0, 0) := rfl
theorem q36_1 : mE (mtv 36) 1 = some (.aload_n 0, 1, 0, 0) := rfl
theorem q36_2 : mE (mtv 36) 2 = some (.getfield 16, 3, 4, 1) := rfl
theorem q36_5 : mE (mtv 36) 5 = some (.iconst 1, 1, 0, 0) := rfl
theorem q36_6 : mE (mtv 36) 6 = some (.isub, 1, 0, 0) := rfl
theorem q36_7 : mE (mtv 36) 7 = some (.if_icmp .lt 5, 3, 0, 0) := rfl
theorem q36_10 : mE (mtv 36) 10 = some (.iconst 1, 1, 0, 0) := rfl
theorem q36_11 : mE (mtv 36) 11 = some (.ireturn, 1, 0, 0) := rfl
theorem q36_12 : mE (mtv 36) 12 = some (.iconst 0, 1, 0, 0) := rfl
theorem q36_13 : mE (mtv 36) 13 = some (.istore 4, 2, 0, 0) := rfl
theorem q36_15 : mE (mtv 36) 15 = some (.iconst 0, 1, 0, 0) := rfl
theorem q36_16 : mE (mtv 36) 16 = some (.istore 5, 2, 0, 0) := rfl
theorem q36_18 : mE (mtv 36) 18 = some (.iload 5, 2, 0, 0) := rfl
theorem q36_20 : mE (mtv 36) 20 = some (.aload_n 0, 1, 0, 0) := rfl
theorem q36_21 : mE (mtv 36) 21 = some (.getfield 20, 3, 4, 2) := rfl
theorem q36_24 : mE (mtv 36) 24 = some (.if_icmp .ge 36, 3, 0, 0) := rfl
theorem q36_27 : mE (mtv 36) 27 = some (.iload 5, 2, 0, 0) := rfl
theorem q36_29 : mE (mtv 36) 29 = some (.iload_n 2, 1, 0, 0) := rfl
theorem q36_30 : mE (mtv 36) 30 = some (.isub, 1, 0, 0) := rfl
theorem q36_31 : mE (mtv 36) 31 = some (.invokestatic 41, 3, 1001, 0) := rfl
theorem q36_34 : mE (mtv 36) 34 = some (.iload_n 3, 1, 0, 0) := rfl
theorem q36_35 : mE (mtv 36) 35 = some (.if_icmp .gt 19, 3, 0, 0) := rfl
theorem q36_38 : mE (mtv 36) 38 = some (.iload 4, 2, 0, 0) := rfl
theorem q36_40 : mE (mtv 36) 40 = some (.aload_n 0, 1, 0, 0) := rfl
theorem q36_41 : mE (mtv 36) 41 = some (.getfield 11, 3, 4, 0) := rfl
theorem q36_44 : mE (mtv 36) 44 = some (.iload_n 1, 1, 0, 0) := rfl
theorem q36_45 : mE (mtv 36) 45 = some (.iconst 1, 1, 0, 0) := rfl
theorem q36_46 : mE (mtv 36) 46 = some (.iadd, 1, 0, 0) := rfl
theorem q36_47 : mE (mtv 36) 47 = some (.aaload, 1, 0, 0) := rfl
theorem q36_48 : mE (mtv 36) 48 = some (.iload 5, 2, 0, 0) := rfl
theorem q36_50 : mE (mtv 36) 50 = some (.iaload, 1, 0, 0) := rfl
theorem q36_51 : mE (mtv 36) 51 = some (.iadd, 1, 0, 0) := rfl
theorem q36_52 : mE (mtv 36) 52 = some (.istore 4, 2, 0, 0) := rfl
theorem q36_54 : mE (mtv 36) 54 = some (.iinc 5 1, 3, 0, 0) := rfl
theorem q36_57 : mE (mtv 36) 57 = some (.goto (-39), 3, 0, 0) := rfl
theorem q36_60 : mE (mtv 36) 60 = some (.iload 4, 2, 0, 0) := rfl
theorem q36_62 : mE (mtv 36) 62 = some (.ireturn, 1, 0, 0) := rfl
theorem q45_10 : mE (mtv 45) 10 = some (.i2l, 1, 0, 0) := rfl
theorem q45_11 : mE (mtv 45) 11 = some (.lastore, 1, 0, 0) := rfl
theorem q45_12 : mE (mtv 45) 12 = some (.goto 11, 3, 0, 0) := rfl
theorem q45_15 : mE (mtv 45) 15 = some (.astore 5, 2, 0, 0) := rfl
theorem q45_19 : mE (mtv 45) 19 = some (.astore 5, 2, 3, 0) := rfl
theorem q45_21 : mE (mtv 45) 21 = some (.iconst 2, 1, 0, 0) := rfl
theorem q45_22 : mE (mtv 45) 22 = some (.ireturn, 1, 0, 0) := rfl
theorem q45_23 : mE (mtv 45) 23 = some (.iconst 0, 1, 0, 0) := rfl
theorem q45_24 : mE (mtv 45) 24 = some (.ireturn, 1, 0, 0) := rfl
theorem q46_29 : mE (mtv 46) 29 = some (.iconst 1, 1, 0, 0) := rfl
theorem q46_30 : mE (mtv 46) 30 = some (.goto 4, 3, 0, 0) := rfl
theorem q46_51 : mE (mtv 46) 51 = some (.aload_n 0, 1, 0, 0) := rfl
theorem q46_52 : mE (mtv 46) 52 = some (.getfield 88, 3, 8, 9) := rfl
theorem q46_55 : mE (mtv 46) 55 = some (.ifCond .gt 10, 3, 0, 0) := rfl
theorem q46_58 : mE (mtv 46) 58 = some (.aload_n 0, 1, 0, 0) := rfl
theorem q46_59 : mE (mtv 46) 59 = some (.getfield 91, 3, 8, 12) := rfl
theorem q46_62 : mE (mtv 46) 62 = some (.ifCond .le 13, 3, 0, 0) := rfl
theorem q46_65 : mE (mtv 46) 65 = some (.new 94, 3, 1003, 0) := rfl
theorem q46_75 : mE (mtv 46) 75 = some (.aload_n 0, 1, 0, 0) := rfl
theorem q46_76 : mE (mtv 46) 76 = some (.getfield 10, 3, 8, 0) := rfl
theorem q46_79 : mE (mtv 46) 79 = some (.iload_n 1, 1, 0, 0) := rfl
theorem q46_80 : mE (mtv 46) 80 = some (.iload_n 2, 1, 0, 0) := rfl
theorem q46_81 : mE (mtv 46) 81 = some (.iload_n 3, 1, 0, 0) := rfl
theorem q46_82 : mE (mtv 46) 82 = some (.invokevirtual 99, 3, 48, 4) := rfl
theorem q46_85 : mE (mtv 46) 85 = some (.aload_n 0, 1, 0, 0) := rfl
theorem q46_86 : mE (mtv 46) 86 = some (.getfield 10, 3, 8, 0) := rfl
theorem q46_89 : mE (mtv 46) 89 = some (.aload_n 0, 1, 0, 0) := rfl
theorem q46_90 : mE (mtv 46) 90 = some (.getfield 10, 3, 8, 0) := rfl
theorem q46_93 : mE (mtv 46) 93 = some (.invokevirtual 103, 3, 49, 4) := rfl
theorem q46_96 : mE (mtv 46) 96 = some (.iload_n 3, 1, 0, 0) := rfl
theorem q46_97 : mE (mtv 46) 97 = some (.invokevirtual 107, 3, 34, 4) := rfl
theorem q46_100 : mE (mtv 46) 100 = some (.ireturn, 1, 0, 0) := rfl
theorem q48_0 : mE (mtv 48) 0 = some (.aload_n 0, 1, 0, 0) := rfl
theorem q48_1 : mE (mtv 48) 1 = some (.iload_n 1, 1, 0, 0) := rfl
theorem q48_2 : mE (mtv 48) 2 = some (.putfield 16, 3, 4, 1) := rfl
theorem q48_5 : mE (mtv 48) 5 = some (.aload_n 0, 1, 0, 0) := rfl
theorem q48_6 : mE (mtv 48) 6 = some (.iload_n 2, 1, 0, 0) := rfl
theorem q48_7 : mE (mtv 48) 7 = some (.putfield 20, 3, 4, 2) := rfl
theorem q48_10 : mE (mtv 48) 10 = some (.aload_n 0, 1, 0, 0) := rfl
theorem q48_11 : mE (mtv 48) 11 = some (.iload_n 3, 1, 0, 0) := rfl
theorem q48_12 : mE (mtv 48) 12 = some (.putfield 23, 3, 4, 3) := rfl
theorem q48_15 : mE (mtv 48) 15 = some (.aload_n 0, 1, 0, 0) := rfl
theorem q48_16 : mE (mtv 48) 16 = some (.invokevirtual 26, 3, 10, 4) := rfl
theorem q48_19 : mE (mtv 48) 19 = some (.pop, 1, 0, 0) := rfl
theorem q48_20 : mE (mtv 48) 20 = some (.return_, 1, 0, 0) := rfl
theorem q49_0 : mE (mtv 49) 0 = some (.lconst 0, 1, 0, 0) := rfl
theorem q49_1 : mE (mtv 49) 1 = some (.lstore_n 1, 1, 0, 0) := rfl
theorem q49_2 : mE (mtv 49) 2 = some (.iconst 0, 1, 0, 0) := rfl
theorem q49_3 : mE (mtv 49) 3 = some (.istore_n 3, 1, 0, 0) := rfl
theorem q49_4 : mE (mtv 49) 4 = some (.iload_n 3, 1, 0, 0) := rfl
theorem q49_5 : mE (mtv 49) 5 = some (.aload_n 0, 1, 0, 0) := rfl
theorem q49_6 : mE (mtv 49) 6 = some (.getfield 16, 3, 4, 1) := rfl
theorem q49_9 : mE (mtv 49) 9 = some (.if_icmp .ge 36, 3, 0, 0) := rfl
theorem q49_12 : mE (mtv 49) 12 = some (.iconst 0, 1, 0, 0) := rfl
theorem q49_13 : mE (mtv 49) 13 = some (.istore 4, 2, 0, 0) := rfl
theorem q49_15 : mE (mtv 49) 15 = some (.iload 4, 2, 0, 0) := rfl
theorem q49_17 : mE (mtv 49) 17 = some (.aload_n 0, 1, 0, 0) := rfl
theorem q49_18 : mE (mtv 49) 18 = some (.getfield 20, 3, 4, 2) := rfl
theorem q49_21 : mE (mtv 49) 21 = some (.if_icmp .ge 18, 3, 0, 0) := rfl
theorem q49_24 : mE (mtv 49) 24 = some (.lload_n 1, 1, 0, 0) := rfl
theorem q49_25 : mE (mtv 49) 25 = some (.iload_n 3, 1, 0, 0) := rfl
theorem q49_26 : mE (mtv 49) 26 = some (.iload 4, 2, 0, 0) := rfl
theorem q49_28 : mE (mtv 49) 28 = some (.invokestatic 47, 3, 35, 0) := rfl
theorem q49_31 : mE (mtv 49) 31 = some (.lor, 1, 0, 0) := rfl
theorem q49_32 : mE (mtv 49) 32 = some (.lstore_n 1, 1, 0, 0) := rfl
theorem q49_33 : mE (mtv 49) 33 = some (.iinc 4 1, 3, 0, 0) := rfl
theorem q49_36 : mE (mtv 49) 36 = some (.goto (-21), 3, 0, 0) := rfl
theorem q49_39 : mE (mtv 49) 39 = some (.iinc 3 1, 3, 0, 0) := rfl
theorem q49_42 : mE (mtv 49) 42 = some (.goto (-38), 3, 0, 0) := rfl
theorem q49_45 : mE (mtv 49) 45 = some (.lload_n 1, 1, 0, 0) := rfl
theorem q49_46 : mE (mtv 49) 46 = some (.lreturn, 1, 0, 0) := rfl
theorem q114_12 : mE (mtv 114) 12 = some (.i2l, 1, 0, 0) := rfl
theorem q114_13 : mE (mtv 114) 13 = some (.lastore, 1, 0, 0) := rfl
theorem q114_14 : mE (mtv 114) 14 = some (.goto 7, 3, 0, 0) := rfl
theorem q114_17 : mE (mtv 114) 17 = some (.astore 6, 2, 0, 0) := rfl
theorem q114_21 : mE (mtv 114) 21 = some (.iconst 0, 1, 0, 0) := rfl
theorem q114_22 : mE (mtv 114) 22 = some (.ireturn, 1, 0, 0) := rfl
theorem q115_46 : mE (mtv 115) 46 = some (.iconst 1, 1, 0, 0) := rfl
theorem q115_47 : mE (mtv 115) 47 = some (.goto 4, 3, 0, 0) := rfl
theorem q115_69 : mE (mtv 115) 69 = some (.aload_n 0, 1, 0, 0) := rfl
theorem q115_70 : mE (mtv 115) 70 = some (.getfield 10, 3, 8, 0) := rfl
theorem q115_73 : mE (mtv 115) 73 = some (.aload_n 0, 1, 0, 0) := rfl
theorem q115_74 : mE (mtv 115) 74 = some (.getfield 10, 3, 8, 0) := rfl
theorem q115_77 : mE (mtv 115) 77 = some (.iload_n 1, 1, 0, 0) := rfl
theorem q115_78 : mE (mtv 115) 78 = some (.iload_n 2, 1, 0, 0) := rfl
theorem q115_79 : mE (mtv 115) 79 = some (.iload_n 3, 1, 0, 0) := rfl
theorem q115_80 : mE (mtv 115) 80 = some (.invokevirtual 284, 3, 116, 4) := rfl
theorem q115_83 : mE (mtv 115) 83 = some (.aload_n 0, 1, 0, 0) := rfl
theorem q115_84 : mE (mtv 115) 84 = some (.getfield 10, 3, 8, 0) := rfl
theorem q115_87 : mE (mtv 115) 87 = some (.getfield 287, 3, 4, 3) := rfl
theorem q115_90 : mE (mtv 115) 90 = some (.iload_n 2, 1, 0, 0) := rfl
theorem q115_91 : mE (mtv 115) 91 = some (.iload 4, 2, 0, 0) := rfl
theorem q115_93 : mE (mtv 115) 93 = some (.imul, 1, 0, 0) := rfl
theorem q115_94 : mE (mtv 115) 94 = some (.invokestatic 290, 3, 1003, 0) := rfl
theorem q115_97 : mE (mtv 115) 97 = some (.invokevirtual 107, 3, 34, 4) := rfl
theorem q115_100 : mE (mtv 115) 100 = some (.ireturn, 1, 0, 0) := rfl
theorem q116_0 : mE (mtv 116) 0 = some (.lconst 0, 1, 0, 0) := rfl
theorem q116_1 : mE (mtv 116) 1 = some (.lstore 4, 2, 0, 0) := rfl
theorem q116_3 : mE (mtv 116) 3 = some (.iconst 0, 1, 0, 0) := rfl
theorem q116_4 : mE (mtv 116) 4 = some (.istore 6, 2, 0, 0) := rfl
theorem q116_6 : mE (mtv 116) 6 = some (.iload 6, 2, 0, 0) := rfl
theorem q116_8 : mE (mtv 116) 8 = some (.aload_n 0, 1, 0, 0) := rfl
theorem q116_9 : mE (mtv 116) 9 = some (.getfield 16, 3, 4, 1) := rfl
theorem q116_12 : mE (mtv 116) 12 = some (.if_icmp .ge 53, 3, 0, 0) := rfl
theorem q116_15 : mE (mtv 116) 15 = some (.iconst 0, 1, 0, 0) := rfl
theorem q116_16 : mE (mtv 116) 16 = some (.istore 7, 2, 0, 0) := rfl
theorem q116_18 : mE (mtv 116) 18 = some (.iload 7, 2, 0, 0) := rfl
theorem q116_20 : mE (mtv 116) 20 = some (.iload_n 3, 1, 0, 0) := rfl
theorem q116_21 : mE (mtv 116) 21 = some (.if_icmp .ge 38, 3, 0, 0) := rfl
theorem q116_24 : mE (mtv 116) 24 = some (.iload_n 1, 1, 0, 0) := rfl
theorem q116_25 : mE (mtv 116) 25 = some (.iload 7, 2, 0, 0) := rfl
theorem q116_27 : mE (mtv 116) 27 = some (.iload_n 2, 1, 0, 0) := rfl
theorem q116_28 : mE (mtv 116) 28 = some (.imul, 1, 0, 0) := rfl
theorem q116_29 : mE (mtv 116) 29 = some (.iadd, 1, 0, 0) := rfl
theorem q116_30 : mE (mtv 116) 30 = some (.aload_n 0, 1, 0, 0) := rfl
theorem q116_31 : mE (mtv 116) 31 = some (.getfield 20, 3, 4, 2) := rfl
theorem q116_34 : mE (mtv 116) 34 = some (.if_icmp .ge 19, 3, 0, 0) := rfl
theorem q116_37 : mE (mtv 116) 37 = some (.lload 4, 2, 0, 0) := rfl
theorem q116_39 : mE (mtv 116) 39 = some (.iload 6, 2, 0, 0) := rfl
theorem q116_41 : mE (mtv 116) 41 = some (.iload_n 1, 1, 0, 0) := rfl
theorem q116_42 : mE (mtv 116) 42 = some (.iload 7, 2, 0, 0) := rfl
theorem q116_44 : mE (mtv 116) 44 = some (.iload_n 2, 1, 0, 0) := rfl
theorem q116_45 : mE (mtv 116) 45 = some (.imul, 1, 0, 0) := rfl
theorem q116_46 : mE (mtv 116) 46 = some (.iadd, 1, 0, 0) := rfl
theorem q116_47 : mE (mtv 116) 47 = some (.invokestatic 47, 3, 35, 0) := rfl
theorem q116_50 : mE (mtv 116) 50 = some (.lor, 1, 0, 0) := rfl
theorem q116_51 : mE (mtv 116) 51 = some (.lstore 4, 2, 0, 0) := rfl
theorem q116_53 : mE (mtv 116) 53 = some (.iinc 7 1, 3, 0, 0) := rfl
theorem q116_56 : mE (mtv 116) 56 = some (.goto (-38), 3, 0, 0) := rfl
theorem q116_59 : mE (mtv 116) 59 = some (.iinc 6 1, 3, 0, 0) := rfl
theorem q116_62 : mE (mtv 116) 62 = some (.goto (-56), 3, 0, 0) := rfl
theorem q116_65 : mE (mtv 116) 65 = some (.lload 4, 2, 0, 0) := rfl
theorem q116_67 : mE (mtv 116) 67 = some (.lreturn, 1, 0, 0) := rfl
theorem q210_34 : mE (mtv 210) 34 = some (.aload_n 0, 1, 0, 0) := rfl
theorem q210_35 : mE (mtv 210) 35 = some (.getfield 117, 3, 9, 35) := rfl
theorem q210_38 : mE (mtv 210) 38 = some (.ifCond .gt 10, 3, 0, 0) := rfl
theorem q210_41 : mE (mtv 210) 41 = some (.aload_n 0, 1, 0, 0) := rfl
theorem q210_42 : mE (mtv 210) 42 = some (.getfield 150, 3, 9, 46) := rfl
theorem q210_45 : mE (mtv 210) 45 = some (.ifCond .le 7, 3, 0, 0) := rfl
theorem q210_48 : mE (mtv 210) 48 = some (.iconst 2, 1, 0, 0) := rfl
theorem q210_49 : mE (mtv 210) 49 = some (.goto 4, 3, 0, 0) := rfl
theorem q210_52 : mE (mtv 210) 52 = some (.iconst 0, 1, 0, 0) := rfl
theorem q210_65 : mE (mtv 210) 65 = some (.aload_n 0, 1, 0, 0) := rfl
theorem q210_66 : mE (mtv 210) 66 = some (.iload_n 1, 1, 0, 0) := rfl
theorem q210_67 : mE (mtv 210) 67 = some (.putfield 104, 3, 9, 31) := rfl
theorem q210_70 : mE (mtv 210) 70 = some (.aload_n 0, 1, 0, 0) := rfl
theorem q210_71 : mE (mtv 210) 71 = some (.iload_n 2, 1, 0, 0) := rfl
theorem q210_72 : mE (mtv 210) 72 = some (.putfield 108, 3, 9, 32) := rfl
theorem q210_75 : mE (mtv 210) 75 = some (.aload_n 0, 1, 0, 0) := rfl
theorem q210_76 : mE (mtv 210) 76 = some (.iload_n 3, 1, 0, 0) := rfl
theorem q210_77 : mE (mtv 210) 77 = some (.putfield 111, 3, 9, 33) := rfl
theorem q210_80 : mE (mtv 210) 80 = some (.aload_n 0, 1, 0, 0) := rfl
theorem q210_81 : mE (mtv 210) 81 = some (.iconst 0, 1, 0, 0) := rfl
theorem q210_82 : mE (mtv 210) 82 = some (.putfield 114, 3, 9, 34) := rfl
theorem q210_85 : mE (mtv 210) 85 = some (.iconst 0, 1, 0, 0) := rfl
theorem q210_86 : mE (mtv 210) 86 = some (.istore 4, 2, 0, 0) := rfl
theorem q210_88 : mE (mtv 210) 88 = some (.iload 4, 2, 0, 0) := rfl
theorem q210_90 : mE (mtv 210) 90 = some (.bipush 6, 2, 0, 0) := rfl
theorem q210_92 : mE (mtv 210) 92 = some (.if_icmp .ge 18, 3, 0, 0) := rfl
theorem q210_95 : mE (mtv 210) 95 = some (.aload_n 0, 1, 0, 0) := rfl
theorem q210_96 : mE (mtv 210) 96 = some (.getfield 71, 3, 9, 20) := rfl
theorem q210_99 : mE (mtv 210) 99 = some (.iload 4, 2, 0, 0) := rfl
theorem q210_101 : mE (mtv 210) 101 = some (.bipush 63, 2, 0, 0) := rfl
theorem q210_103 : mE (mtv 210) 103 = some (.iastore, 1, 0, 0) := rfl
theorem q210_104 : mE (mtv 210) 104 = some (.iinc 4 1, 3, 0, 0) := rfl
theorem q210_107 : mE (mtv 210) 107 = some (.goto (-19), 3, 0, 0) := rfl
theorem q210_110 : mE (mtv 210) 110 = some (.aload_n 0, 1, 0, 0) := rfl
theorem q210_111 : mE (mtv 210) 111 = some (.invokevirtual 165, 3, 212, 9) := rfl
theorem q210_114 : mE (mtv 210) 114 = some (.ireturn, 1, 0, 0) := rfl
theorem q212_0 : mE (mtv 212) 0 = some (.bipush 6, 2, 0, 0) := rfl
theorem q212_2 : mE (mtv 212) 2 = some (.newarray .int, 2, 0, 0) := rfl
theorem q212_4 : mE (mtv 212) 4 = some (.astore_n 1, 1, 0, 0) := rfl
theorem q212_5 : mE (mtv 212) 5 = some (.bipush 6, 2, 0, 0) := rfl
theorem q212_7 : mE (mtv 212) 7 = some (.newarray .int, 2, 0, 0) := rfl
theorem q212_9 : mE (mtv 212) 9 = some (.astore_n 2, 1, 0, 0) := rfl
theorem q212_10 : mE (mtv 212) 10 = some (.iconst 0, 1, 0, 0) := rfl
theorem q212_11 : mE (mtv 212) 11 = some (.istore_n 3, 1, 0, 0) := rfl
theorem q212_12 : mE (mtv 212) 12 = some (.iload_n 3, 1, 0, 0) := rfl
theorem q212_13 : mE (mtv 212) 13 = some (.aload_n 0, 1, 0, 0) := rfl
theorem q212_14 : mE (mtv 212) 14 = some (.getfield 108, 3, 9, 32) := rfl
theorem q212_17 : mE (mtv 212) 17 = some (.if_icmp .ge 22, 3, 0, 0) := rfl
theorem q212_20 : mE (mtv 212) 20 = some (.aload_n 1, 1, 0, 0) := rfl
theorem q212_21 : mE (mtv 212) 21 = some (.iload_n 3, 1, 0, 0) := rfl
theorem q212_22 : mE (mtv 212) 22 = some (.aload_n 0, 1, 0, 0) := rfl
theorem q212_23 : mE (mtv 212) 23 = some (.getfield 71, 3, 9, 20) := rfl
theorem q212_26 : mE (mtv 212) 26 = some (.iconst 0, 1, 0, 0) := rfl
theorem q212_27 : mE (mtv 212) 27 = some (.iaload, 1, 0, 0) := rfl
theorem q212_28 : mE (mtv 212) 28 = some (.iload_n 3, 1, 0, 0) := rfl
theorem q212_29 : mE (mtv 212) 29 = some (.ishr, 1, 0, 0) := rfl
theorem q212_30 : mE (mtv 212) 30 = some (.iconst 1, 1, 0, 0) := rfl
theorem q212_31 : mE (mtv 212) 31 = some (.iand, 1, 0, 0) := rfl
theorem q212_32 : mE (mtv 212) 32 = some (.iastore, 1, 0, 0) := rfl
theorem q212_33 : mE (mtv 212) 33 = some (.iinc 3 1, 3, 0, 0) := rfl
theorem q212_36 : mE (mtv 212) 36 = some (.goto (-24), 3, 0, 0) := rfl
theorem q212_39 : mE (mtv 212) 39 = some (.iconst 1, 1, 0, 0) := rfl
theorem q212_40 : mE (mtv 212) 40 = some (.istore_n 3, 1, 0, 0) := rfl
theorem q212_41 : mE (mtv 212) 41 = some (.iload_n 3, 1, 0, 0) := rfl
theorem q212_42 : mE (mtv 212) 42 = some (.aload_n 0, 1, 0, 0) := rfl
theorem q212_43 : mE (mtv 212) 43 = some (.getfield 104, 3, 9, 31) := rfl
theorem q212_46 : mE (mtv 212) 46 = some (.if_icmp .ge 121, 3, 0, 0) := rfl
theorem q212_49 : mE (mtv 212) 49 = some (.iconst 0, 1, 0, 0) := rfl
theorem q212_50 : mE (mtv 212) 50 = some (.istore 4, 2, 0, 0) := rfl
theorem q212_52 : mE (mtv 212) 52 = some (.iload 4, 2, 0, 0) := rfl
theorem q212_54 : mE (mtv 212) 54 = some (.aload_n 0, 1, 0, 0) := rfl
theorem q212_55 : mE (mtv 212) 55 = some (.getfield 108, 3, 9, 32) := rfl
theorem q212_58 : mE (mtv 212) 58 = some (.if_icmp .ge 77, 3, 0, 0) := rfl
theorem q212_61 : mE (mtv 212) 61 = some (.aload_n 2, 1, 0, 0) := rfl
theorem q212_62 : mE (mtv 212) 62 = some (.iload 4, 2, 0, 0) := rfl
theorem q212_64 : mE (mtv 212) 64 = some (.iconst 0, 1, 0, 0) := rfl
theorem q212_65 : mE (mtv 212) 65 = some (.iastore, 1, 0, 0) := rfl
theorem q212_66 : mE (mtv 212) 66 = some (.iconst 0, 1, 0, 0) := rfl
theorem q212_67 : mE (mtv 212) 67 = some (.istore 5, 2, 0, 0) := rfl
theorem q212_69 : mE (mtv 212) 69 = some (.iload 5, 2, 0, 0) := rfl
theorem q212_71 : mE (mtv 212) 71 = some (.aload_n 0, 1, 0, 0) := rfl
theorem q212_72 : mE (mtv 212) 72 = some (.getfield 108, 3, 9, 32) := rfl
theorem q212_75 : mE (mtv 212) 75 = some (.if_icmp .ge 54, 3, 0, 0) := rfl
theorem q212_78 : mE (mtv 212) 78 = some (.aload_n 2, 1, 0, 0) := rfl
theorem q212_79 : mE (mtv 212) 79 = some (.iload 4, 2, 0, 0) := rfl
theorem q212_81 : mE (mtv 212) 81 = some (.dup2, 1, 0, 0) := rfl
theorem q212_82 : mE (mtv 212) 82 = some (.iaload, 1, 0, 0) := rfl
theorem q212_83 : mE (mtv 212) 83 = some (.iload 4, 2, 0, 0) := rfl
theorem q212_85 : mE (mtv 212) 85 = some (.iload 5, 2, 0, 0) := rfl
theorem q212_87 : mE (mtv 212) 87 = some (.isub, 1, 0, 0) := rfl
theorem q212_88 : mE (mtv 212) 88 = some (.invokestatic 161, 3, 213, 0) := rfl
theorem q212_91 : mE (mtv 212) 91 = some (.aload_n 0, 1, 0, 0) := rfl
theorem q212_92 : mE (mtv 212) 92 = some (.getfield 111, 3, 9, 33) := rfl
theorem q212_95 : mE (mtv 212) 95 = some (.if_icmp .gt 25, 3, 0, 0) := rfl
theorem q212_98 : mE (mtv 212) 98 = some (.aload_n 0, 1, 0, 0) := rfl
theorem q212_99 : mE (mtv 212) 99 = some (.getfield 71, 3, 9, 20) := rfl
theorem q212_102 : mE (mtv 212) 102 = some (.iload_n 3, 1, 0, 0) := rfl
theorem q212_103 : mE (mtv 212) 103 = some (.iaload, 1, 0, 0) := rfl
theorem q212_104 : mE (mtv 212) 104 = some (.iload 4, 2, 0, 0) := rfl
theorem q212_106 : mE (mtv 212) 106 = some (.ishr, 1, 0, 0) := rfl
theorem q212_107 : mE (mtv 212) 107 = some (.iconst 1, 1, 0, 0) := rfl
theorem q212_108 : mE (mtv 212) 108 = some (.iand, 1, 0, 0) := rfl
theorem q212_109 : mE (mtv 212) 109 = some (.iconst 1, 1, 0, 0) := rfl
theorem q212_110 : mE (mtv 212) 110 = some (.if_icmp .ne 10, 3, 0, 0) := rfl
theorem q212_113 : mE (mtv 212) 113 = some (.aload_n 1, 1, 0, 0) := rfl
theorem q212_114 : mE (mtv 212) 114 = some (.iload 5, 2, 0, 0) := rfl
theorem q212_116 : mE (mtv 212) 116 = some (.iaload, 1, 0, 0) := rfl
theorem q212_117 : mE (mtv 212) 117 = some (.goto 4, 3, 0, 0) := rfl
theorem q212_120 : mE (mtv 212) 120 = some (.iconst 0, 1, 0, 0) := rfl
theorem q212_121 : mE (mtv 212) 121 = some (.iadd, 1, 0, 0) := rfl
theorem q212_122 : mE (mtv 212) 122 = some (.iastore, 1, 0, 0) := rfl
theorem q212_123 : mE (mtv 212) 123 = some (.iinc 5 1, 3, 0, 0) := rfl
theorem q212_126 : mE (mtv 212) 126 = some (.goto (-57), 3, 0, 0) := rfl
theorem q212_129 : mE (mtv 212) 129 = some (.iinc 4 1, 3, 0, 0) := rfl
theorem q212_132 : mE (mtv 212) 132 = some (.goto (-80), 3, 0, 0) := rfl
theorem q212_135 : mE (mtv 212) 135 = some (.iconst 0, 1, 0, 0) := rfl
theorem q212_136 : mE (mtv 212) 136 = some (.istore 4, 2, 0, 0) := rfl
theorem q212_138 : mE (mtv 212) 138 = some (.iload 4, 2, 0, 0) := rfl
theorem q212_140 : mE (mtv 212) 140 = some (.aload_n 0, 1, 0, 0) := rfl
theorem q212_141 : mE (mtv 212) 141 = some (.getfield 108, 3, 9, 32) := rfl
theorem q212_144 : mE (mtv 212) 144 = some (.if_icmp .ge 17, 3, 0, 0) := rfl
theorem q212_147 : mE (mtv 212) 147 = some (.aload_n 1, 1, 0, 0) := rfl
theorem q212_148 : mE (mtv 212) 148 = some (.iload 4, 2, 0, 0) := rfl
theorem q212_150 : mE (mtv 212) 150 = some (.aload_n 2, 1, 0, 0) := rfl
theorem q212_151 : mE (mtv 212) 151 = some (.iload 4, 2, 0, 0) := rfl
theorem q212_153 : mE (mtv 212) 153 = some (.iaload, 1, 0, 0) := rfl
theorem q212_154 : mE (mtv 212) 154 = some (.iastore, 1, 0, 0) := rfl
theorem q212_155 : mE (mtv 212) 155 = some (.iinc 4 1, 3, 0, 0) := rfl
theorem q212_158 : mE (mtv 212) 158 = some (.goto (-20), 3, 0, 0) := rfl
theorem q212_161 : mE (mtv 212) 161 = some (.iinc 3 1, 3, 0, 0) := rfl
theorem q212_164 : mE (mtv 212) 164 = some (.goto (-123), 3, 0, 0) := rfl
theorem q212_167 : mE (mtv 212) 167 = some (.iconst 0, 1, 0, 0) := rfl
theorem q212_168 : mE (mtv 212) 168 = some (.istore_n 3, 1, 0, 0) := rfl
theorem q212_169 : mE (mtv 212) 169 = some (.iconst 0, 1, 0, 0) := rfl
theorem q212_170 : mE (mtv 212) 170 = some (.istore 4, 2, 0, 0) := rfl
theorem q212_172 : mE (mtv 212) 172 = some (.iload 4, 2, 0, 0) := rfl
theorem q212_174 : mE (mtv 212) 174 = some (.aload_n 0, 1, 0, 0) := rfl
theorem q212_175 : mE (mtv 212) 175 = some (.getfield 108, 3, 9, 32) := rfl
theorem q212_178 : mE (mtv 212) 178 = some (.if_icmp .ge 16, 3, 0, 0) := rfl
theorem q212_181 : mE (mtv 212) 181 = some (.iload_n 3, 1, 0, 0) := rfl
theorem q212_182 : mE (mtv 212) 182 = some (.aload_n 1, 1, 0, 0) := rfl
theorem q212_183 : mE (mtv 212) 183 = some (.iload 4, 2, 0, 0) := rfl
theorem q212_185 : mE (mtv 212) 185 = some (.iaload, 1, 0, 0) := rfl
theorem q212_186 : mE (mtv 212) 186 = some (.iadd, 1, 0, 0) := rfl
theorem q212_187 : mE (mtv 212) 187 = some (.istore_n 3, 1, 0, 0) := rfl
theorem q212_188 : mE (mtv 212) 188 = some (.iinc 4 1, 3, 0, 0) := rfl
theorem q212_191 : mE (mtv 212) 191 = some (.goto (-19), 3, 0, 0) := rfl
theorem q212_194 : mE (mtv 212) 194 = some (.iload_n 3, 1, 0, 0) := rfl
theorem q212_195 : mE (mtv 212) 195 = some (.ireturn, 1, 0, 0) := rfl
theorem q213_0 : mE (mtv 213) 0 = some (.iload_n 0, 1, 0, 0) := rfl
theorem q213_1 : mE (mtv 213) 1 = some (.ifCond .ge 8, 3, 0, 0) := rfl
theorem q213_4 : mE (mtv 213) 4 = some (.iload_n 0, 1, 0, 0) := rfl
theorem q213_5 : mE (mtv 213) 5 = some (.ineg, 1, 0, 0) := rfl
theorem q213_6 : mE (mtv 213) 6 = some (.goto 4, 3, 0, 0) := rfl
theorem q213_9 : mE (mtv 213) 9 = some (.iload_n 0, 1, 0, 0) := rfl
theorem q213_10 : mE (mtv 213) 10 = some (.ireturn, 1, 0, 0) := rfl
theorem q256_48 : mE (mtv 256) 48 = some (.iconst 0, 1, 0, 0) := rfl
theorem q256_61 : mE (mtv 256) 61 = some (.bipush 6, 2, 0, 0) := rfl
theorem q256_63 : mE (mtv 256) 63 = some (.newarray .int, 2, 0, 0) := rfl
theorem q256_65 : mE (mtv 256) 65 = some (.astore 5, 2, 0, 0) := rfl
theorem q256_67 : mE (mtv 256) 67 = some (.bipush 6, 2, 0, 0) := rfl
theorem q256_69 : mE (mtv 256) 69 = some (.newarray .int, 2, 0, 0) := rfl
theorem q256_71 : mE (mtv 256) 71 = some (.astore 6, 2, 0, 0) := rfl
theorem q256_73 : mE (mtv 256) 73 = some (.iconst 0, 1, 0, 0) := rfl
theorem q256_74 : mE (mtv 256) 74 = some (.istore 7, 2, 0, 0) := rfl
theorem q256_76 : mE (mtv 256) 76 = some (.iload 7, 2, 0, 0) := rfl
theorem q256_78 : mE (mtv 256) 78 = some (.iload_n 3, 1, 0, 0) := rfl
theorem q256_79 : mE (mtv 256) 79 = some (.if_icmp .ge 32, 3, 0, 0) := rfl
theorem q256_82 : mE (mtv 256) 82 = some (.aload 5, 2, 0, 0) := rfl
theorem q256_84 : mE (mtv 256) 84 = some (.iload 7, 2, 0, 0) := rfl
theorem q256_86 : mE (mtv 256) 86 = some (.iload_n 1, 1, 0, 0) := rfl
theorem q256_87 : mE (mtv 256) 87 = some (.iload 7, 2, 0, 0) := rfl
theorem q256_89 : mE (mtv 256) 89 = some (.iload_n 2, 1, 0, 0) := rfl
theorem q256_90 : mE (mtv 256) 90 = some (.imul, 1, 0, 0) := rfl
theorem q256_91 : mE (mtv 256) 91 = some (.iadd, 1, 0, 0) := rfl
theorem q256_92 : mE (mtv 256) 92 = some (.aload_n 0, 1, 0, 0) := rfl
theorem q256_93 : mE (mtv 256) 93 = some (.getfield 108, 3, 9, 32) := rfl
theorem q256_96 : mE (mtv 256) 96 = some (.if_icmp .ge 7, 3, 0, 0) := rfl
theorem q256_99 : mE (mtv 256) 99 = some (.iconst 1, 1, 0, 0) := rfl
theorem q256_100 : mE (mtv 256) 100 = some (.goto 4, 3, 0, 0) := rfl
theorem q256_103 : mE (mtv 256) 103 = some (.iconst 0, 1, 0, 0) := rfl
theorem q256_104 : mE (mtv 256) 104 = some (.iastore, 1, 0, 0) := rfl
theorem q256_105 : mE (mtv 256) 105 = some (.iinc 7 1, 3, 0, 0) := rfl
theorem q256_108 : mE (mtv 256) 108 = some (.goto (-32), 3, 0, 0) := rfl
theorem q256_111 : mE (mtv 256) 111 = some (.iconst 1, 1, 0, 0) := rfl
theorem q256_112 : mE (mtv 256) 112 = some (.istore 7, 2, 0, 0) := rfl
theorem q256_114 : mE (mtv 256) 114 = some (.iload 7, 2, 0, 0) := rfl
theorem q256_116 : mE (mtv 256) 116 = some (.aload_n 0, 1, 0, 0) := rfl
theorem q256_117 : mE (mtv 256) 117 = some (.getfield 104, 3, 9, 31) := rfl
theorem q256_120 : mE (mtv 256) 120 = some (.if_icmp .ge 130, 3, 0, 0) := rfl
theorem q256_123 : mE (mtv 256) 123 = some (.iconst 0, 1, 0, 0) := rfl
theorem q256_124 : mE (mtv 256) 124 = some (.istore 8, 2, 0, 0) := rfl
theorem q256_126 : mE (mtv 256) 126 = some (.iload 8, 2, 0, 0) := rfl
theorem q256_128 : mE (mtv 256) 128 = some (.iload_n 3, 1, 0, 0) := rfl
theorem q256_129 : mE (mtv 256) 129 = some (.if_icmp .ge 90, 3, 0, 0) := rfl
theorem q256_132 : mE (mtv 256) 132 = some (.aload 6, 2, 0, 0) := rfl
theorem q256_134 : mE (mtv 256) 134 = some (.iload 8, 2, 0, 0) := rfl
theorem q256_136 : mE (mtv 256) 136 = some (.iconst 0, 1, 0, 0) := rfl
theorem q256_137 : mE (mtv 256) 137 = some (.iastore, 1, 0, 0) := rfl
theorem q256_138 : mE (mtv 256) 138 = some (.iconst 0, 1, 0, 0) := rfl
theorem q256_139 : mE (mtv 256) 139 = some (.istore 9, 2, 0, 0) := rfl
theorem q256_141 : mE (mtv 256) 141 = some (.iload 9, 2, 0, 0) := rfl
theorem q256_143 : mE (mtv 256) 143 = some (.iload_n 3, 1, 0, 0) := rfl
theorem q256_144 : mE (mtv 256) 144 = some (.if_icmp .ge 69, 3, 0, 0) := rfl
theorem q256_147 : mE (mtv 256) 147 = some (.aload 6, 2, 0, 0) := rfl
theorem q256_149 : mE (mtv 256) 149 = some (.iload 8, 2, 0, 0) := rfl
theorem q256_151 : mE (mtv 256) 151 = some (.dup2, 1, 0, 0) := rfl
theorem q256_152 : mE (mtv 256) 152 = some (.iaload, 1, 0, 0) := rfl
theorem q256_153 : mE (mtv 256) 153 = some (.iload 8, 2, 0, 0) := rfl
theorem q256_155 : mE (mtv 256) 155 = some (.iload 9, 2, 0, 0) := rfl
theorem q256_157 : mE (mtv 256) 157 = some (.isub, 1, 0, 0) := rfl
theorem q256_158 : mE (mtv 256) 158 = some (.invokestatic 161, 3, 213, 0) := rfl
theorem q256_161 : mE (mtv 256) 161 = some (.iload 4, 2, 0, 0) := rfl
theorem q256_163 : mE (mtv 256) 163 = some (.if_icmp .gt 41, 3, 0, 0) := rfl
theorem q256_166 : mE (mtv 256) 166 = some (.iload_n 2, 1, 0, 0) := rfl
theorem q256_167 : mE (mtv 256) 167 = some (.iload 8, 2, 0, 0) := rfl
theorem q256_169 : mE (mtv 256) 169 = some (.iload 9, 2, 0, 0) := rfl
theorem q256_171 : mE (mtv 256) 171 = some (.isub, 1, 0, 0) := rfl
theorem q256_172 : mE (mtv 256) 172 = some (.invokestatic 161, 3, 213, 0) := rfl
theorem q256_175 : mE (mtv 256) 175 = some (.imul, 1, 0, 0) := rfl
theorem q256_176 : mE (mtv 256) 176 = some (.aload_n 0, 1, 0, 0) := rfl
theorem q256_177 : mE (mtv 256) 177 = some (.getfield 111, 3, 9, 33) := rfl
theorem q256_180 : mE (mtv 256) 180 = some (.if_icmp .gt 24, 3, 0, 0) := rfl
theorem q256_183 : mE (mtv 256) 183 = some (.iload_n 1, 1, 0, 0) := rfl
theorem q256_184 : mE (mtv 256) 184 = some (.iload 8, 2, 0, 0) := rfl
theorem q256_186 : mE (mtv 256) 186 = some (.iload_n 2, 1, 0, 0) := rfl
theorem q256_187 : mE (mtv 256) 187 = some (.imul, 1, 0, 0) := rfl
theorem q256_188 : mE (mtv 256) 188 = some (.iadd, 1, 0, 0) := rfl
theorem q256_189 : mE (mtv 256) 189 = some (.aload_n 0, 1, 0, 0) := rfl
theorem q256_190 : mE (mtv 256) 190 = some (.getfield 108, 3, 9, 32) := rfl
theorem q256_193 : mE (mtv 256) 193 = some (.if_icmp .ge 11, 3, 0, 0) := rfl
theorem q256_196 : mE (mtv 256) 196 = some (.aload 5, 2, 0, 0) := rfl
theorem q256_198 : mE (mtv 256) 198 = some (.iload 9, 2, 0, 0) := rfl
theorem q256_200 : mE (mtv 256) 200 = some (.iaload, 1, 0, 0) := rfl
theorem q256_201 : mE (mtv 256) 201 = some (.goto 4, 3, 0, 0) := rfl
theorem q256_204 : mE (mtv 256) 204 = some (.iconst 0, 1, 0, 0) := rfl
theorem q256_205 : mE (mtv 256) 205 = some (.iadd, 1, 0, 0) := rfl
theorem q256_206 : mE (mtv 256) 206 = some (.iastore, 1, 0, 0) := rfl
theorem q256_207 : mE (mtv 256) 207 = some (.iinc 9 1, 3, 0, 0) := rfl
theorem q256_210 : mE (mtv 256) 210 = some (.goto (-69), 3, 0, 0) := rfl
theorem q256_213 : mE (mtv 256) 213 = some (.iinc 8 1, 3, 0, 0) := rfl
theorem q256_216 : mE (mtv 256) 216 = some (.goto (-90), 3, 0, 0) := rfl
theorem q256_219 : mE (mtv 256) 219 = some (.iconst 0, 1, 0, 0) := rfl
theorem q256_220 : mE (mtv 256) 220 = some (.istore 8, 2, 0, 0) := rfl
theorem q256_222 : mE (mtv 256) 222 = some (.iload 8, 2, 0, 0) := rfl
theorem q256_224 : mE (mtv 256) 224 = some (.iload_n 3, 1, 0, 0) := rfl
theorem q256_225 : mE (mtv 256) 225 = some (.if_icmp .ge 19, 3, 0, 0) := rfl
theorem q256_228 : mE (mtv 256) 228 = some (.aload 5, 2, 0, 0) := rfl
theorem q256_230 : mE (mtv 256) 230 = some (.iload 8, 2, 0, 0) := rfl
theorem q256_232 : mE (mtv 256) 232 = some (.aload 6, 2, 0, 0) := rfl
theorem q256_234 : mE (mtv 256) 234 = some (.iload 8, 2, 0, 0) := rfl
theorem q256_236 : mE (mtv 256) 236 = some (.iaload, 1, 0, 0) := rfl
theorem q256_237 : mE (mtv 256) 237 = some (.iastore, 1, 0, 0) := rfl
theorem q256_238 : mE (mtv 256) 238 = some (.iinc 8 1, 3, 0, 0) := rfl
theorem q256_241 : mE (mtv 256) 241 = some (.goto (-19), 3, 0, 0) := rfl
theorem q256_244 : mE (mtv 256) 244 = some (.iinc 7 1, 3, 0, 0) := rfl
theorem q256_247 : mE (mtv 256) 247 = some (.goto (-133), 3, 0, 0) := rfl
theorem q256_250 : mE (mtv 256) 250 = some (.iconst 0, 1, 0, 0) := rfl
theorem q256_251 : mE (mtv 256) 251 = some (.istore 7, 2, 0, 0) := rfl
theorem q256_253 : mE (mtv 256) 253 = some (.iconst 0, 1, 0, 0) := rfl
theorem q256_254 : mE (mtv 256) 254 = some (.istore 8, 2, 0, 0) := rfl
theorem q256_256 : mE (mtv 256) 256 = some (.iload 8, 2, 0, 0) := rfl
theorem q256_258 : mE (mtv 256) 258 = some (.iload_n 3, 1, 0, 0) := rfl
theorem q256_259 : mE (mtv 256) 259 = some (.if_icmp .ge 19, 3, 0, 0) := rfl
theorem q256_262 : mE (mtv 256) 262 = some (.iload 7, 2, 0, 0) := rfl
theorem q256_264 : mE (mtv 256) 264 = some (.aload 5, 2, 0, 0) := rfl
theorem q256_266 : mE (mtv 256) 266 = some (.iload 8, 2, 0, 0) := rfl
theorem q256_268 : mE (mtv 256) 268 = some (.iaload, 1, 0, 0) := rfl
theorem q256_269 : mE (mtv 256) 269 = some (.iadd, 1, 0, 0) := rfl
theorem q256_270 : mE (mtv 256) 270 = some (.istore 7, 2, 0, 0) := rfl
theorem q256_272 : mE (mtv 256) 272 = some (.iinc 8 1, 3, 0, 0) := rfl
theorem q256_275 : mE (mtv 256) 275 = some (.goto (-19), 3, 0, 0) := rfl
theorem q256_278 : mE (mtv 256) 278 = some (.iload 7, 2, 0, 0) := rfl
theorem q256_280 : mE (mtv 256) 280 = some (.ireturn, 1, 0, 0) := rfl
noncomputable def qc10_0 : Nat → Option qF := fun pc => bif Nat.blt pc 4 then (bif Nat.blt pc 1 then (bif Nat.beq pc 0 then some (fLdA 0 1) else none) else (bif Nat.beq pc 1 then some (fGet 4 6 4) else none)) else (bif Nat.blt pc 5 then (bif Nat.beq pc 4 then some (fStI 1 5) else none) else (bif Nat.beq pc 5 then some (fLdA 0 6) else none))
noncomputable def qc10_1 : Nat → Option qF := fun pc => bif Nat.blt pc 10 then (bif Nat.blt pc 7 then (bif Nat.beq pc 6 then some (fPu (.long 0) 7) else none) else (bif Nat.beq pc 7 then some (fSl (mtv 10)) else none)) else (bif Nat.blt pc 11 then (bif Nat.beq pc 10 then some (fLdA 0 11) else none) else (bif Nat.beq pc 11 then some (fPu (.int (0)) 12) else none))
noncomputable def qc10_2 : Nat → Option qF := fun pc => bif Nat.blt pc 15 then (bif Nat.beq pc 12 then some (fSl (mtv 10)) else none) else (bif Nat.blt pc 16 then (bif Nat.beq pc 15 then some (fLdI 1 16) else none) else (bif Nat.beq pc 16 then some (fRI .int) else none))
noncomputable def qc10_t0 : Nat → Option qF := fun pc => bif Nat.blt pc 6 then (qc10_0 pc) else (bif Nat.blt pc 12 then (qc10_1 pc) else (qc10_2 pc))
noncomputable def qc10 : Nat → Option qF := qc10_t0
noncomputable def qc34_0 : Nat → Option qF := fun pc => bif Nat.blt pc 4 then (bif Nat.blt pc 1 then (bif Nat.beq pc 0 then some (fLdA 0 1) else none) else (bif Nat.beq pc 1 then some (fGet 4 1 4) else none)) else (bif Nat.blt pc 5 then (bif Nat.beq pc 4 then some (fPu (.int (1)) 5) else none) else (bif Nat.beq pc 5 then some (fBi nSub 6) else none))
noncomputable def qc34_1 : Nat → Option qF := fun pc => bif Nat.blt pc 10 then (bif Nat.blt pc 8 then (bif Nat.beq pc 6 then some (fStI 4 8) else none) else (bif Nat.beq pc 8 then some (fLdI 4 10) else none)) else (bif Nat.blt pc 13 then (bif Nat.beq pc 10 then some (fIf .lt 74 13) else none) else (bif Nat.beq pc 13 then some (fPu (.int (0)) 14) else none))
noncomputable def qc34_2 : Nat → Option qF := fun pc => bif Nat.blt pc 18 then (bif Nat.blt pc 16 then (bif Nat.beq pc 14 then some (fStI 5 16) else none) else (bif Nat.beq pc 16 then some (fLdI 5 18) else none)) else (bif Nat.blt pc 19 then (bif Nat.beq pc 18 then some (fLdA 0 19) else none) else (bif Nat.beq pc 19 then some (fGet 4 2 22) else none))
noncomputable def qc34_3 : Nat → Option qF := fun pc => bif Nat.blt pc 26 then (bif Nat.blt pc 25 then (bif Nat.beq pc 22 then some (fIc .ge 68 25) else none) else (bif Nat.beq pc 25 then some (fLdA 0 26) else none)) else (bif Nat.blt pc 29 then (bif Nat.beq pc 26 then some (fGet 4 0 29) else none) else (bif Nat.beq pc 29 then some (fLdI 4 31) else none))
noncomputable def qc34_4 : Nat → Option qF := fun pc => bif Nat.blt pc 34 then (bif Nat.blt pc 32 then (bif Nat.beq pc 31 then some (fSl (mtv 34)) else none) else (bif Nat.beq pc 32 then some (fLdI 5 34) else none)) else (bif Nat.blt pc 35 then (bif Nat.beq pc 34 then some (fLdL 1 35) else none) else (bif Nat.beq pc 35 then some (fLdI 4 37) else none))
noncomputable def qc34_5 : Nat → Option qF := fun pc => bif Nat.blt pc 42 then (bif Nat.blt pc 39 then (bif Nat.beq pc 37 then some (fLdI 5 39) else none) else (bif Nat.beq pc 39 then some (fCs 0 0 35 2 0 0 42) else none)) else (bif Nat.blt pc 43 then (bif Nat.beq pc 42 then some (fBl (fun x y => x &&& y) 43) else none) else (bif Nat.beq pc 43 then some (fPu (.long 0) 44) else none))
noncomputable def qc34_6 : Nat → Option qF := fun pc => bif Nat.blt pc 48 then (bif Nat.blt pc 45 then (bif Nat.beq pc 44 then some (fSl (mtv 34)) else none) else (bif Nat.beq pc 45 then some (fIf .ne 52 48) else none)) else (bif Nat.blt pc 49 then (bif Nat.beq pc 48 then some (fPu (.int (0)) 49) else none) else (bif Nat.beq pc 49 then some (fGo 61) else none))
noncomputable def qc34_7 : Nat → Option qF := fun pc => bif Nat.blt pc 55 then (bif Nat.blt pc 53 then (bif Nat.beq pc 52 then some (fLdA 0 53) else none) else (bif Nat.beq pc 53 then some (fLdI 4 55) else none)) else (bif Nat.blt pc 57 then (bif Nat.beq pc 55 then some (fLdI 5 57) else none) else (bif Nat.beq pc 57 then some (fLdI 3 58) else none))
noncomputable def qc34_8 : Nat → Option qF := fun pc => bif Nat.blt pc 62 then (bif Nat.blt pc 61 then (bif Nat.beq pc 58 then some (fCv 0 0 36 4 3 0 0 61) else none) else (bif Nat.beq pc 61 then some (fIas 62) else none)) else (bif Nat.blt pc 65 then (bif Nat.beq pc 62 then some (fInc 5 1 65) else none) else (bif Nat.beq pc 65 then some (fGo 16) else none))
noncomputable def qc34_9 : Nat → Option qF := fun pc => bif Nat.blt pc 74 then (bif Nat.blt pc 71 then (bif Nat.beq pc 68 then some (fInc 4 (-1) 71) else none) else (bif Nat.beq pc 71 then some (fGo 8) else none)) else (bif Nat.blt pc 75 then (bif Nat.beq pc 74 then some (fPu (.int (0)) 75) else none) else (bif Nat.beq pc 75 then some (fStI 4 77) else none))
noncomputable def qc34_10 : Nat → Option qF := fun pc => bif Nat.blt pc 80 then (bif Nat.blt pc 78 then (bif Nat.beq pc 77 then some (fPu (.int (0)) 78) else none) else (bif Nat.beq pc 78 then some (fStI 5 80) else none)) else (bif Nat.blt pc 82 then (bif Nat.beq pc 80 then some (fLdI 5 82) else none) else (bif Nat.beq pc 82 then some (fLdA 0 83) else none))
noncomputable def qc34_11 : Nat → Option qF := fun pc => bif Nat.blt pc 89 then (bif Nat.blt pc 86 then (bif Nat.beq pc 83 then some (fGet 4 2 86) else none) else (bif Nat.beq pc 86 then some (fIc .ge 109 89) else none)) else (bif Nat.blt pc 91 then (bif Nat.beq pc 89 then some (fLdI 4 91) else none) else (bif Nat.beq pc 91 then some (fLdA 0 92) else none))
noncomputable def qc34_12 : Nat → Option qF := fun pc => bif Nat.blt pc 96 then (bif Nat.blt pc 95 then (bif Nat.beq pc 92 then some (fGet 4 0 95) else none) else (bif Nat.beq pc 95 then some (fPu (.int (0)) 96) else none)) else (bif Nat.blt pc 97 then (bif Nat.beq pc 96 then some (fSl (mtv 34)) else none) else (bif Nat.beq pc 97 then some (fLdI 5 99) else none))
noncomputable def qc34_13 : Nat → Option qF := fun pc => bif Nat.blt pc 101 then (bif Nat.blt pc 100 then (bif Nat.beq pc 99 then some (fIal 100) else none) else (bif Nat.beq pc 100 then some (fBi nAdd 101) else none)) else (bif Nat.blt pc 103 then (bif Nat.beq pc 101 then some (fStI 4 103) else none) else (bif Nat.beq pc 103 then some (fInc 5 1 106) else none))
noncomputable def qc34_14 : Nat → Option qF := fun pc => bif Nat.blt pc 109 then (bif Nat.beq pc 106 then some (fGo 80) else none) else (bif Nat.blt pc 111 then (bif Nat.beq pc 109 then some (fLdI 4 111) else none) else (bif Nat.beq pc 111 then some (fRI .int) else none))
noncomputable def qc34_t0 : Nat → Option qF := fun pc => bif Nat.blt pc 14 then (bif Nat.blt pc 6 then (qc34_0 pc) else (qc34_1 pc)) else (bif Nat.blt pc 22 then (qc34_2 pc) else (qc34_3 pc))
noncomputable def qc34_t1 : Nat → Option qF := fun pc => bif Nat.blt pc 44 then (bif Nat.blt pc 37 then (qc34_4 pc) else (qc34_5 pc)) else (bif Nat.blt pc 52 then (qc34_6 pc) else (qc34_7 pc))
noncomputable def qc34_t2 : Nat → Option qF := fun pc => bif Nat.blt pc 77 then (bif Nat.blt pc 68 then (qc34_8 pc) else (qc34_9 pc)) else (bif Nat.blt pc 83 then (qc34_10 pc) else (qc34_11 pc))
noncomputable def qc34_t3 : Nat → Option qF := fun pc => bif Nat.blt pc 99 then (qc34_12 pc) else (bif Nat.blt pc 106 then (qc34_13 pc) else (qc34_14 pc))
noncomputable def qc34_t4 : Nat → Option qF := fun pc => bif Nat.blt pc 58 then (bif Nat.blt pc 31 then (qc34_t0 pc) else (qc34_t1 pc)) else (bif Nat.blt pc 92 then (qc34_t2 pc) else (qc34_t3 pc))
noncomputable def qc34 : Nat → Option qF := qc34_t4
noncomputable def qc35_0 : Nat → Option qF := fun pc => bif Nat.blt pc 3 then (bif Nat.blt pc 1 then (bif Nat.beq pc 0 then some (fPu (.long 1) 1) else none) else (bif Nat.beq pc 1 then some (fPu (.int (8)) 3) else none)) else (bif Nat.blt pc 4 then (bif Nat.beq pc 3 then some (fLdI 0 4) else none) else (bif Nat.beq pc 4 then some (fBi nMul 5) else none))
noncomputable def qc35_1 : Nat → Option qF := fun pc => bif Nat.blt pc 7 then (bif Nat.blt pc 6 then (bif Nat.beq pc 5 then some (fLdI 1 6) else none) else (bif Nat.beq pc 6 then some (fBi nAdd 7) else none)) else (bif Nat.blt pc 8 then (bif Nat.beq pc 7 then some (fSl (mtv 35)) else none) else (bif Nat.beq pc 8 then some (fSl (mtv 35)) else none))
noncomputable def qc35_t0 : Nat → Option qF := fun pc => bif Nat.blt pc 5 then (qc35_0 pc) else (qc35_1 pc)
noncomputable def qc35 : Nat → Option qF := qc35_t0
noncomputable def qc36_0 : Nat → Option qF := fun pc => bif Nat.blt pc 2 then (bif Nat.blt pc 1 then (bif Nat.beq pc 0 then some (fLdI 1 1) else none) else (bif Nat.beq pc 1 then some (fLdA 0 2) else none)) else (bif Nat.blt pc 5 then (bif Nat.beq pc 2 then some (fGet 4 1 5) else none) else (bif Nat.beq pc 5 then some (fPu (.int (1)) 6) else none))
noncomputable def qc36_1 : Nat → Option qF := fun pc => bif Nat.blt pc 10 then (bif Nat.blt pc 7 then (bif Nat.beq pc 6 then some (fBi nSub 7) else none) else (bif Nat.beq pc 7 then some (fIc .lt 12 10) else none)) else (bif Nat.blt pc 11 then (bif Nat.beq pc 10 then some (fPu (.int (1)) 11) else none) else (bif Nat.beq pc 11 then some (fRI .int) else none))
noncomputable def qc36_2 : Nat → Option qF := fun pc => bif Nat.blt pc 15 then (bif Nat.blt pc 13 then (bif Nat.beq pc 12 then some (fPu (.int (0)) 13) else none) else (bif Nat.beq pc 13 then some (fStI 4 15) else none)) else (bif Nat.blt pc 16 then (bif Nat.beq pc 15 then some (fPu (.int (0)) 16) else none) else (bif Nat.beq pc 16 then some (fStI 5 18) else none))
noncomputable def qc36_3 : Nat → Option qF := fun pc => bif Nat.blt pc 21 then (bif Nat.blt pc 20 then (bif Nat.beq pc 18 then some (fLdI 5 20) else none) else (bif Nat.beq pc 20 then some (fLdA 0 21) else none)) else (bif Nat.blt pc 24 then (bif Nat.beq pc 21 then some (fGet 4 2 24) else none) else (bif Nat.beq pc 24 then some (fIc .ge 60 27) else none))
noncomputable def qc36_4 : Nat → Option qF := fun pc => bif Nat.blt pc 30 then (bif Nat.blt pc 29 then (bif Nat.beq pc 27 then some (fLdI 5 29) else none) else (bif Nat.beq pc 29 then some (fLdI 2 30) else none)) else (bif Nat.blt pc 31 then (bif Nat.beq pc 30 then some (fBi nSub 31) else none) else (bif Nat.beq pc 31 then some (fAb 34) else none))
noncomputable def qc36_5 : Nat → Option qF := fun pc => bif Nat.blt pc 38 then (bif Nat.blt pc 35 then (bif Nat.beq pc 34 then some (fLdI 3 35) else none) else (bif Nat.beq pc 35 then some (fIc .gt 54 38) else none)) else (bif Nat.blt pc 40 then (bif Nat.beq pc 38 then some (fLdI 4 40) else none) else (bif Nat.beq pc 40 then some (fLdA 0 41) else none))
noncomputable def qc36_6 : Nat → Option qF := fun pc => bif Nat.blt pc 45 then (bif Nat.blt pc 44 then (bif Nat.beq pc 41 then some (fGet 4 0 44) else none) else (bif Nat.beq pc 44 then some (fLdI 1 45) else none)) else (bif Nat.blt pc 46 then (bif Nat.beq pc 45 then some (fPu (.int (1)) 46) else none) else (bif Nat.beq pc 46 then some (fBi nAdd 47) else none))
noncomputable def qc36_7 : Nat → Option qF := fun pc => bif Nat.blt pc 50 then (bif Nat.blt pc 48 then (bif Nat.beq pc 47 then some (fSl (mtv 36)) else none) else (bif Nat.beq pc 48 then some (fLdI 5 50) else none)) else (bif Nat.blt pc 51 then (bif Nat.beq pc 50 then some (fIal 51) else none) else (bif Nat.beq pc 51 then some (fBi nAdd 52) else none))
noncomputable def qc36_8 : Nat → Option qF := fun pc => bif Nat.blt pc 57 then (bif Nat.blt pc 54 then (bif Nat.beq pc 52 then some (fStI 4 54) else none) else (bif Nat.beq pc 54 then some (fInc 5 1 57) else none)) else (bif Nat.blt pc 60 then (bif Nat.beq pc 57 then some (fGo 18) else none) else (bif Nat.beq pc 60 then some (fLdI 4 62) else none))
noncomputable def qc36_9 : Nat → Option qF := fun pc => bif Nat.beq pc 62 then some (fRI .int) else none
noncomputable def qc36_t0 : Nat → Option qF := fun pc => bif Nat.blt pc 12 then (bif Nat.blt pc 6 then (qc36_0 pc) else (qc36_1 pc)) else (bif Nat.blt pc 18 then (qc36_2 pc) else (qc36_3 pc))
noncomputable def qc36_t1 : Nat → Option qF := fun pc => bif Nat.blt pc 41 then (bif Nat.blt pc 34 then (qc36_4 pc) else (qc36_5 pc)) else (bif Nat.blt pc 47 then (qc36_6 pc) else (qc36_7 pc))
noncomputable def qc36_t2 : Nat → Option qF := fun pc => bif Nat.blt pc 62 then (qc36_8 pc) else (qc36_9 pc)
noncomputable def qc36_t3 : Nat → Option qF := fun pc => bif Nat.blt pc 27 then (qc36_t0 pc) else (bif Nat.blt pc 52 then (qc36_t1 pc) else (qc36_t2 pc))
noncomputable def qc36 : Nat → Option qF := qc36_t3
noncomputable def qc45_0 : Nat → Option qF := fun pc => bif Nat.blt pc 3 then (bif Nat.blt pc 2 then (bif Nat.beq pc 0 then some (fLdA 4 2) else none) else (bif Nat.beq pc 2 then some (fPu (.int (0)) 3) else none)) else (bif Nat.blt pc 4 then (bif Nat.beq pc 3 then some (fLdA 0 4) else none) else (bif Nat.beq pc 4 then some (fLdI 1 5) else none))
noncomputable def qc45_1 : Nat → Option qF := fun pc => bif Nat.blt pc 7 then (bif Nat.blt pc 6 then (bif Nat.beq pc 5 then some (fLdI 2 6) else none) else (bif Nat.beq pc 6 then some (fLdI 3 7) else none)) else (bif Nat.blt pc 10 then (bif Nat.beq pc 7 then some (fCv 1 6 46 8 3 1 6 10) else none) else (bif Nat.beq pc 10 then some (fSl (mtv 45)) else none))
noncomputable def qc45_2 : Nat → Option qF := fun pc => bif Nat.blt pc 15 then (bif Nat.blt pc 12 then (bif Nat.beq pc 11 then some (fSl (mtv 45)) else none) else (bif Nat.beq pc 12 then some (fGo 23) else none)) else (bif Nat.blt pc 17 then (bif Nat.beq pc 15 then some (fSl (mtv 45)) else none) else (bif Nat.beq pc 17 then some (fPu (.int (1)) 18) else none))
noncomputable def qc45_3 : Nat → Option qF := fun pc => bif Nat.blt pc 21 then (bif Nat.blt pc 19 then (bif Nat.beq pc 18 then some (fRI .int) else none) else (bif Nat.beq pc 19 then some (fSl (mtv 45)) else none)) else (bif Nat.blt pc 22 then (bif Nat.beq pc 21 then some (fPu (.int (2)) 22) else none) else (bif Nat.beq pc 22 then some (fRI .int) else none))
noncomputable def qc45_4 : Nat → Option qF := fun pc => bif Nat.blt pc 24 then (bif Nat.beq pc 23 then some (fPu (.int (0)) 24) else none) else (bif Nat.beq pc 24 then some (fRI .int) else none)
noncomputable def qc45_t0 : Nat → Option qF := fun pc => bif Nat.blt pc 11 then (bif Nat.blt pc 5 then (qc45_0 pc) else (qc45_1 pc)) else (bif Nat.blt pc 18 then (qc45_2 pc) else (qc45_3 pc))
noncomputable def qc45_t1 : Nat → Option qF := fun pc => bif Nat.blt pc 23 then (qc45_t0 pc) else (qc45_4 pc)
noncomputable def qc45 : Nat → Option qF := qc45_t1
noncomputable def qc46_0 : Nat → Option qF := fun pc => bif Nat.blt pc 2 then (bif Nat.blt pc 1 then (bif Nat.beq pc 0 then some (fLdI 1 1) else none) else (bif Nat.beq pc 1 then some (fPu (.int (3)) 2) else none)) else (bif Nat.blt pc 4 then (bif Nat.beq pc 2 then some (fPu (.int (6)) 4) else none) else (bif Nat.beq pc 4 then some (fCs 1 6 47 3 0 0 7) else none))
noncomputable def qc46_1 : Nat → Option qF := fun pc => bif Nat.blt pc 11 then (bif Nat.blt pc 10 then (bif Nat.beq pc 7 then some (fIf .eq 33 10) else none) else (bif Nat.beq pc 10 then some (fLdI 2 11) else none)) else (bif Nat.blt pc 12 then (bif Nat.beq pc 11 then some (fPu (.int (2)) 12) else none) else (bif Nat.beq pc 12 then some (fPu (.int (6)) 14) else none))
noncomputable def qc46_2 : Nat → Option qF := fun pc => bif Nat.blt pc 20 then (bif Nat.blt pc 17 then (bif Nat.beq pc 14 then some (fCs 1 6 47 3 0 0 17) else none) else (bif Nat.beq pc 17 then some (fIf .eq 33 20) else none)) else (bif Nat.blt pc 21 then (bif Nat.beq pc 20 then some (fLdI 3 21) else none) else (bif Nat.beq pc 21 then some (fPu (.int (1)) 22) else none))
noncomputable def qc46_3 : Nat → Option qF := fun pc => bif Nat.blt pc 26 then (bif Nat.blt pc 23 then (bif Nat.beq pc 22 then some (fPu (.int (5)) 23) else none) else (bif Nat.beq pc 23 then some (fCs 1 6 47 3 0 0 26) else none)) else (bif Nat.blt pc 29 then (bif Nat.beq pc 26 then some (fIf .eq 33 29) else none) else (bif Nat.beq pc 29 then some (fPu (.int (1)) 30) else none))
noncomputable def qc46_4 : Nat → Option qF := fun pc => bif Nat.blt pc 34 then (bif Nat.blt pc 33 then (bif Nat.beq pc 30 then some (fGo 34) else none) else (bif Nat.beq pc 33 then some (fPu (.int (0)) 34) else none)) else (bif Nat.blt pc 36 then (bif Nat.beq pc 34 then some (fStI 4 36) else none) else (bif Nat.beq pc 36 then some (fLdI 4 38) else none))
noncomputable def qc46_5 : Nat → Option qF := fun pc => bif Nat.blt pc 51 then (bif Nat.blt pc 41 then (bif Nat.beq pc 38 then some (fIf .ne 51 41) else none) else (bif Nat.beq pc 41 then some (fSl (mtv 46)) else none)) else (bif Nat.blt pc 52 then (bif Nat.beq pc 51 then some (fLdA 0 52) else none) else (bif Nat.beq pc 52 then some (fGet 8 9 55) else none))
noncomputable def qc46_6 : Nat → Option qF := fun pc => bif Nat.blt pc 59 then (bif Nat.blt pc 58 then (bif Nat.beq pc 55 then some (fIf .gt 65 58) else none) else (bif Nat.beq pc 58 then some (fLdA 0 59) else none)) else (bif Nat.blt pc 62 then (bif Nat.beq pc 59 then some (fGet 8 12 62) else none) else (bif Nat.beq pc 62 then some (fIf .le 75 65) else none))
noncomputable def qc46_7 : Nat → Option qF := fun pc => bif Nat.blt pc 76 then (bif Nat.blt pc 75 then (bif Nat.beq pc 65 then some (fSl (mtv 46)) else none) else (bif Nat.beq pc 75 then some (fLdA 0 76) else none)) else (bif Nat.blt pc 79 then (bif Nat.beq pc 76 then some (fGet 8 0 79) else none) else (bif Nat.beq pc 79 then some (fLdI 1 80) else none))
noncomputable def qc46_8 : Nat → Option qF := fun pc => bif Nat.blt pc 82 then (bif Nat.blt pc 81 then (bif Nat.beq pc 80 then some (fLdI 2 81) else none) else (bif Nat.beq pc 81 then some (fLdI 3 82) else none)) else (bif Nat.blt pc 85 then (bif Nat.beq pc 82 then some (fCv 1 6 48 4 3 0 0 85) else none) else (bif Nat.beq pc 85 then some (fLdA 0 86) else none))
noncomputable def qc46_9 : Nat → Option qF := fun pc => bif Nat.blt pc 90 then (bif Nat.blt pc 89 then (bif Nat.beq pc 86 then some (fGet 8 0 89) else none) else (bif Nat.beq pc 89 then some (fLdA 0 90) else none)) else (bif Nat.blt pc 93 then (bif Nat.beq pc 90 then some (fGet 8 0 93) else none) else (bif Nat.beq pc 93 then some (fCv 1 6 49 4 0 0 0 96) else none))
noncomputable def qc46_10 : Nat → Option qF := fun pc => bif Nat.blt pc 97 then (bif Nat.beq pc 96 then some (fLdI 3 97) else none) else (bif Nat.blt pc 100 then (bif Nat.beq pc 97 then some (fCv 1 6 34 4 2 0 0 100) else none) else (bif Nat.beq pc 100 then some (fRI .int) else none))
noncomputable def qc46_t0 : Nat → Option qF := fun pc => bif Nat.blt pc 14 then (bif Nat.blt pc 7 then (qc46_0 pc) else (qc46_1 pc)) else (bif Nat.blt pc 22 then (qc46_2 pc) else (qc46_3 pc))
noncomputable def qc46_t1 : Nat → Option qF := fun pc => bif Nat.blt pc 55 then (bif Nat.blt pc 38 then (qc46_4 pc) else (qc46_5 pc)) else (bif Nat.blt pc 65 then (qc46_6 pc) else (qc46_7 pc))
noncomputable def qc46_t2 : Nat → Option qF := fun pc => bif Nat.blt pc 86 then (qc46_8 pc) else (bif Nat.blt pc 96 then (qc46_9 pc) else (qc46_10 pc))
noncomputable def qc46_t3 : Nat → Option qF := fun pc => bif Nat.blt pc 30 then (qc46_t0 pc) else (bif Nat.blt pc 80 then (qc46_t1 pc) else (qc46_t2 pc))
noncomputable def qc46 : Nat → Option qF := qc46_t3
noncomputable def qc47_0 : Nat → Option qF := fun pc => bif Nat.blt pc 2 then (bif Nat.blt pc 1 then (bif Nat.beq pc 0 then some (fLdI 0 1) else none) else (bif Nat.beq pc 1 then some (fLdI 1 2) else none)) else (bif Nat.blt pc 5 then (bif Nat.beq pc 2 then some (fIc .lt 14 5) else none) else (bif Nat.beq pc 5 then some (fLdI 0 6) else none))
noncomputable def qc47_1 : Nat → Option qF := fun pc => bif Nat.blt pc 10 then (bif Nat.blt pc 7 then (bif Nat.beq pc 6 then some (fLdI 2 7) else none) else (bif Nat.beq pc 7 then some (fIc .gt 14 10) else none)) else (bif Nat.blt pc 11 then (bif Nat.beq pc 10 then some (fPu (.int (1)) 11) else none) else (bif Nat.beq pc 11 then some (fGo 15) else none))
noncomputable def qc47_2 : Nat → Option qF := fun pc => bif Nat.blt pc 15 then (bif Nat.beq pc 14 then some (fPu (.int (0)) 15) else none) else (bif Nat.beq pc 15 then some (fRI .boolean) else none)
noncomputable def qc47_t0 : Nat → Option qF := fun pc => bif Nat.blt pc 6 then (qc47_0 pc) else (bif Nat.blt pc 14 then (qc47_1 pc) else (qc47_2 pc))
noncomputable def qc47 : Nat → Option qF := qc47_t0
noncomputable def qc48_0 : Nat → Option qF := fun pc => bif Nat.blt pc 2 then (bif Nat.blt pc 1 then (bif Nat.beq pc 0 then some (fLdA 0 1) else none) else (bif Nat.beq pc 1 then some (fLdI 1 2) else none)) else (bif Nat.blt pc 5 then (bif Nat.beq pc 2 then some (fSl (mtv 48)) else none) else (bif Nat.beq pc 5 then some (fLdA 0 6) else none))
noncomputable def qc48_1 : Nat → Option qF := fun pc => bif Nat.blt pc 10 then (bif Nat.blt pc 7 then (bif Nat.beq pc 6 then some (fLdI 2 7) else none) else (bif Nat.beq pc 7 then some (fSl (mtv 48)) else none)) else (bif Nat.blt pc 11 then (bif Nat.beq pc 10 then some (fLdA 0 11) else none) else (bif Nat.beq pc 11 then some (fLdI 3 12) else none))
noncomputable def qc48_2 : Nat → Option qF := fun pc => bif Nat.blt pc 16 then (bif Nat.blt pc 15 then (bif Nat.beq pc 12 then some (fSl (mtv 48)) else none) else (bif Nat.beq pc 15 then some (fLdA 0 16) else none)) else (bif Nat.blt pc 19 then (bif Nat.beq pc 16 then some (fCv 0 0 10 4 0 0 0 19) else none) else (bif Nat.beq pc 19 then some (fSl (mtv 48)) else none))
noncomputable def qc48_3 : Nat → Option qF := fun pc => bif Nat.beq pc 20 then some (fSl (mtv 48)) else none
noncomputable def qc48_t0 : Nat → Option qF := fun pc => bif Nat.blt pc 12 then (bif Nat.blt pc 6 then (qc48_0 pc) else (qc48_1 pc)) else (bif Nat.blt pc 20 then (qc48_2 pc) else (qc48_3 pc))
noncomputable def qc48 : Nat → Option qF := qc48_t0
noncomputable def qc49_0 : Nat → Option qF := fun pc => bif Nat.blt pc 2 then (bif Nat.blt pc 1 then (bif Nat.beq pc 0 then some (fPu (.long 0) 1) else none) else (bif Nat.beq pc 1 then some (fSl (mtv 49)) else none)) else (bif Nat.blt pc 3 then (bif Nat.beq pc 2 then some (fPu (.int (0)) 3) else none) else (bif Nat.beq pc 3 then some (fStI 3 4) else none))
noncomputable def qc49_1 : Nat → Option qF := fun pc => bif Nat.blt pc 6 then (bif Nat.blt pc 5 then (bif Nat.beq pc 4 then some (fLdI 3 5) else none) else (bif Nat.beq pc 5 then some (fLdA 0 6) else none)) else (bif Nat.blt pc 9 then (bif Nat.beq pc 6 then some (fGet 4 1 9) else none) else (bif Nat.beq pc 9 then some (fIc .ge 45 12) else none))
noncomputable def qc49_2 : Nat → Option qF := fun pc => bif Nat.blt pc 15 then (bif Nat.blt pc 13 then (bif Nat.beq pc 12 then some (fPu (.int (0)) 13) else none) else (bif Nat.beq pc 13 then some (fStI 4 15) else none)) else (bif Nat.blt pc 17 then (bif Nat.beq pc 15 then some (fLdI 4 17) else none) else (bif Nat.beq pc 17 then some (fLdA 0 18) else none))
noncomputable def qc49_3 : Nat → Option qF := fun pc => bif Nat.blt pc 24 then (bif Nat.blt pc 21 then (bif Nat.beq pc 18 then some (fGet 4 2 21) else none) else (bif Nat.beq pc 21 then some (fIc .ge 39 24) else none)) else (bif Nat.blt pc 25 then (bif Nat.beq pc 24 then some (fLdL 1 25) else none) else (bif Nat.beq pc 25 then some (fLdI 3 26) else none))
noncomputable def qc49_4 : Nat → Option qF := fun pc => bif Nat.blt pc 31 then (bif Nat.blt pc 28 then (bif Nat.beq pc 26 then some (fLdI 4 28) else none) else (bif Nat.beq pc 28 then some (fCs 0 0 35 2 0 0 31) else none)) else (bif Nat.blt pc 32 then (bif Nat.beq pc 31 then some (fBl (fun x y => x ||| y) 32) else none) else (bif Nat.beq pc 32 then some (fSl (mtv 49)) else none))
noncomputable def qc49_5 : Nat → Option qF := fun pc => bif Nat.blt pc 39 then (bif Nat.blt pc 36 then (bif Nat.beq pc 33 then some (fInc 4 1 36) else none) else (bif Nat.beq pc 36 then some (fGo 15) else none)) else (bif Nat.blt pc 42 then (bif Nat.beq pc 39 then some (fInc 3 1 42) else none) else (bif Nat.beq pc 42 then some (fGo 4) else none))
noncomputable def qc49_6 : Nat → Option qF := fun pc => bif Nat.blt pc 46 then (bif Nat.beq pc 45 then some (fLdL 1 46) else none) else (bif Nat.beq pc 46 then some (fSl (mtv 49)) else none)
noncomputable def qc49_t0 : Nat → Option qF := fun pc => bif Nat.blt pc 12 then (bif Nat.blt pc 4 then (qc49_0 pc) else (qc49_1 pc)) else (bif Nat.blt pc 18 then (qc49_2 pc) else (qc49_3 pc))
noncomputable def qc49_t1 : Nat → Option qF := fun pc => bif Nat.blt pc 33 then (qc49_4 pc) else (bif Nat.blt pc 45 then (qc49_5 pc) else (qc49_6 pc))
noncomputable def qc49_t2 : Nat → Option qF := fun pc => bif Nat.blt pc 26 then (qc49_t0 pc) else (qc49_t1 pc)
noncomputable def qc49 : Nat → Option qF := qc49_t2
noncomputable def qc114_0 : Nat → Option qF := fun pc => bif Nat.blt pc 3 then (bif Nat.blt pc 2 then (bif Nat.beq pc 0 then some (fLdA 5 2) else none) else (bif Nat.beq pc 2 then some (fPu (.int (0)) 3) else none)) else (bif Nat.blt pc 4 then (bif Nat.beq pc 3 then some (fLdA 0 4) else none) else (bif Nat.beq pc 4 then some (fLdI 1 5) else none))
noncomputable def qc114_1 : Nat → Option qF := fun pc => bif Nat.blt pc 7 then (bif Nat.blt pc 6 then (bif Nat.beq pc 5 then some (fLdI 2 6) else none) else (bif Nat.beq pc 6 then some (fLdI 3 7) else none)) else (bif Nat.blt pc 9 then (bif Nat.beq pc 7 then some (fLdI 4 9) else none) else (bif Nat.beq pc 9 then some (fCv 1 6 115 8 4 1 6 12) else none))
noncomputable def qc114_2 : Nat → Option qF := fun pc => bif Nat.blt pc 14 then (bif Nat.blt pc 13 then (bif Nat.beq pc 12 then some (fSl (mtv 114)) else none) else (bif Nat.beq pc 13 then some (fSl (mtv 114)) else none)) else (bif Nat.blt pc 17 then (bif Nat.beq pc 14 then some (fGo 21) else none) else (bif Nat.beq pc 17 then some (fSl (mtv 114)) else none))
noncomputable def qc114_3 : Nat → Option qF := fun pc => bif Nat.blt pc 21 then (bif Nat.blt pc 20 then (bif Nat.beq pc 19 then some (fPu (.int (1)) 20) else none) else (bif Nat.beq pc 20 then some (fRI .int) else none)) else (bif Nat.blt pc 22 then (bif Nat.beq pc 21 then some (fPu (.int (0)) 22) else none) else (bif Nat.beq pc 22 then some (fRI .int) else none))
noncomputable def qc114_t0 : Nat → Option qF := fun pc => bif Nat.blt pc 12 then (bif Nat.blt pc 5 then (qc114_0 pc) else (qc114_1 pc)) else (bif Nat.blt pc 19 then (qc114_2 pc) else (qc114_3 pc))
noncomputable def qc114 : Nat → Option qF := qc114_t0
noncomputable def qc115_0 : Nat → Option qF := fun pc => bif Nat.blt pc 2 then (bif Nat.blt pc 1 then (bif Nat.beq pc 0 then some (fLdI 1 1) else none) else (bif Nat.beq pc 1 then some (fPu (.int (0)) 2) else none)) else (bif Nat.blt pc 3 then (bif Nat.beq pc 2 then some (fLdA 0 3) else none) else (bif Nat.beq pc 3 then some (fGet 8 0 6) else none))
noncomputable def qc115_1 : Nat → Option qF := fun pc => bif Nat.blt pc 10 then (bif Nat.blt pc 9 then (bif Nat.beq pc 6 then some (fGet 4 2 9) else none) else (bif Nat.beq pc 9 then some (fPu (.int (1)) 10) else none)) else (bif Nat.blt pc 11 then (bif Nat.beq pc 10 then some (fBi nSub 11) else none) else (bif Nat.beq pc 11 then some (fCs 1 6 47 3 0 0 14) else none))
noncomputable def qc115_2 : Nat → Option qF := fun pc => bif Nat.blt pc 18 then (bif Nat.blt pc 17 then (bif Nat.beq pc 14 then some (fIf .eq 50 17) else none) else (bif Nat.beq pc 17 then some (fLdI 2 18) else none)) else (bif Nat.blt pc 19 then (bif Nat.beq pc 18 then some (fPu (.int (1)) 19) else none) else (bif Nat.beq pc 19 then some (fPu (.int (3)) 20) else none))
noncomputable def qc115_3 : Nat → Option qF := fun pc => bif Nat.blt pc 26 then (bif Nat.blt pc 23 then (bif Nat.beq pc 20 then some (fCs 1 6 47 3 0 0 23) else none) else (bif Nat.beq pc 23 then some (fIf .eq 50 26) else none)) else (bif Nat.blt pc 27 then (bif Nat.beq pc 26 then some (fLdI 3 27) else none) else (bif Nat.beq pc 27 then some (fPu (.int (1)) 28) else none))
noncomputable def qc115_4 : Nat → Option qF := fun pc => bif Nat.blt pc 33 then (bif Nat.blt pc 30 then (bif Nat.beq pc 28 then some (fPu (.int (6)) 30) else none) else (bif Nat.beq pc 30 then some (fCs 1 6 47 3 0 0 33) else none)) else (bif Nat.blt pc 36 then (bif Nat.beq pc 33 then some (fIf .eq 50 36) else none) else (bif Nat.beq pc 36 then some (fLdI 4 38) else none))
noncomputable def qc115_5 : Nat → Option qF := fun pc => bif Nat.blt pc 40 then (bif Nat.blt pc 39 then (bif Nat.beq pc 38 then some (fPu (.int (0)) 39) else none) else (bif Nat.beq pc 39 then some (fPu (.int (5)) 40) else none)) else (bif Nat.blt pc 43 then (bif Nat.beq pc 40 then some (fCs 1 6 47 3 0 0 43) else none) else (bif Nat.beq pc 43 then some (fIf .eq 50 46) else none))
noncomputable def qc115_6 : Nat → Option qF := fun pc => bif Nat.blt pc 50 then (bif Nat.blt pc 47 then (bif Nat.beq pc 46 then some (fPu (.int (1)) 47) else none) else (bif Nat.beq pc 47 then some (fGo 51) else none)) else (bif Nat.blt pc 51 then (bif Nat.beq pc 50 then some (fPu (.int (0)) 51) else none) else (bif Nat.beq pc 51 then some (fStI 5 53) else none))
noncomputable def qc115_7 : Nat → Option qF := fun pc => bif Nat.blt pc 58 then (bif Nat.blt pc 55 then (bif Nat.beq pc 53 then some (fLdI 5 55) else none) else (bif Nat.beq pc 55 then some (fIf .ne 69 58) else none)) else (bif Nat.blt pc 69 then (bif Nat.beq pc 58 then some (fSl (mtv 115)) else none) else (bif Nat.beq pc 69 then some (fLdA 0 70) else none))
noncomputable def qc115_8 : Nat → Option qF := fun pc => bif Nat.blt pc 74 then (bif Nat.blt pc 73 then (bif Nat.beq pc 70 then some (fGet 8 0 73) else none) else (bif Nat.beq pc 73 then some (fLdA 0 74) else none)) else (bif Nat.blt pc 77 then (bif Nat.beq pc 74 then some (fGet 8 0 77) else none) else (bif Nat.beq pc 77 then some (fLdI 1 78) else none))
noncomputable def qc115_9 : Nat → Option qF := fun pc => bif Nat.blt pc 80 then (bif Nat.blt pc 79 then (bif Nat.beq pc 78 then some (fLdI 2 79) else none) else (bif Nat.beq pc 79 then some (fLdI 3 80) else none)) else (bif Nat.blt pc 83 then (bif Nat.beq pc 80 then some (fCv 1 6 116 4 3 0 0 83) else none) else (bif Nat.beq pc 83 then some (fLdA 0 84) else none))
noncomputable def qc115_10 : Nat → Option qF := fun pc => bif Nat.blt pc 90 then (bif Nat.blt pc 87 then (bif Nat.beq pc 84 then some (fGet 8 0 87) else none) else (bif Nat.beq pc 87 then some (fGet 4 3 90) else none)) else (bif Nat.blt pc 91 then (bif Nat.beq pc 90 then some (fLdI 2 91) else none) else (bif Nat.beq pc 91 then some (fLdI 4 93) else none))
noncomputable def qc115_11 : Nat → Option qF := fun pc => bif Nat.blt pc 97 then (bif Nat.blt pc 94 then (bif Nat.beq pc 93 then some (fBi nMul 94) else none) else (bif Nat.beq pc 94 then some (fMa 1003 97) else none)) else (bif Nat.blt pc 100 then (bif Nat.beq pc 97 then some (fCv 1 6 34 4 2 0 0 100) else none) else (bif Nat.beq pc 100 then some (fRI .int) else none))
noncomputable def qc115_t0 : Nat → Option qF := fun pc => bif Nat.blt pc 14 then (bif Nat.blt pc 6 then (qc115_0 pc) else (qc115_1 pc)) else (bif Nat.blt pc 20 then (qc115_2 pc) else (qc115_3 pc))
noncomputable def qc115_t1 : Nat → Option qF := fun pc => bif Nat.blt pc 46 then (bif Nat.blt pc 38 then (qc115_4 pc) else (qc115_5 pc)) else (bif Nat.blt pc 53 then (qc115_6 pc) else (qc115_7 pc))
noncomputable def qc115_t2 : Nat → Option qF := fun pc => bif Nat.blt pc 84 then (bif Nat.blt pc 78 then (qc115_8 pc) else (qc115_9 pc)) else (bif Nat.blt pc 93 then (qc115_10 pc) else (qc115_11 pc))
noncomputable def qc115_t3 : Nat → Option qF := fun pc => bif Nat.blt pc 28 then (qc115_t0 pc) else (bif Nat.blt pc 70 then (qc115_t1 pc) else (qc115_t2 pc))
noncomputable def qc115 : Nat → Option qF := qc115_t3
noncomputable def qc116_0 : Nat → Option qF := fun pc => bif Nat.blt pc 3 then (bif Nat.blt pc 1 then (bif Nat.beq pc 0 then some (fPu (.long 0) 1) else none) else (bif Nat.beq pc 1 then some (fSl (mtv 116)) else none)) else (bif Nat.blt pc 4 then (bif Nat.beq pc 3 then some (fPu (.int (0)) 4) else none) else (bif Nat.beq pc 4 then some (fStI 6 6) else none))
noncomputable def qc116_1 : Nat → Option qF := fun pc => bif Nat.blt pc 9 then (bif Nat.blt pc 8 then (bif Nat.beq pc 6 then some (fLdI 6 8) else none) else (bif Nat.beq pc 8 then some (fLdA 0 9) else none)) else (bif Nat.blt pc 12 then (bif Nat.beq pc 9 then some (fGet 4 1 12) else none) else (bif Nat.beq pc 12 then some (fIc .ge 65 15) else none))
noncomputable def qc116_2 : Nat → Option qF := fun pc => bif Nat.blt pc 18 then (bif Nat.blt pc 16 then (bif Nat.beq pc 15 then some (fPu (.int (0)) 16) else none) else (bif Nat.beq pc 16 then some (fStI 7 18) else none)) else (bif Nat.blt pc 20 then (bif Nat.beq pc 18 then some (fLdI 7 20) else none) else (bif Nat.beq pc 20 then some (fLdI 3 21) else none))
noncomputable def qc116_3 : Nat → Option qF := fun pc => bif Nat.blt pc 25 then (bif Nat.blt pc 24 then (bif Nat.beq pc 21 then some (fIc .ge 59 24) else none) else (bif Nat.beq pc 24 then some (fLdI 1 25) else none)) else (bif Nat.blt pc 27 then (bif Nat.beq pc 25 then some (fLdI 7 27) else none) else (bif Nat.beq pc 27 then some (fLdI 2 28) else none))
noncomputable def qc116_4 : Nat → Option qF := fun pc => bif Nat.blt pc 30 then (bif Nat.blt pc 29 then (bif Nat.beq pc 28 then some (fBi nMul 29) else none) else (bif Nat.beq pc 29 then some (fBi nAdd 30) else none)) else (bif Nat.blt pc 31 then (bif Nat.beq pc 30 then some (fLdA 0 31) else none) else (bif Nat.beq pc 31 then some (fGet 4 2 34) else none))
noncomputable def qc116_5 : Nat → Option qF := fun pc => bif Nat.blt pc 39 then (bif Nat.blt pc 37 then (bif Nat.beq pc 34 then some (fIc .ge 53 37) else none) else (bif Nat.beq pc 37 then some (fLdL 4 39) else none)) else (bif Nat.blt pc 41 then (bif Nat.beq pc 39 then some (fLdI 6 41) else none) else (bif Nat.beq pc 41 then some (fLdI 1 42) else none))
noncomputable def qc116_6 : Nat → Option qF := fun pc => bif Nat.blt pc 45 then (bif Nat.blt pc 44 then (bif Nat.beq pc 42 then some (fLdI 7 44) else none) else (bif Nat.beq pc 44 then some (fLdI 2 45) else none)) else (bif Nat.blt pc 46 then (bif Nat.beq pc 45 then some (fBi nMul 46) else none) else (bif Nat.beq pc 46 then some (fBi nAdd 47) else none))
noncomputable def qc116_7 : Nat → Option qF := fun pc => bif Nat.blt pc 51 then (bif Nat.blt pc 50 then (bif Nat.beq pc 47 then some (fCs 0 0 35 2 0 0 50) else none) else (bif Nat.beq pc 50 then some (fBl (fun x y => x ||| y) 51) else none)) else (bif Nat.blt pc 53 then (bif Nat.beq pc 51 then some (fSl (mtv 116)) else none) else (bif Nat.beq pc 53 then some (fInc 7 1 56) else none))
noncomputable def qc116_8 : Nat → Option qF := fun pc => bif Nat.blt pc 62 then (bif Nat.blt pc 59 then (bif Nat.beq pc 56 then some (fGo 18) else none) else (bif Nat.beq pc 59 then some (fInc 6 1 62) else none)) else (bif Nat.blt pc 65 then (bif Nat.beq pc 62 then some (fGo 6) else none) else (bif Nat.beq pc 65 then some (fLdL 4 67) else none))
noncomputable def qc116_9 : Nat → Option qF := fun pc => bif Nat.beq pc 67 then some (fSl (mtv 116)) else none
noncomputable def qc116_t0 : Nat → Option qF := fun pc => bif Nat.blt pc 15 then (bif Nat.blt pc 6 then (qc116_0 pc) else (qc116_1 pc)) else (bif Nat.blt pc 21 then (qc116_2 pc) else (qc116_3 pc))
noncomputable def qc116_t1 : Nat → Option qF := fun pc => bif Nat.blt pc 42 then (bif Nat.blt pc 34 then (qc116_4 pc) else (qc116_5 pc)) else (bif Nat.blt pc 47 then (qc116_6 pc) else (qc116_7 pc))
noncomputable def qc116_t2 : Nat → Option qF := fun pc => bif Nat.blt pc 67 then (qc116_8 pc) else (qc116_9 pc)
noncomputable def qc116_t3 : Nat → Option qF := fun pc => bif Nat.blt pc 28 then (qc116_t0 pc) else (bif Nat.blt pc 56 then (qc116_t1 pc) else (qc116_t2 pc))
noncomputable def qc116 : Nat → Option qF := qc116_t3
noncomputable def qc209_0 : Nat → Option qF := fun pc => bif Nat.blt pc 1 then (bif Nat.beq pc 0 then some (fLdA 0 1) else none) else (bif Nat.blt pc 4 then (bif Nat.beq pc 1 then some (fGet 9 42 4) else none) else (bif Nat.beq pc 4 then some (fRI .int) else none))
noncomputable def qc209 : Nat → Option qF := qc209_0
noncomputable def qc210_0 : Nat → Option qF := fun pc => bif Nat.blt pc 2 then (bif Nat.blt pc 1 then (bif Nat.beq pc 0 then some (fLdA 0 1) else none) else (bif Nat.beq pc 1 then some (fLdI 1 2) else none)) else (bif Nat.blt pc 3 then (bif Nat.beq pc 2 then some (fPu (.int (3)) 3) else none) else (bif Nat.beq pc 3 then some (fPu (.int (6)) 5) else none))
noncomputable def qc210_1 : Nat → Option qF := fun pc => bif Nat.blt pc 11 then (bif Nat.blt pc 8 then (bif Nat.beq pc 5 then some (fCs 2 12 211 3 0 0 8) else none) else (bif Nat.beq pc 8 then some (fIf .eq 30 11) else none)) else (bif Nat.blt pc 12 then (bif Nat.beq pc 11 then some (fLdI 2 12) else none) else (bif Nat.beq pc 12 then some (fPu (.int (2)) 13) else none))
noncomputable def qc210_2 : Nat → Option qF := fun pc => bif Nat.blt pc 18 then (bif Nat.blt pc 15 then (bif Nat.beq pc 13 then some (fPu (.int (6)) 15) else none) else (bif Nat.beq pc 15 then some (fCs 2 12 211 3 0 0 18) else none)) else (bif Nat.blt pc 21 then (bif Nat.beq pc 18 then some (fIf .eq 30 21) else none) else (bif Nat.beq pc 21 then some (fLdI 3 22) else none))
noncomputable def qc210_3 : Nat → Option qF := fun pc => bif Nat.blt pc 24 then (bif Nat.blt pc 23 then (bif Nat.beq pc 22 then some (fPu (.int (1)) 23) else none) else (bif Nat.beq pc 23 then some (fPu (.int (5)) 24) else none)) else (bif Nat.blt pc 27 then (bif Nat.beq pc 24 then some (fCs 2 12 211 3 0 0 27) else none) else (bif Nat.beq pc 27 then some (fIf .ne 34 30) else none))
noncomputable def qc210_4 : Nat → Option qF := fun pc => bif Nat.blt pc 34 then (bif Nat.blt pc 31 then (bif Nat.beq pc 30 then some (fPu (.int (1)) 31) else none) else (bif Nat.beq pc 31 then some (fGo 53) else none)) else (bif Nat.blt pc 35 then (bif Nat.beq pc 34 then some (fLdA 0 35) else none) else (bif Nat.beq pc 35 then some (fGet 9 35 38) else none))
noncomputable def qc210_5 : Nat → Option qF := fun pc => bif Nat.blt pc 42 then (bif Nat.blt pc 41 then (bif Nat.beq pc 38 then some (fIf .gt 48 41) else none) else (bif Nat.beq pc 41 then some (fLdA 0 42) else none)) else (bif Nat.blt pc 45 then (bif Nat.beq pc 42 then some (fGet 9 46 45) else none) else (bif Nat.beq pc 45 then some (fIf .le 52 48) else none))
noncomputable def qc210_6 : Nat → Option qF := fun pc => bif Nat.blt pc 52 then (bif Nat.blt pc 49 then (bif Nat.beq pc 48 then some (fPu (.int (2)) 49) else none) else (bif Nat.beq pc 49 then some (fGo 53) else none)) else (bif Nat.blt pc 53 then (bif Nat.beq pc 52 then some (fPu (.int (0)) 53) else none) else (bif Nat.beq pc 53 then some (fSl (mtv 210)) else none))
noncomputable def qc210_7 : Nat → Option qF := fun pc => bif Nat.blt pc 60 then (bif Nat.blt pc 57 then (bif Nat.beq pc 56 then some (fLdA 0 57) else none) else (bif Nat.beq pc 57 then some (fGet 9 42 60) else none)) else (bif Nat.blt pc 63 then (bif Nat.beq pc 60 then some (fIf .le 65 63) else none) else (bif Nat.beq pc 63 then some (fPu (.int (0)) 64) else none))
noncomputable def qc210_8 : Nat → Option qF := fun pc => bif Nat.blt pc 66 then (bif Nat.blt pc 65 then (bif Nat.beq pc 64 then some (fRI .int) else none) else (bif Nat.beq pc 65 then some (fLdA 0 66) else none)) else (bif Nat.blt pc 67 then (bif Nat.beq pc 66 then some (fLdI 1 67) else none) else (bif Nat.beq pc 67 then some (fSl (mtv 210)) else none))
noncomputable def qc210_9 : Nat → Option qF := fun pc => bif Nat.blt pc 72 then (bif Nat.blt pc 71 then (bif Nat.beq pc 70 then some (fLdA 0 71) else none) else (bif Nat.beq pc 71 then some (fLdI 2 72) else none)) else (bif Nat.blt pc 75 then (bif Nat.beq pc 72 then some (fSl (mtv 210)) else none) else (bif Nat.beq pc 75 then some (fLdA 0 76) else none))
noncomputable def qc210_10 : Nat → Option qF := fun pc => bif Nat.blt pc 80 then (bif Nat.blt pc 77 then (bif Nat.beq pc 76 then some (fLdI 3 77) else none) else (bif Nat.beq pc 77 then some (fSl (mtv 210)) else none)) else (bif Nat.blt pc 81 then (bif Nat.beq pc 80 then some (fLdA 0 81) else none) else (bif Nat.beq pc 81 then some (fPu (.int (0)) 82) else none))
noncomputable def qc210_11 : Nat → Option qF := fun pc => bif Nat.blt pc 86 then (bif Nat.blt pc 85 then (bif Nat.beq pc 82 then some (fSl (mtv 210)) else none) else (bif Nat.beq pc 85 then some (fPu (.int (0)) 86) else none)) else (bif Nat.blt pc 88 then (bif Nat.beq pc 86 then some (fStI 4 88) else none) else (bif Nat.beq pc 88 then some (fLdI 4 90) else none))
noncomputable def qc210_12 : Nat → Option qF := fun pc => bif Nat.blt pc 95 then (bif Nat.blt pc 92 then (bif Nat.beq pc 90 then some (fPu (.int (6)) 92) else none) else (bif Nat.beq pc 92 then some (fIc .ge 110 95) else none)) else (bif Nat.blt pc 96 then (bif Nat.beq pc 95 then some (fLdA 0 96) else none) else (bif Nat.beq pc 96 then some (fGet 9 20 99) else none))
noncomputable def qc210_13 : Nat → Option qF := fun pc => bif Nat.blt pc 103 then (bif Nat.blt pc 101 then (bif Nat.beq pc 99 then some (fLdI 4 101) else none) else (bif Nat.beq pc 101 then some (fPu (.int (63)) 103) else none)) else (bif Nat.blt pc 104 then (bif Nat.beq pc 103 then some (fIas 104) else none) else (bif Nat.beq pc 104 then some (fInc 4 1 107) else none))
noncomputable def qc210_14 : Nat → Option qF := fun pc => bif Nat.blt pc 111 then (bif Nat.blt pc 110 then (bif Nat.beq pc 107 then some (fGo 88) else none) else (bif Nat.beq pc 110 then some (fLdA 0 111) else none)) else (bif Nat.blt pc 114 then (bif Nat.beq pc 111 then some (fCv 2 12 212 9 0 2 12 114) else none) else (bif Nat.beq pc 114 then some (fRI .int) else none))
noncomputable def qc210_t0 : Nat → Option qF := fun pc => bif Nat.blt pc 13 then (bif Nat.blt pc 5 then (qc210_0 pc) else (qc210_1 pc)) else (bif Nat.blt pc 22 then (qc210_2 pc) else (qc210_3 pc))
noncomputable def qc210_t1 : Nat → Option qF := fun pc => bif Nat.blt pc 48 then (bif Nat.blt pc 38 then (qc210_4 pc) else (qc210_5 pc)) else (bif Nat.blt pc 56 then (qc210_6 pc) else (qc210_7 pc))
noncomputable def qc210_t2 : Nat → Option qF := fun pc => bif Nat.blt pc 76 then (bif Nat.blt pc 70 then (qc210_8 pc) else (qc210_9 pc)) else (bif Nat.blt pc 82 then (qc210_10 pc) else (qc210_11 pc))
noncomputable def qc210_t3 : Nat → Option qF := fun pc => bif Nat.blt pc 99 then (qc210_12 pc) else (bif Nat.blt pc 107 then (qc210_13 pc) else (qc210_14 pc))
noncomputable def qc210_t4 : Nat → Option qF := fun pc => bif Nat.blt pc 64 then (bif Nat.blt pc 30 then (qc210_t0 pc) else (qc210_t1 pc)) else (bif Nat.blt pc 90 then (qc210_t2 pc) else (qc210_t3 pc))
noncomputable def qc210 : Nat → Option qF := qc210_t4
noncomputable def qc211_0 : Nat → Option qF := fun pc => bif Nat.blt pc 2 then (bif Nat.blt pc 1 then (bif Nat.beq pc 0 then some (fLdI 0 1) else none) else (bif Nat.beq pc 1 then some (fLdI 1 2) else none)) else (bif Nat.blt pc 5 then (bif Nat.beq pc 2 then some (fIc .lt 14 5) else none) else (bif Nat.beq pc 5 then some (fLdI 0 6) else none))
noncomputable def qc211_1 : Nat → Option qF := fun pc => bif Nat.blt pc 10 then (bif Nat.blt pc 7 then (bif Nat.beq pc 6 then some (fLdI 2 7) else none) else (bif Nat.beq pc 7 then some (fIc .gt 14 10) else none)) else (bif Nat.blt pc 11 then (bif Nat.beq pc 10 then some (fPu (.int (1)) 11) else none) else (bif Nat.beq pc 11 then some (fGo 15) else none))
noncomputable def qc211_2 : Nat → Option qF := fun pc => bif Nat.blt pc 15 then (bif Nat.beq pc 14 then some (fPu (.int (0)) 15) else none) else (bif Nat.beq pc 15 then some (fRI .boolean) else none)
noncomputable def qc211_t0 : Nat → Option qF := fun pc => bif Nat.blt pc 6 then (qc211_0 pc) else (bif Nat.blt pc 14 then (qc211_1 pc) else (qc211_2 pc))
noncomputable def qc211 : Nat → Option qF := qc211_t0
noncomputable def qc212_0 : Nat → Option qF := fun pc => bif Nat.blt pc 4 then (bif Nat.blt pc 2 then (bif Nat.beq pc 0 then some (fPu (.int (6)) 2) else none) else (bif Nat.beq pc 2 then some (fSl (mtv 212)) else none)) else (bif Nat.blt pc 5 then (bif Nat.beq pc 4 then some (fSl (mtv 212)) else none) else (bif Nat.beq pc 5 then some (fPu (.int (6)) 7) else none))
noncomputable def qc212_1 : Nat → Option qF := fun pc => bif Nat.blt pc 10 then (bif Nat.blt pc 9 then (bif Nat.beq pc 7 then some (fSl (mtv 212)) else none) else (bif Nat.beq pc 9 then some (fSl (mtv 212)) else none)) else (bif Nat.blt pc 11 then (bif Nat.beq pc 10 then some (fPu (.int (0)) 11) else none) else (bif Nat.beq pc 11 then some (fStI 3 12) else none))
noncomputable def qc212_2 : Nat → Option qF := fun pc => bif Nat.blt pc 14 then (bif Nat.blt pc 13 then (bif Nat.beq pc 12 then some (fLdI 3 13) else none) else (bif Nat.beq pc 13 then some (fLdA 0 14) else none)) else (bif Nat.blt pc 17 then (bif Nat.beq pc 14 then some (fGet 9 32 17) else none) else (bif Nat.beq pc 17 then some (fIc .ge 39 20) else none))
noncomputable def qc212_3 : Nat → Option qF := fun pc => bif Nat.blt pc 22 then (bif Nat.blt pc 21 then (bif Nat.beq pc 20 then some (fLdA 1 21) else none) else (bif Nat.beq pc 21 then some (fLdI 3 22) else none)) else (bif Nat.blt pc 23 then (bif Nat.beq pc 22 then some (fLdA 0 23) else none) else (bif Nat.beq pc 23 then some (fGet 9 20 26) else none))
noncomputable def qc212_4 : Nat → Option qF := fun pc => bif Nat.blt pc 28 then (bif Nat.blt pc 27 then (bif Nat.beq pc 26 then some (fPu (.int (0)) 27) else none) else (bif Nat.beq pc 27 then some (fIal 28) else none)) else (bif Nat.blt pc 29 then (bif Nat.beq pc 28 then some (fLdI 3 29) else none) else (bif Nat.beq pc 29 then some (fBi (fun x y => x >>> (y &&& 31)) 30) else none))
noncomputable def qc212_5 : Nat → Option qF := fun pc => bif Nat.blt pc 32 then (bif Nat.blt pc 31 then (bif Nat.beq pc 30 then some (fPu (.int (1)) 31) else none) else (bif Nat.beq pc 31 then some (fBi (fun x y => x &&& y) 32) else none)) else (bif Nat.blt pc 33 then (bif Nat.beq pc 32 then some (fIas 33) else none) else (bif Nat.beq pc 33 then some (fInc 3 1 36) else none))
noncomputable def qc212_6 : Nat → Option qF := fun pc => bif Nat.blt pc 40 then (bif Nat.blt pc 39 then (bif Nat.beq pc 36 then some (fGo 12) else none) else (bif Nat.beq pc 39 then some (fPu (.int (1)) 40) else none)) else (bif Nat.blt pc 41 then (bif Nat.beq pc 40 then some (fStI 3 41) else none) else (bif Nat.beq pc 41 then some (fLdI 3 42) else none))
noncomputable def qc212_7 : Nat → Option qF := fun pc => bif Nat.blt pc 46 then (bif Nat.blt pc 43 then (bif Nat.beq pc 42 then some (fLdA 0 43) else none) else (bif Nat.beq pc 43 then some (fGet 9 31 46) else none)) else (bif Nat.blt pc 49 then (bif Nat.beq pc 46 then some (fIc .ge 167 49) else none) else (bif Nat.beq pc 49 then some (fPu (.int (0)) 50) else none))
noncomputable def qc212_8 : Nat → Option qF := fun pc => bif Nat.blt pc 54 then (bif Nat.blt pc 52 then (bif Nat.beq pc 50 then some (fStI 4 52) else none) else (bif Nat.beq pc 52 then some (fLdI 4 54) else none)) else (bif Nat.blt pc 55 then (bif Nat.beq pc 54 then some (fLdA 0 55) else none) else (bif Nat.beq pc 55 then some (fGet 9 32 58) else none))
noncomputable def qc212_9 : Nat → Option qF := fun pc => bif Nat.blt pc 62 then (bif Nat.blt pc 61 then (bif Nat.beq pc 58 then some (fIc .ge 135 61) else none) else (bif Nat.beq pc 61 then some (fLdA 2 62) else none)) else (bif Nat.blt pc 64 then (bif Nat.beq pc 62 then some (fLdI 4 64) else none) else (bif Nat.beq pc 64 then some (fPu (.int (0)) 65) else none))
noncomputable def qc212_10 : Nat → Option qF := fun pc => bif Nat.blt pc 67 then (bif Nat.blt pc 66 then (bif Nat.beq pc 65 then some (fIas 66) else none) else (bif Nat.beq pc 66 then some (fPu (.int (0)) 67) else none)) else (bif Nat.blt pc 69 then (bif Nat.beq pc 67 then some (fStI 5 69) else none) else (bif Nat.beq pc 69 then some (fLdI 5 71) else none))
noncomputable def qc212_11 : Nat → Option qF := fun pc => bif Nat.blt pc 75 then (bif Nat.blt pc 72 then (bif Nat.beq pc 71 then some (fLdA 0 72) else none) else (bif Nat.beq pc 72 then some (fGet 9 32 75) else none)) else (bif Nat.blt pc 78 then (bif Nat.beq pc 75 then some (fIc .ge 129 78) else none) else (bif Nat.beq pc 78 then some (fLdA 2 79) else none))
noncomputable def qc212_12 : Nat → Option qF := fun pc => bif Nat.blt pc 82 then (bif Nat.blt pc 81 then (bif Nat.beq pc 79 then some (fLdI 4 81) else none) else (bif Nat.beq pc 81 then some (fDu2 82) else none)) else (bif Nat.blt pc 83 then (bif Nat.beq pc 82 then some (fIal 83) else none) else (bif Nat.beq pc 83 then some (fLdI 4 85) else none))
noncomputable def qc212_13 : Nat → Option qF := fun pc => bif Nat.blt pc 88 then (bif Nat.blt pc 87 then (bif Nat.beq pc 85 then some (fLdI 5 87) else none) else (bif Nat.beq pc 87 then some (fBi nSub 88) else none)) else (bif Nat.blt pc 91 then (bif Nat.beq pc 88 then some (fCs 2 12 213 1 0 0 91) else none) else (bif Nat.beq pc 91 then some (fLdA 0 92) else none))
noncomputable def qc212_14 : Nat → Option qF := fun pc => bif Nat.blt pc 98 then (bif Nat.blt pc 95 then (bif Nat.beq pc 92 then some (fGet 9 33 95) else none) else (bif Nat.beq pc 95 then some (fIc .gt 120 98) else none)) else (bif Nat.blt pc 99 then (bif Nat.beq pc 98 then some (fLdA 0 99) else none) else (bif Nat.beq pc 99 then some (fGet 9 20 102) else none))
noncomputable def qc212_15 : Nat → Option qF := fun pc => bif Nat.blt pc 104 then (bif Nat.blt pc 103 then (bif Nat.beq pc 102 then some (fLdI 3 103) else none) else (bif Nat.beq pc 103 then some (fIal 104) else none)) else (bif Nat.blt pc 106 then (bif Nat.beq pc 104 then some (fLdI 4 106) else none) else (bif Nat.beq pc 106 then some (fBi (fun x y => x >>> (y &&& 31)) 107) else none))
noncomputable def qc212_16 : Nat → Option qF := fun pc => bif Nat.blt pc 109 then (bif Nat.blt pc 108 then (bif Nat.beq pc 107 then some (fPu (.int (1)) 108) else none) else (bif Nat.beq pc 108 then some (fBi (fun x y => x &&& y) 109) else none)) else (bif Nat.blt pc 110 then (bif Nat.beq pc 109 then some (fPu (.int (1)) 110) else none) else (bif Nat.beq pc 110 then some (fIc .ne 120 113) else none))
noncomputable def qc212_17 : Nat → Option qF := fun pc => bif Nat.blt pc 116 then (bif Nat.blt pc 114 then (bif Nat.beq pc 113 then some (fLdA 1 114) else none) else (bif Nat.beq pc 114 then some (fLdI 5 116) else none)) else (bif Nat.blt pc 117 then (bif Nat.beq pc 116 then some (fIal 117) else none) else (bif Nat.beq pc 117 then some (fGo 121) else none))
noncomputable def qc212_18 : Nat → Option qF := fun pc => bif Nat.blt pc 122 then (bif Nat.blt pc 121 then (bif Nat.beq pc 120 then some (fPu (.int (0)) 121) else none) else (bif Nat.beq pc 121 then some (fBi nAdd 122) else none)) else (bif Nat.blt pc 123 then (bif Nat.beq pc 122 then some (fIas 123) else none) else (bif Nat.beq pc 123 then some (fInc 5 1 126) else none))
noncomputable def qc212_19 : Nat → Option qF := fun pc => bif Nat.blt pc 132 then (bif Nat.blt pc 129 then (bif Nat.beq pc 126 then some (fGo 69) else none) else (bif Nat.beq pc 129 then some (fInc 4 1 132) else none)) else (bif Nat.blt pc 135 then (bif Nat.beq pc 132 then some (fGo 52) else none) else (bif Nat.beq pc 135 then some (fPu (.int (0)) 136) else none))
noncomputable def qc212_20 : Nat → Option qF := fun pc => bif Nat.blt pc 140 then (bif Nat.blt pc 138 then (bif Nat.beq pc 136 then some (fStI 4 138) else none) else (bif Nat.beq pc 138 then some (fLdI 4 140) else none)) else (bif Nat.blt pc 141 then (bif Nat.beq pc 140 then some (fLdA 0 141) else none) else (bif Nat.beq pc 141 then some (fGet 9 32 144) else none))
noncomputable def qc212_21 : Nat → Option qF := fun pc => bif Nat.blt pc 148 then (bif Nat.blt pc 147 then (bif Nat.beq pc 144 then some (fIc .ge 161 147) else none) else (bif Nat.beq pc 147 then some (fLdA 1 148) else none)) else (bif Nat.blt pc 150 then (bif Nat.beq pc 148 then some (fLdI 4 150) else none) else (bif Nat.beq pc 150 then some (fLdA 2 151) else none))
noncomputable def qc212_22 : Nat → Option qF := fun pc => bif Nat.blt pc 154 then (bif Nat.blt pc 153 then (bif Nat.beq pc 151 then some (fLdI 4 153) else none) else (bif Nat.beq pc 153 then some (fIal 154) else none)) else (bif Nat.blt pc 155 then (bif Nat.beq pc 154 then some (fIas 155) else none) else (bif Nat.beq pc 155 then some (fInc 4 1 158) else none))
noncomputable def qc212_23 : Nat → Option qF := fun pc => bif Nat.blt pc 164 then (bif Nat.blt pc 161 then (bif Nat.beq pc 158 then some (fGo 138) else none) else (bif Nat.beq pc 161 then some (fInc 3 1 164) else none)) else (bif Nat.blt pc 167 then (bif Nat.beq pc 164 then some (fGo 41) else none) else (bif Nat.beq pc 167 then some (fPu (.int (0)) 168) else none))
noncomputable def qc212_24 : Nat → Option qF := fun pc => bif Nat.blt pc 170 then (bif Nat.blt pc 169 then (bif Nat.beq pc 168 then some (fStI 3 169) else none) else (bif Nat.beq pc 169 then some (fPu (.int (0)) 170) else none)) else (bif Nat.blt pc 172 then (bif Nat.beq pc 170 then some (fStI 4 172) else none) else (bif Nat.beq pc 172 then some (fLdI 4 174) else none))
noncomputable def qc212_25 : Nat → Option qF := fun pc => bif Nat.blt pc 178 then (bif Nat.blt pc 175 then (bif Nat.beq pc 174 then some (fLdA 0 175) else none) else (bif Nat.beq pc 175 then some (fGet 9 32 178) else none)) else (bif Nat.blt pc 181 then (bif Nat.beq pc 178 then some (fIc .ge 194 181) else none) else (bif Nat.beq pc 181 then some (fLdI 3 182) else none))
noncomputable def qc212_26 : Nat → Option qF := fun pc => bif Nat.blt pc 185 then (bif Nat.blt pc 183 then (bif Nat.beq pc 182 then some (fLdA 1 183) else none) else (bif Nat.beq pc 183 then some (fLdI 4 185) else none)) else (bif Nat.blt pc 186 then (bif Nat.beq pc 185 then some (fIal 186) else none) else (bif Nat.beq pc 186 then some (fBi nAdd 187) else none))
noncomputable def qc212_27 : Nat → Option qF := fun pc => bif Nat.blt pc 191 then (bif Nat.blt pc 188 then (bif Nat.beq pc 187 then some (fStI 3 188) else none) else (bif Nat.beq pc 188 then some (fInc 4 1 191) else none)) else (bif Nat.blt pc 194 then (bif Nat.beq pc 191 then some (fGo 172) else none) else (bif Nat.beq pc 194 then some (fLdI 3 195) else none))
noncomputable def qc212_28 : Nat → Option qF := fun pc => bif Nat.beq pc 195 then some (fRI .int) else none
noncomputable def qc212_t0 : Nat → Option qF := fun pc => bif Nat.blt pc 12 then (bif Nat.blt pc 7 then (qc212_0 pc) else (qc212_1 pc)) else (bif Nat.blt pc 20 then (qc212_2 pc) else (qc212_3 pc))
noncomputable def qc212_t1 : Nat → Option qF := fun pc => bif Nat.blt pc 36 then (bif Nat.blt pc 30 then (qc212_4 pc) else (qc212_5 pc)) else (bif Nat.blt pc 42 then (qc212_6 pc) else (qc212_7 pc))
noncomputable def qc212_t2 : Nat → Option qF := fun pc => bif Nat.blt pc 65 then (bif Nat.blt pc 58 then (qc212_8 pc) else (qc212_9 pc)) else (bif Nat.blt pc 71 then (qc212_10 pc) else (qc212_11 pc))
noncomputable def qc212_t3 : Nat → Option qF := fun pc => bif Nat.blt pc 92 then (bif Nat.blt pc 85 then (qc212_12 pc) else (qc212_13 pc)) else (bif Nat.blt pc 102 then (qc212_14 pc) else (qc212_15 pc))
noncomputable def qc212_t4 : Nat → Option qF := fun pc => bif Nat.blt pc 120 then (bif Nat.blt pc 113 then (qc212_16 pc) else (qc212_17 pc)) else (bif Nat.blt pc 126 then (qc212_18 pc) else (qc212_19 pc))
noncomputable def qc212_t5 : Nat → Option qF := fun pc => bif Nat.blt pc 151 then (bif Nat.blt pc 144 then (qc212_20 pc) else (qc212_21 pc)) else (bif Nat.blt pc 158 then (qc212_22 pc) else (qc212_23 pc))
noncomputable def qc212_t6 : Nat → Option qF := fun pc => bif Nat.blt pc 182 then (bif Nat.blt pc 174 then (qc212_24 pc) else (qc212_25 pc)) else (bif Nat.blt pc 187 then (qc212_26 pc) else (qc212_27 pc))
noncomputable def qc212_t7 : Nat → Option qF := fun pc => bif Nat.blt pc 50 then (bif Nat.blt pc 26 then (qc212_t0 pc) else (qc212_t1 pc)) else (bif Nat.blt pc 79 then (qc212_t2 pc) else (qc212_t3 pc))
noncomputable def qc212_t8 : Nat → Option qF := fun pc => bif Nat.blt pc 168 then (bif Nat.blt pc 136 then (qc212_t4 pc) else (qc212_t5 pc)) else (bif Nat.blt pc 195 then (qc212_t6 pc) else (qc212_28 pc))
noncomputable def qc212_t9 : Nat → Option qF := fun pc => bif Nat.blt pc 107 then (qc212_t7 pc) else (qc212_t8 pc)
noncomputable def qc212 : Nat → Option qF := qc212_t9
noncomputable def qc213_0 : Nat → Option qF := fun pc => bif Nat.blt pc 4 then (bif Nat.blt pc 1 then (bif Nat.beq pc 0 then some (fLdI 0 1) else none) else (bif Nat.beq pc 1 then some (fIf .ge 9 4) else none)) else (bif Nat.blt pc 5 then (bif Nat.beq pc 4 then some (fLdI 0 5) else none) else (bif Nat.beq pc 5 then some (fNe 6) else none))
noncomputable def qc213_1 : Nat → Option qF := fun pc => bif Nat.blt pc 9 then (bif Nat.beq pc 6 then some (fGo 10) else none) else (bif Nat.blt pc 10 then (bif Nat.beq pc 9 then some (fLdI 0 10) else none) else (bif Nat.beq pc 10 then some (fRI .int) else none))
noncomputable def qc213_t0 : Nat → Option qF := fun pc => bif Nat.blt pc 6 then (qc213_0 pc) else (qc213_1 pc)
noncomputable def qc213 : Nat → Option qF := qc213_t0
noncomputable def qc256_0 : Nat → Option qF := fun pc => bif Nat.blt pc 2 then (bif Nat.blt pc 1 then (bif Nat.beq pc 0 then some (fLdA 0 1) else none) else (bif Nat.beq pc 1 then some (fLdI 1 2) else none)) else (bif Nat.blt pc 3 then (bif Nat.beq pc 2 then some (fPu (.int (0)) 3) else none) else (bif Nat.beq pc 3 then some (fLdA 0 4) else none))
noncomputable def qc256_1 : Nat → Option qF := fun pc => bif Nat.blt pc 8 then (bif Nat.blt pc 7 then (bif Nat.beq pc 4 then some (fGet 9 32 7) else none) else (bif Nat.beq pc 7 then some (fPu (.int (1)) 8) else none)) else (bif Nat.blt pc 9 then (bif Nat.beq pc 8 then some (fBi nSub 9) else none) else (bif Nat.beq pc 9 then some (fCs 2 12 211 3 0 0 12) else none))
noncomputable def qc256_2 : Nat → Option qF := fun pc => bif Nat.blt pc 16 then (bif Nat.blt pc 15 then (bif Nat.beq pc 12 then some (fIf .eq 44 15) else none) else (bif Nat.beq pc 15 then some (fLdI 2 16) else none)) else (bif Nat.blt pc 17 then (bif Nat.beq pc 16 then some (fPu (.int (1)) 17) else none) else (bif Nat.beq pc 17 then some (fPu (.int (3)) 18) else none))
noncomputable def qc256_3 : Nat → Option qF := fun pc => bif Nat.blt pc 24 then (bif Nat.blt pc 21 then (bif Nat.beq pc 18 then some (fCs 2 12 211 3 0 0 21) else none) else (bif Nat.beq pc 21 then some (fIf .eq 44 24) else none)) else (bif Nat.blt pc 25 then (bif Nat.beq pc 24 then some (fLdI 3 25) else none) else (bif Nat.beq pc 25 then some (fPu (.int (1)) 26) else none))
noncomputable def qc256_4 : Nat → Option qF := fun pc => bif Nat.blt pc 31 then (bif Nat.blt pc 28 then (bif Nat.beq pc 26 then some (fPu (.int (6)) 28) else none) else (bif Nat.beq pc 28 then some (fCs 2 12 211 3 0 0 31) else none)) else (bif Nat.blt pc 34 then (bif Nat.beq pc 31 then some (fIf .eq 44 34) else none) else (bif Nat.beq pc 34 then some (fLdI 4 36) else none))
noncomputable def qc256_5 : Nat → Option qF := fun pc => bif Nat.blt pc 38 then (bif Nat.blt pc 37 then (bif Nat.beq pc 36 then some (fPu (.int (0)) 37) else none) else (bif Nat.beq pc 37 then some (fPu (.int (5)) 38) else none)) else (bif Nat.blt pc 41 then (bif Nat.beq pc 38 then some (fCs 2 12 211 3 0 0 41) else none) else (bif Nat.beq pc 41 then some (fIf .ne 48 44) else none))
noncomputable def qc256_6 : Nat → Option qF := fun pc => bif Nat.blt pc 48 then (bif Nat.blt pc 45 then (bif Nat.beq pc 44 then some (fPu (.int (1)) 45) else none) else (bif Nat.beq pc 45 then some (fGo 49) else none)) else (bif Nat.blt pc 49 then (bif Nat.beq pc 48 then some (fPu (.int (0)) 49) else none) else (bif Nat.beq pc 49 then some (fSl (mtv 256)) else none))
noncomputable def qc256_7 : Nat → Option qF := fun pc => bif Nat.blt pc 56 then (bif Nat.blt pc 53 then (bif Nat.beq pc 52 then some (fLdA 0 53) else none) else (bif Nat.beq pc 53 then some (fGet 9 42 56) else none)) else (bif Nat.blt pc 59 then (bif Nat.beq pc 56 then some (fIf .le 61 59) else none) else (bif Nat.beq pc 59 then some (fPu (.int (0)) 60) else none))
noncomputable def qc256_8 : Nat → Option qF := fun pc => bif Nat.blt pc 63 then (bif Nat.blt pc 61 then (bif Nat.beq pc 60 then some (fRI .int) else none) else (bif Nat.beq pc 61 then some (fPu (.int (6)) 63) else none)) else (bif Nat.blt pc 65 then (bif Nat.beq pc 63 then some (fSl (mtv 256)) else none) else (bif Nat.beq pc 65 then some (fSl (mtv 256)) else none))
noncomputable def qc256_9 : Nat → Option qF := fun pc => bif Nat.blt pc 71 then (bif Nat.blt pc 69 then (bif Nat.beq pc 67 then some (fPu (.int (6)) 69) else none) else (bif Nat.beq pc 69 then some (fSl (mtv 256)) else none)) else (bif Nat.blt pc 73 then (bif Nat.beq pc 71 then some (fSl (mtv 256)) else none) else (bif Nat.beq pc 73 then some (fPu (.int (0)) 74) else none))
noncomputable def qc256_10 : Nat → Option qF := fun pc => bif Nat.blt pc 78 then (bif Nat.blt pc 76 then (bif Nat.beq pc 74 then some (fStI 7 76) else none) else (bif Nat.beq pc 76 then some (fLdI 7 78) else none)) else (bif Nat.blt pc 79 then (bif Nat.beq pc 78 then some (fLdI 3 79) else none) else (bif Nat.beq pc 79 then some (fIc .ge 111 82) else none))
noncomputable def qc256_11 : Nat → Option qF := fun pc => bif Nat.blt pc 86 then (bif Nat.blt pc 84 then (bif Nat.beq pc 82 then some (fLdA 5 84) else none) else (bif Nat.beq pc 84 then some (fLdI 7 86) else none)) else (bif Nat.blt pc 87 then (bif Nat.beq pc 86 then some (fLdI 1 87) else none) else (bif Nat.beq pc 87 then some (fLdI 7 89) else none))
noncomputable def qc256_12 : Nat → Option qF := fun pc => bif Nat.blt pc 91 then (bif Nat.blt pc 90 then (bif Nat.beq pc 89 then some (fLdI 2 90) else none) else (bif Nat.beq pc 90 then some (fBi nMul 91) else none)) else (bif Nat.blt pc 92 then (bif Nat.beq pc 91 then some (fBi nAdd 92) else none) else (bif Nat.beq pc 92 then some (fLdA 0 93) else none))
noncomputable def qc256_13 : Nat → Option qF := fun pc => bif Nat.blt pc 99 then (bif Nat.blt pc 96 then (bif Nat.beq pc 93 then some (fGet 9 32 96) else none) else (bif Nat.beq pc 96 then some (fIc .ge 103 99) else none)) else (bif Nat.blt pc 100 then (bif Nat.beq pc 99 then some (fPu (.int (1)) 100) else none) else (bif Nat.beq pc 100 then some (fGo 104) else none))
noncomputable def qc256_14 : Nat → Option qF := fun pc => bif Nat.blt pc 105 then (bif Nat.blt pc 104 then (bif Nat.beq pc 103 then some (fPu (.int (0)) 104) else none) else (bif Nat.beq pc 104 then some (fIas 105) else none)) else (bif Nat.blt pc 108 then (bif Nat.beq pc 105 then some (fInc 7 1 108) else none) else (bif Nat.beq pc 108 then some (fGo 76) else none))
noncomputable def qc256_15 : Nat → Option qF := fun pc => bif Nat.blt pc 114 then (bif Nat.blt pc 112 then (bif Nat.beq pc 111 then some (fPu (.int (1)) 112) else none) else (bif Nat.beq pc 112 then some (fStI 7 114) else none)) else (bif Nat.blt pc 116 then (bif Nat.beq pc 114 then some (fLdI 7 116) else none) else (bif Nat.beq pc 116 then some (fLdA 0 117) else none))
noncomputable def qc256_16 : Nat → Option qF := fun pc => bif Nat.blt pc 123 then (bif Nat.blt pc 120 then (bif Nat.beq pc 117 then some (fGet 9 31 120) else none) else (bif Nat.beq pc 120 then some (fIc .ge 250 123) else none)) else (bif Nat.blt pc 124 then (bif Nat.beq pc 123 then some (fPu (.int (0)) 124) else none) else (bif Nat.beq pc 124 then some (fStI 8 126) else none))
noncomputable def qc256_17 : Nat → Option qF := fun pc => bif Nat.blt pc 129 then (bif Nat.blt pc 128 then (bif Nat.beq pc 126 then some (fLdI 8 128) else none) else (bif Nat.beq pc 128 then some (fLdI 3 129) else none)) else (bif Nat.blt pc 132 then (bif Nat.beq pc 129 then some (fIc .ge 219 132) else none) else (bif Nat.beq pc 132 then some (fLdA 6 134) else none))
noncomputable def qc256_18 : Nat → Option qF := fun pc => bif Nat.blt pc 137 then (bif Nat.blt pc 136 then (bif Nat.beq pc 134 then some (fLdI 8 136) else none) else (bif Nat.beq pc 136 then some (fPu (.int (0)) 137) else none)) else (bif Nat.blt pc 138 then (bif Nat.beq pc 137 then some (fIas 138) else none) else (bif Nat.beq pc 138 then some (fPu (.int (0)) 139) else none))
noncomputable def qc256_19 : Nat → Option qF := fun pc => bif Nat.blt pc 143 then (bif Nat.blt pc 141 then (bif Nat.beq pc 139 then some (fStI 9 141) else none) else (bif Nat.beq pc 141 then some (fLdI 9 143) else none)) else (bif Nat.blt pc 144 then (bif Nat.beq pc 143 then some (fLdI 3 144) else none) else (bif Nat.beq pc 144 then some (fIc .ge 213 147) else none))
noncomputable def qc256_20 : Nat → Option qF := fun pc => bif Nat.blt pc 151 then (bif Nat.blt pc 149 then (bif Nat.beq pc 147 then some (fLdA 6 149) else none) else (bif Nat.beq pc 149 then some (fLdI 8 151) else none)) else (bif Nat.blt pc 152 then (bif Nat.beq pc 151 then some (fDu2 152) else none) else (bif Nat.beq pc 152 then some (fIal 153) else none))
noncomputable def qc256_21 : Nat → Option qF := fun pc => bif Nat.blt pc 157 then (bif Nat.blt pc 155 then (bif Nat.beq pc 153 then some (fLdI 8 155) else none) else (bif Nat.beq pc 155 then some (fLdI 9 157) else none)) else (bif Nat.blt pc 158 then (bif Nat.beq pc 157 then some (fBi nSub 158) else none) else (bif Nat.beq pc 158 then some (fCs 2 12 213 1 0 0 161) else none))
noncomputable def qc256_22 : Nat → Option qF := fun pc => bif Nat.blt pc 166 then (bif Nat.blt pc 163 then (bif Nat.beq pc 161 then some (fLdI 4 163) else none) else (bif Nat.beq pc 163 then some (fIc .gt 204 166) else none)) else (bif Nat.blt pc 167 then (bif Nat.beq pc 166 then some (fLdI 2 167) else none) else (bif Nat.beq pc 167 then some (fLdI 8 169) else none))
noncomputable def qc256_23 : Nat → Option qF := fun pc => bif Nat.blt pc 172 then (bif Nat.blt pc 171 then (bif Nat.beq pc 169 then some (fLdI 9 171) else none) else (bif Nat.beq pc 171 then some (fBi nSub 172) else none)) else (bif Nat.blt pc 175 then (bif Nat.beq pc 172 then some (fCs 2 12 213 1 0 0 175) else none) else (bif Nat.beq pc 175 then some (fBi nMul 176) else none))
noncomputable def qc256_24 : Nat → Option qF := fun pc => bif Nat.blt pc 180 then (bif Nat.blt pc 177 then (bif Nat.beq pc 176 then some (fLdA 0 177) else none) else (bif Nat.beq pc 177 then some (fGet 9 33 180) else none)) else (bif Nat.blt pc 183 then (bif Nat.beq pc 180 then some (fIc .gt 204 183) else none) else (bif Nat.beq pc 183 then some (fLdI 1 184) else none))
noncomputable def qc256_25 : Nat → Option qF := fun pc => bif Nat.blt pc 187 then (bif Nat.blt pc 186 then (bif Nat.beq pc 184 then some (fLdI 8 186) else none) else (bif Nat.beq pc 186 then some (fLdI 2 187) else none)) else (bif Nat.blt pc 188 then (bif Nat.beq pc 187 then some (fBi nMul 188) else none) else (bif Nat.beq pc 188 then some (fBi nAdd 189) else none))
noncomputable def qc256_26 : Nat → Option qF := fun pc => bif Nat.blt pc 193 then (bif Nat.blt pc 190 then (bif Nat.beq pc 189 then some (fLdA 0 190) else none) else (bif Nat.beq pc 190 then some (fGet 9 32 193) else none)) else (bif Nat.blt pc 196 then (bif Nat.beq pc 193 then some (fIc .ge 204 196) else none) else (bif Nat.beq pc 196 then some (fLdA 5 198) else none))
noncomputable def qc256_27 : Nat → Option qF := fun pc => bif Nat.blt pc 201 then (bif Nat.blt pc 200 then (bif Nat.beq pc 198 then some (fLdI 9 200) else none) else (bif Nat.beq pc 200 then some (fIal 201) else none)) else (bif Nat.blt pc 204 then (bif Nat.beq pc 201 then some (fGo 205) else none) else (bif Nat.beq pc 204 then some (fPu (.int (0)) 205) else none))
noncomputable def qc256_28 : Nat → Option qF := fun pc => bif Nat.blt pc 207 then (bif Nat.blt pc 206 then (bif Nat.beq pc 205 then some (fBi nAdd 206) else none) else (bif Nat.beq pc 206 then some (fIas 207) else none)) else (bif Nat.blt pc 210 then (bif Nat.beq pc 207 then some (fInc 9 1 210) else none) else (bif Nat.beq pc 210 then some (fGo 141) else none))
noncomputable def qc256_29 : Nat → Option qF := fun pc => bif Nat.blt pc 219 then (bif Nat.blt pc 216 then (bif Nat.beq pc 213 then some (fInc 8 1 216) else none) else (bif Nat.beq pc 216 then some (fGo 126) else none)) else (bif Nat.blt pc 220 then (bif Nat.beq pc 219 then some (fPu (.int (0)) 220) else none) else (bif Nat.beq pc 220 then some (fStI 8 222) else none))
noncomputable def qc256_30 : Nat → Option qF := fun pc => bif Nat.blt pc 225 then (bif Nat.blt pc 224 then (bif Nat.beq pc 222 then some (fLdI 8 224) else none) else (bif Nat.beq pc 224 then some (fLdI 3 225) else none)) else (bif Nat.blt pc 228 then (bif Nat.beq pc 225 then some (fIc .ge 244 228) else none) else (bif Nat.beq pc 228 then some (fLdA 5 230) else none))
noncomputable def qc256_31 : Nat → Option qF := fun pc => bif Nat.blt pc 234 then (bif Nat.blt pc 232 then (bif Nat.beq pc 230 then some (fLdI 8 232) else none) else (bif Nat.beq pc 232 then some (fLdA 6 234) else none)) else (bif Nat.blt pc 236 then (bif Nat.beq pc 234 then some (fLdI 8 236) else none) else (bif Nat.beq pc 236 then some (fIal 237) else none))
noncomputable def qc256_32 : Nat → Option qF := fun pc => bif Nat.blt pc 241 then (bif Nat.blt pc 238 then (bif Nat.beq pc 237 then some (fIas 238) else none) else (bif Nat.beq pc 238 then some (fInc 8 1 241) else none)) else (bif Nat.blt pc 244 then (bif Nat.beq pc 241 then some (fGo 222) else none) else (bif Nat.beq pc 244 then some (fInc 7 1 247) else none))
noncomputable def qc256_33 : Nat → Option qF := fun pc => bif Nat.blt pc 251 then (bif Nat.blt pc 250 then (bif Nat.beq pc 247 then some (fGo 114) else none) else (bif Nat.beq pc 250 then some (fPu (.int (0)) 251) else none)) else (bif Nat.blt pc 253 then (bif Nat.beq pc 251 then some (fStI 7 253) else none) else (bif Nat.beq pc 253 then some (fPu (.int (0)) 254) else none))
noncomputable def qc256_34 : Nat → Option qF := fun pc => bif Nat.blt pc 258 then (bif Nat.blt pc 256 then (bif Nat.beq pc 254 then some (fStI 8 256) else none) else (bif Nat.beq pc 256 then some (fLdI 8 258) else none)) else (bif Nat.blt pc 259 then (bif Nat.beq pc 258 then some (fLdI 3 259) else none) else (bif Nat.beq pc 259 then some (fIc .ge 278 262) else none))
noncomputable def qc256_35 : Nat → Option qF := fun pc => bif Nat.blt pc 266 then (bif Nat.blt pc 264 then (bif Nat.beq pc 262 then some (fLdI 7 264) else none) else (bif Nat.beq pc 264 then some (fLdA 5 266) else none)) else (bif Nat.blt pc 268 then (bif Nat.beq pc 266 then some (fLdI 8 268) else none) else (bif Nat.beq pc 268 then some (fIal 269) else none))
noncomputable def qc256_36 : Nat → Option qF := fun pc => bif Nat.blt pc 272 then (bif Nat.blt pc 270 then (bif Nat.beq pc 269 then some (fBi nAdd 270) else none) else (bif Nat.beq pc 270 then some (fStI 7 272) else none)) else (bif Nat.blt pc 275 then (bif Nat.beq pc 272 then some (fInc 8 1 275) else none) else (bif Nat.beq pc 275 then some (fGo 256) else none))
noncomputable def qc256_37 : Nat → Option qF := fun pc => bif Nat.blt pc 280 then (bif Nat.beq pc 278 then some (fLdI 7 280) else none) else (bif Nat.beq pc 280 then some (fRI .int) else none)
noncomputable def qc256_t0 : Nat → Option qF := fun pc => bif Nat.blt pc 12 then (bif Nat.blt pc 4 then (qc256_0 pc) else (qc256_1 pc)) else (bif Nat.blt pc 18 then (qc256_2 pc) else (qc256_3 pc))
noncomputable def qc256_t1 : Nat → Option qF := fun pc => bif Nat.blt pc 44 then (bif Nat.blt pc 36 then (qc256_4 pc) else (qc256_5 pc)) else (bif Nat.blt pc 52 then (qc256_6 pc) else (qc256_7 pc))
noncomputable def qc256_t2 : Nat → Option qF := fun pc => bif Nat.blt pc 74 then (bif Nat.blt pc 67 then (qc256_8 pc) else (qc256_9 pc)) else (bif Nat.blt pc 82 then (qc256_10 pc) else (qc256_11 pc))
noncomputable def qc256_t3 : Nat → Option qF := fun pc => bif Nat.blt pc 103 then (bif Nat.blt pc 93 then (qc256_12 pc) else (qc256_13 pc)) else (bif Nat.blt pc 111 then (qc256_14 pc) else (qc256_15 pc))
noncomputable def qc256_t4 : Nat → Option qF := fun pc => bif Nat.blt pc 134 then (bif Nat.blt pc 126 then (qc256_16 pc) else (qc256_17 pc)) else (bif Nat.blt pc 139 then (qc256_18 pc) else (qc256_19 pc))
noncomputable def qc256_t5 : Nat → Option qF := fun pc => bif Nat.blt pc 161 then (bif Nat.blt pc 153 then (qc256_20 pc) else (qc256_21 pc)) else (bif Nat.blt pc 169 then (qc256_22 pc) else (qc256_23 pc))
noncomputable def qc256_t6 : Nat → Option qF := fun pc => bif Nat.blt pc 189 then (bif Nat.blt pc 184 then (qc256_24 pc) else (qc256_25 pc)) else (bif Nat.blt pc 198 then (qc256_26 pc) else (qc256_27 pc))
noncomputable def qc256_t7 : Nat → Option qF := fun pc => bif Nat.blt pc 222 then (bif Nat.blt pc 213 then (qc256_28 pc) else (qc256_29 pc)) else (bif Nat.blt pc 230 then (qc256_30 pc) else (qc256_31 pc))
noncomputable def qc256_t8 : Nat → Option qF := fun pc => bif Nat.blt pc 254 then (bif Nat.blt pc 247 then (qc256_32 pc) else (qc256_33 pc)) else (bif Nat.blt pc 262 then (qc256_34 pc) else (qc256_35 pc))
noncomputable def qc256_t9 : Nat → Option qF := fun pc => bif Nat.blt pc 278 then (qc256_36 pc) else (qc256_37 pc)
noncomputable def qc256_t10 : Nat → Option qF := fun pc => bif Nat.blt pc 60 then (bif Nat.blt pc 26 then (qc256_t0 pc) else (qc256_t1 pc)) else (bif Nat.blt pc 89 then (qc256_t2 pc) else (qc256_t3 pc))
noncomputable def qc256_t11 : Nat → Option qF := fun pc => bif Nat.blt pc 176 then (bif Nat.blt pc 147 then (qc256_t4 pc) else (qc256_t5 pc)) else (bif Nat.blt pc 205 then (qc256_t6 pc) else (qc256_t7 pc))
noncomputable def qc256_t12 : Nat → Option qF := fun pc => bif Nat.blt pc 269 then (qc256_t8 pc) else (qc256_t9 pc)
noncomputable def qc256_t13 : Nat → Option qF := fun pc => bif Nat.blt pc 117 then (qc256_t10 pc) else (bif Nat.blt pc 237 then (qc256_t11 pc) else (qc256_t12 pc))
noncomputable def qc256 : Nat → Option qF := qc256_t13
noncomputable def qT : Nat → Option (Nat → Option qF) := fun k => bif Nat.blt k 114 then (bif Nat.blt k 45 then (bif Nat.blt k 35 then (bif Nat.blt k 34 then (bif Nat.beq k 10 then some qc10 else none) else (bif Nat.beq k 34 then some qc34 else none)) else (bif Nat.blt k 36 then (bif Nat.beq k 35 then some qc35 else none) else (bif Nat.beq k 36 then some qc36 else none))) else (bif Nat.blt k 47 then (bif Nat.blt k 46 then (bif Nat.beq k 45 then some qc45 else none) else (bif Nat.beq k 46 then some qc46 else none)) else (bif Nat.blt k 48 then (bif Nat.beq k 47 then some qc47 else none) else (bif Nat.blt k 49 then (bif Nat.beq k 48 then some qc48 else none) else (bif Nat.beq k 49 then some qc49 else none))))) else (bif Nat.blt k 210 then (bif Nat.blt k 116 then (bif Nat.blt k 115 then (bif Nat.beq k 114 then some qc114 else none) else (bif Nat.beq k 115 then some qc115 else none)) else (bif Nat.blt k 209 then (bif Nat.beq k 116 then some qc116 else none) else (bif Nat.beq k 209 then some qc209 else none))) else (bif Nat.blt k 212 then (bif Nat.blt k 211 then (bif Nat.beq k 210 then some qc210 else none) else (bif Nat.beq k 211 then some qc211 else none)) else (bif Nat.blt k 213 then (bif Nat.beq k 212 then some qc212 else none) else (bif Nat.blt k 256 then (bif Nat.beq k 213 then some qc213 else none) else (bif Nat.beq k 256 then some qc256 else none)))))
theorem qd10_0 : qOk (mtv 10) qc10_0 := by
  unfold qc10_0
  exact (qOk_b (qOk_b (qOk_l (q_aload_n q10_0 rfl rfl)) (qOk_l (q_get q10_1 rfl))) (qOk_b (qOk_l (q_istore_n q10_4 rfl (Nat.le_of_ble_eq_true rfl) rfl)) (qOk_l (q_aload_n q10_5 rfl rfl))))
theorem qd10_1 : qOk (mtv 10) qc10_1 := by
  unfold qc10_1
  exact (qOk_b (qOk_b (qOk_l (q_pu q10_6 (fun _ _ => rfl))) (qOk_l q_sl)) (qOk_b (qOk_l (q_aload_n q10_10 rfl rfl)) (qOk_l (q_pu q10_11 (fun _ _ => rfl)))))
theorem qd10_2 : qOk (mtv 10) qc10_2 := by
  unfold qc10_2
  exact (qOk_b (qOk_l q_sl) (qOk_b (qOk_l (q_iload_n q10_15 rfl rfl)) (qOk_l (q_ri q10_16 rfl))))
theorem qd10_t0 : qOk (mtv 10) qc10_t0 := by
  unfold qc10_t0
  exact (qOk_b qd10_0 (qOk_b qd10_1 qd10_2))
theorem qd10 : qOk (mtv 10) qc10 := qd10_t0
theorem qd34_0 : qOk (mtv 34) qc34_0 := by
  unfold qc34_0
  exact (qOk_b (qOk_b (qOk_l (q_aload_n q34_0 rfl rfl)) (qOk_l (q_get q34_1 rfl))) (qOk_b (qOk_l (q_pu q34_4 (fun _ _ => rfl))) (qOk_l (q_bi q34_5 (fun lv x y r => by show _ = some (_, lv, .int (nSub x y) :: r); rw [nSub_eq]; rfl)))))
theorem qd34_1 : qOk (mtv 34) qc34_1 := by
  unfold qc34_1
  exact (qOk_b (qOk_b (qOk_l (q_istore q34_6 (Nat.le_of_ble_eq_true rfl) rfl)) (qOk_l (q_iload q34_8 rfl))) (qOk_b (qOk_l (q_if q34_10 rfl rfl)) (qOk_l (q_pu q34_13 (fun _ _ => rfl)))))
theorem qd34_2 : qOk (mtv 34) qc34_2 := by
  unfold qc34_2
  exact (qOk_b (qOk_b (qOk_l (q_istore q34_14 (Nat.le_of_ble_eq_true rfl) rfl)) (qOk_l (q_iload q34_16 rfl))) (qOk_b (qOk_l (q_aload_n q34_18 rfl rfl)) (qOk_l (q_get q34_19 rfl))))
theorem qd34_3 : qOk (mtv 34) qc34_3 := by
  unfold qc34_3
  exact (qOk_b (qOk_b (qOk_l (q_ic q34_22 rfl rfl)) (qOk_l (q_aload_n q34_25 rfl rfl))) (qOk_b (qOk_l (q_get q34_26 rfl)) (qOk_l (q_iload q34_29 rfl))))
theorem qd34_4 : qOk (mtv 34) qc34_4 := by
  unfold qc34_4
  exact (qOk_b (qOk_b (qOk_l q_sl) (qOk_l (q_iload q34_32 rfl))) (qOk_b (qOk_l (q_lload_n q34_34 rfl rfl)) (qOk_l (q_iload q34_35 rfl))))
theorem qd34_5 : qOk (mtv 34) qc34_5 := by
  unfold qc34_5
  exact (qOk_b (qOk_b (qOk_l (q_iload q34_37 rfl)) (qOk_l (q_cs q34_39 (by decide) rfl rfl rfl rfl rfl rfl))) (qOk_b (qOk_l (q_bl q34_42 (fun _ _ _ _ => rfl))) (qOk_l (q_pu q34_43 (fun _ _ => rfl)))))
theorem qd34_6 : qOk (mtv 34) qc34_6 := by
  unfold qc34_6
  exact (qOk_b (qOk_b (qOk_l q_sl) (qOk_l (q_if q34_45 rfl rfl))) (qOk_b (qOk_l (q_pu q34_48 (fun _ _ => rfl))) (qOk_l (q_goto q34_49 rfl))))
theorem qd34_7 : qOk (mtv 34) qc34_7 := by
  unfold qc34_7
  exact (qOk_b (qOk_b (qOk_l (q_aload_n q34_52 rfl rfl)) (qOk_l (q_iload q34_53 rfl))) (qOk_b (qOk_l (q_iload q34_55 rfl)) (qOk_l (q_iload_n q34_57 rfl rfl))))
theorem qd34_8 : qOk (mtv 34) qc34_8 := by
  unfold qc34_8
  exact (qOk_b (qOk_b (qOk_l (q_cv q34_58 (by decide) rfl rfl rfl rfl rfl rfl)) (qOk_l (q_ias q34_61 rfl))) (qOk_b (qOk_l (q_inc q34_62 (Nat.le_of_ble_eq_true rfl) rfl rfl)) (qOk_l (q_goto q34_65 rfl))))
theorem qd34_9 : qOk (mtv 34) qc34_9 := by
  unfold qc34_9
  exact (qOk_b (qOk_b (qOk_l (q_inc q34_68 (Nat.le_of_ble_eq_true rfl) rfl rfl)) (qOk_l (q_goto q34_71 rfl))) (qOk_b (qOk_l (q_pu q34_74 (fun _ _ => rfl))) (qOk_l (q_istore q34_75 (Nat.le_of_ble_eq_true rfl) rfl))))
theorem qd34_10 : qOk (mtv 34) qc34_10 := by
  unfold qc34_10
  exact (qOk_b (qOk_b (qOk_l (q_pu q34_77 (fun _ _ => rfl))) (qOk_l (q_istore q34_78 (Nat.le_of_ble_eq_true rfl) rfl))) (qOk_b (qOk_l (q_iload q34_80 rfl)) (qOk_l (q_aload_n q34_82 rfl rfl))))
theorem qd34_11 : qOk (mtv 34) qc34_11 := by
  unfold qc34_11
  exact (qOk_b (qOk_b (qOk_l (q_get q34_83 rfl)) (qOk_l (q_ic q34_86 rfl rfl))) (qOk_b (qOk_l (q_iload q34_89 rfl)) (qOk_l (q_aload_n q34_91 rfl rfl))))
theorem qd34_12 : qOk (mtv 34) qc34_12 := by
  unfold qc34_12
  exact (qOk_b (qOk_b (qOk_l (q_get q34_92 rfl)) (qOk_l (q_pu q34_95 (fun _ _ => rfl)))) (qOk_b (qOk_l q_sl) (qOk_l (q_iload q34_97 rfl))))
theorem qd34_13 : qOk (mtv 34) qc34_13 := by
  unfold qc34_13
  exact (qOk_b (qOk_b (qOk_l (q_ial q34_99 rfl)) (qOk_l (q_bi q34_100 (fun lv x y r => by show _ = some (_, lv, .int (nAdd x y) :: r); rw [nAdd_eq]; rfl)))) (qOk_b (qOk_l (q_istore q34_101 (Nat.le_of_ble_eq_true rfl) rfl)) (qOk_l (q_inc q34_103 (Nat.le_of_ble_eq_true rfl) rfl rfl))))
theorem qd34_14 : qOk (mtv 34) qc34_14 := by
  unfold qc34_14
  exact (qOk_b (qOk_l (q_goto q34_106 rfl)) (qOk_b (qOk_l (q_iload q34_109 rfl)) (qOk_l (q_ri q34_111 rfl))))
theorem qd34_t0 : qOk (mtv 34) qc34_t0 := by
  unfold qc34_t0
  exact (qOk_b (qOk_b qd34_0 qd34_1) (qOk_b qd34_2 qd34_3))
theorem qd34_t1 : qOk (mtv 34) qc34_t1 := by
  unfold qc34_t1
  exact (qOk_b (qOk_b qd34_4 qd34_5) (qOk_b qd34_6 qd34_7))
theorem qd34_t2 : qOk (mtv 34) qc34_t2 := by
  unfold qc34_t2
  exact (qOk_b (qOk_b qd34_8 qd34_9) (qOk_b qd34_10 qd34_11))
theorem qd34_t3 : qOk (mtv 34) qc34_t3 := by
  unfold qc34_t3
  exact (qOk_b qd34_12 (qOk_b qd34_13 qd34_14))
theorem qd34_t4 : qOk (mtv 34) qc34_t4 := by
  unfold qc34_t4
  exact (qOk_b (qOk_b qd34_t0 qd34_t1) (qOk_b qd34_t2 qd34_t3))
theorem qd34 : qOk (mtv 34) qc34 := qd34_t4
theorem qd35_0 : qOk (mtv 35) qc35_0 := by
  unfold qc35_0
  exact (qOk_b (qOk_b (qOk_l (q_pu q35_0 (fun _ _ => rfl))) (qOk_l (q_pu q35_1 (fun _ _ => rfl)))) (qOk_b (qOk_l (q_iload_n q35_3 rfl rfl)) (qOk_l (q_bi q35_4 (fun lv x y r => by show _ = some (_, lv, .int (nMul x y) :: r); rw [nMul_eq]; rfl)))))
theorem qd35_1 : qOk (mtv 35) qc35_1 := by
  unfold qc35_1
  exact (qOk_b (qOk_b (qOk_l (q_iload_n q35_5 rfl rfl)) (qOk_l (q_bi q35_6 (fun lv x y r => by show _ = some (_, lv, .int (nAdd x y) :: r); rw [nAdd_eq]; rfl)))) (qOk_b (qOk_l q_sl) (qOk_l q_sl)))
theorem qd35_t0 : qOk (mtv 35) qc35_t0 := by
  unfold qc35_t0
  exact (qOk_b qd35_0 qd35_1)
theorem qd35 : qOk (mtv 35) qc35 := qd35_t0
theorem qd36_0 : qOk (mtv 36) qc36_0 := by
  unfold qc36_0
  exact (qOk_b (qOk_b (qOk_l (q_iload_n q36_0 rfl rfl)) (qOk_l (q_aload_n q36_1 rfl rfl))) (qOk_b (qOk_l (q_get q36_2 rfl)) (qOk_l (q_pu q36_5 (fun _ _ => rfl)))))
theorem qd36_1 : qOk (mtv 36) qc36_1 := by
  unfold qc36_1
  exact (qOk_b (qOk_b (qOk_l (q_bi q36_6 (fun lv x y r => by show _ = some (_, lv, .int (nSub x y) :: r); rw [nSub_eq]; rfl))) (qOk_l (q_ic q36_7 rfl rfl))) (qOk_b (qOk_l (q_pu q36_10 (fun _ _ => rfl))) (qOk_l (q_ri q36_11 rfl))))
theorem qd36_2 : qOk (mtv 36) qc36_2 := by
  unfold qc36_2
  exact (qOk_b (qOk_b (qOk_l (q_pu q36_12 (fun _ _ => rfl))) (qOk_l (q_istore q36_13 (Nat.le_of_ble_eq_true rfl) rfl))) (qOk_b (qOk_l (q_pu q36_15 (fun _ _ => rfl))) (qOk_l (q_istore q36_16 (Nat.le_of_ble_eq_true rfl) rfl))))
theorem qd36_3 : qOk (mtv 36) qc36_3 := by
  unfold qc36_3
  exact (qOk_b (qOk_b (qOk_l (q_iload q36_18 rfl)) (qOk_l (q_aload_n q36_20 rfl rfl))) (qOk_b (qOk_l (q_get q36_21 rfl)) (qOk_l (q_ic q36_24 rfl rfl))))
theorem qd36_4 : qOk (mtv 36) qc36_4 := by
  unfold qc36_4
  exact (qOk_b (qOk_b (qOk_l (q_iload q36_27 rfl)) (qOk_l (q_iload_n q36_29 rfl rfl))) (qOk_b (qOk_l (q_bi q36_30 (fun lv x y r => by show _ = some (_, lv, .int (nSub x y) :: r); rw [nSub_eq]; rfl))) (qOk_l (q_ab q36_31 rfl))))
theorem qd36_5 : qOk (mtv 36) qc36_5 := by
  unfold qc36_5
  exact (qOk_b (qOk_b (qOk_l (q_iload_n q36_34 rfl rfl)) (qOk_l (q_ic q36_35 rfl rfl))) (qOk_b (qOk_l (q_iload q36_38 rfl)) (qOk_l (q_aload_n q36_40 rfl rfl))))
theorem qd36_6 : qOk (mtv 36) qc36_6 := by
  unfold qc36_6
  exact (qOk_b (qOk_b (qOk_l (q_get q36_41 rfl)) (qOk_l (q_iload_n q36_44 rfl rfl))) (qOk_b (qOk_l (q_pu q36_45 (fun _ _ => rfl))) (qOk_l (q_bi q36_46 (fun lv x y r => by show _ = some (_, lv, .int (nAdd x y) :: r); rw [nAdd_eq]; rfl)))))
theorem qd36_7 : qOk (mtv 36) qc36_7 := by
  unfold qc36_7
  exact (qOk_b (qOk_b (qOk_l q_sl) (qOk_l (q_iload q36_48 rfl))) (qOk_b (qOk_l (q_ial q36_50 rfl)) (qOk_l (q_bi q36_51 (fun lv x y r => by show _ = some (_, lv, .int (nAdd x y) :: r); rw [nAdd_eq]; rfl)))))
theorem qd36_8 : qOk (mtv 36) qc36_8 := by
  unfold qc36_8
  exact (qOk_b (qOk_b (qOk_l (q_istore q36_52 (Nat.le_of_ble_eq_true rfl) rfl)) (qOk_l (q_inc q36_54 (Nat.le_of_ble_eq_true rfl) rfl rfl))) (qOk_b (qOk_l (q_goto q36_57 rfl)) (qOk_l (q_iload q36_60 rfl))))
theorem qd36_9 : qOk (mtv 36) qc36_9 := by
  unfold qc36_9
  exact (qOk_l (q_ri q36_62 rfl))
theorem qd36_t0 : qOk (mtv 36) qc36_t0 := by
  unfold qc36_t0
  exact (qOk_b (qOk_b qd36_0 qd36_1) (qOk_b qd36_2 qd36_3))
theorem qd36_t1 : qOk (mtv 36) qc36_t1 := by
  unfold qc36_t1
  exact (qOk_b (qOk_b qd36_4 qd36_5) (qOk_b qd36_6 qd36_7))
theorem qd36_t2 : qOk (mtv 36) qc36_t2 := by
  unfold qc36_t2
  exact (qOk_b qd36_8 qd36_9)
theorem qd36_t3 : qOk (mtv 36) qc36_t3 := by
  unfold qc36_t3
  exact (qOk_b qd36_t0 (qOk_b qd36_t1 qd36_t2))
theorem qd36 : qOk (mtv 36) qc36 := qd36_t3
theorem qd45_0 : qOk (mtv 45) qc45_0 := by
  unfold qc45_0
  exact (qOk_b (qOk_b (qOk_l (q_aload q45_0 rfl)) (qOk_l (q_pu q45_2 (fun _ _ => rfl)))) (qOk_b (qOk_l (q_aload_n q45_3 rfl rfl)) (qOk_l (q_iload_n q45_4 rfl rfl))))
theorem qd45_1 : qOk (mtv 45) qc45_1 := by
  unfold qc45_1
  exact (qOk_b (qOk_b (qOk_l (q_iload_n q45_5 rfl rfl)) (qOk_l (q_iload_n q45_6 rfl rfl))) (qOk_b (qOk_l (q_cv q45_7 (by decide) rfl rfl rfl rfl rfl rfl)) (qOk_l q_sl)))
theorem qd45_2 : qOk (mtv 45) qc45_2 := by
  unfold qc45_2
  exact (qOk_b (qOk_b (qOk_l q_sl) (qOk_l (q_goto q45_12 rfl))) (qOk_b (qOk_l q_sl) (qOk_l (q_pu q45_17 (fun _ _ => rfl)))))
theorem qd45_3 : qOk (mtv 45) qc45_3 := by
  unfold qc45_3
  exact (qOk_b (qOk_b (qOk_l (q_ri q45_18 rfl)) (qOk_l q_sl)) (qOk_b (qOk_l (q_pu q45_21 (fun _ _ => rfl))) (qOk_l (q_ri q45_22 rfl))))
theorem qd45_4 : qOk (mtv 45) qc45_4 := by
  unfold qc45_4
  exact (qOk_b (qOk_l (q_pu q45_23 (fun _ _ => rfl))) (qOk_l (q_ri q45_24 rfl)))
theorem qd45_t0 : qOk (mtv 45) qc45_t0 := by
  unfold qc45_t0
  exact (qOk_b (qOk_b qd45_0 qd45_1) (qOk_b qd45_2 qd45_3))
theorem qd45_t1 : qOk (mtv 45) qc45_t1 := by
  unfold qc45_t1
  exact (qOk_b qd45_t0 qd45_4)
theorem qd45 : qOk (mtv 45) qc45 := qd45_t1
theorem qd46_0 : qOk (mtv 46) qc46_0 := by
  unfold qc46_0
  exact (qOk_b (qOk_b (qOk_l (q_iload_n q46_0 rfl rfl)) (qOk_l (q_pu q46_1 (fun _ _ => rfl)))) (qOk_b (qOk_l (q_pu q46_2 (fun _ _ => rfl))) (qOk_l (q_cs q46_4 (by decide) rfl rfl rfl rfl rfl rfl))))
theorem qd46_1 : qOk (mtv 46) qc46_1 := by
  unfold qc46_1
  exact (qOk_b (qOk_b (qOk_l (q_if q46_7 rfl rfl)) (qOk_l (q_iload_n q46_10 rfl rfl))) (qOk_b (qOk_l (q_pu q46_11 (fun _ _ => rfl))) (qOk_l (q_pu q46_12 (fun _ _ => rfl)))))
theorem qd46_2 : qOk (mtv 46) qc46_2 := by
  unfold qc46_2
  exact (qOk_b (qOk_b (qOk_l (q_cs q46_14 (by decide) rfl rfl rfl rfl rfl rfl)) (qOk_l (q_if q46_17 rfl rfl))) (qOk_b (qOk_l (q_iload_n q46_20 rfl rfl)) (qOk_l (q_pu q46_21 (fun _ _ => rfl)))))
theorem qd46_3 : qOk (mtv 46) qc46_3 := by
  unfold qc46_3
  exact (qOk_b (qOk_b (qOk_l (q_pu q46_22 (fun _ _ => rfl))) (qOk_l (q_cs q46_23 (by decide) rfl rfl rfl rfl rfl rfl))) (qOk_b (qOk_l (q_if q46_26 rfl rfl)) (qOk_l (q_pu q46_29 (fun _ _ => rfl)))))
theorem qd46_4 : qOk (mtv 46) qc46_4 := by
  unfold qc46_4
  exact (qOk_b (qOk_b (qOk_l (q_goto q46_30 rfl)) (qOk_l (q_pu q46_33 (fun _ _ => rfl)))) (qOk_b (qOk_l (q_istore q46_34 (Nat.le_of_ble_eq_true rfl) rfl)) (qOk_l (q_iload q46_36 rfl))))
theorem qd46_5 : qOk (mtv 46) qc46_5 := by
  unfold qc46_5
  exact (qOk_b (qOk_b (qOk_l (q_if q46_38 rfl rfl)) (qOk_l q_sl)) (qOk_b (qOk_l (q_aload_n q46_51 rfl rfl)) (qOk_l (q_get q46_52 rfl))))
theorem qd46_6 : qOk (mtv 46) qc46_6 := by
  unfold qc46_6
  exact (qOk_b (qOk_b (qOk_l (q_if q46_55 rfl rfl)) (qOk_l (q_aload_n q46_58 rfl rfl))) (qOk_b (qOk_l (q_get q46_59 rfl)) (qOk_l (q_if q46_62 rfl rfl))))
theorem qd46_7 : qOk (mtv 46) qc46_7 := by
  unfold qc46_7
  exact (qOk_b (qOk_b (qOk_l q_sl) (qOk_l (q_aload_n q46_75 rfl rfl))) (qOk_b (qOk_l (q_get q46_76 rfl)) (qOk_l (q_iload_n q46_79 rfl rfl))))
theorem qd46_8 : qOk (mtv 46) qc46_8 := by
  unfold qc46_8
  exact (qOk_b (qOk_b (qOk_l (q_iload_n q46_80 rfl rfl)) (qOk_l (q_iload_n q46_81 rfl rfl))) (qOk_b (qOk_l (q_cv q46_82 (by decide) rfl rfl rfl rfl rfl rfl)) (qOk_l (q_aload_n q46_85 rfl rfl))))
theorem qd46_9 : qOk (mtv 46) qc46_9 := by
  unfold qc46_9
  exact (qOk_b (qOk_b (qOk_l (q_get q46_86 rfl)) (qOk_l (q_aload_n q46_89 rfl rfl))) (qOk_b (qOk_l (q_get q46_90 rfl)) (qOk_l (q_cv q46_93 (by decide) rfl rfl rfl rfl rfl rfl))))
theorem qd46_10 : qOk (mtv 46) qc46_10 := by
  unfold qc46_10
  exact (qOk_b (qOk_l (q_iload_n q46_96 rfl rfl)) (qOk_b (qOk_l (q_cv q46_97 (by decide) rfl rfl rfl rfl rfl rfl)) (qOk_l (q_ri q46_100 rfl))))
theorem qd46_t0 : qOk (mtv 46) qc46_t0 := by
  unfold qc46_t0
  exact (qOk_b (qOk_b qd46_0 qd46_1) (qOk_b qd46_2 qd46_3))
theorem qd46_t1 : qOk (mtv 46) qc46_t1 := by
  unfold qc46_t1
  exact (qOk_b (qOk_b qd46_4 qd46_5) (qOk_b qd46_6 qd46_7))
theorem qd46_t2 : qOk (mtv 46) qc46_t2 := by
  unfold qc46_t2
  exact (qOk_b qd46_8 (qOk_b qd46_9 qd46_10))
theorem qd46_t3 : qOk (mtv 46) qc46_t3 := by
  unfold qc46_t3
  exact (qOk_b qd46_t0 (qOk_b qd46_t1 qd46_t2))
theorem qd46 : qOk (mtv 46) qc46 := qd46_t3
theorem qd47_0 : qOk (mtv 47) qc47_0 := by
  unfold qc47_0
  exact (qOk_b (qOk_b (qOk_l (q_iload_n q47_0 rfl rfl)) (qOk_l (q_iload_n q47_1 rfl rfl))) (qOk_b (qOk_l (q_ic q47_2 rfl rfl)) (qOk_l (q_iload_n q47_5 rfl rfl))))
theorem qd47_1 : qOk (mtv 47) qc47_1 := by
  unfold qc47_1
  exact (qOk_b (qOk_b (qOk_l (q_iload_n q47_6 rfl rfl)) (qOk_l (q_ic q47_7 rfl rfl))) (qOk_b (qOk_l (q_pu q47_10 (fun _ _ => rfl))) (qOk_l (q_goto q47_11 rfl))))
theorem qd47_2 : qOk (mtv 47) qc47_2 := by
  unfold qc47_2
  exact (qOk_b (qOk_l (q_pu q47_14 (fun _ _ => rfl))) (qOk_l (q_ri q47_15 rfl)))
theorem qd47_t0 : qOk (mtv 47) qc47_t0 := by
  unfold qc47_t0
  exact (qOk_b qd47_0 (qOk_b qd47_1 qd47_2))
theorem qd47 : qOk (mtv 47) qc47 := qd47_t0
theorem qd48_0 : qOk (mtv 48) qc48_0 := by
  unfold qc48_0
  exact (qOk_b (qOk_b (qOk_l (q_aload_n q48_0 rfl rfl)) (qOk_l (q_iload_n q48_1 rfl rfl))) (qOk_b (qOk_l q_sl) (qOk_l (q_aload_n q48_5 rfl rfl))))
theorem qd48_1 : qOk (mtv 48) qc48_1 := by
  unfold qc48_1
  exact (qOk_b (qOk_b (qOk_l (q_iload_n q48_6 rfl rfl)) (qOk_l q_sl)) (qOk_b (qOk_l (q_aload_n q48_10 rfl rfl)) (qOk_l (q_iload_n q48_11 rfl rfl))))
theorem qd48_2 : qOk (mtv 48) qc48_2 := by
  unfold qc48_2
  exact (qOk_b (qOk_b (qOk_l q_sl) (qOk_l (q_aload_n q48_15 rfl rfl))) (qOk_b (qOk_l (q_cv q48_16 (by decide) rfl rfl rfl rfl rfl rfl)) (qOk_l q_sl)))
theorem qd48_3 : qOk (mtv 48) qc48_3 := by
  unfold qc48_3
  exact (qOk_l q_sl)
theorem qd48_t0 : qOk (mtv 48) qc48_t0 := by
  unfold qc48_t0
  exact (qOk_b (qOk_b qd48_0 qd48_1) (qOk_b qd48_2 qd48_3))
theorem qd48 : qOk (mtv 48) qc48 := qd48_t0
theorem qd49_0 : qOk (mtv 49) qc49_0 := by
  unfold qc49_0
  exact (qOk_b (qOk_b (qOk_l (q_pu q49_0 (fun _ _ => rfl))) (qOk_l q_sl)) (qOk_b (qOk_l (q_pu q49_2 (fun _ _ => rfl))) (qOk_l (q_istore_n q49_3 rfl (Nat.le_of_ble_eq_true rfl) rfl))))
theorem qd49_1 : qOk (mtv 49) qc49_1 := by
  unfold qc49_1
  exact (qOk_b (qOk_b (qOk_l (q_iload_n q49_4 rfl rfl)) (qOk_l (q_aload_n q49_5 rfl rfl))) (qOk_b (qOk_l (q_get q49_6 rfl)) (qOk_l (q_ic q49_9 rfl rfl))))
theorem qd49_2 : qOk (mtv 49) qc49_2 := by
  unfold qc49_2
  exact (qOk_b (qOk_b (qOk_l (q_pu q49_12 (fun _ _ => rfl))) (qOk_l (q_istore q49_13 (Nat.le_of_ble_eq_true rfl) rfl))) (qOk_b (qOk_l (q_iload q49_15 rfl)) (qOk_l (q_aload_n q49_17 rfl rfl))))
theorem qd49_3 : qOk (mtv 49) qc49_3 := by
  unfold qc49_3
  exact (qOk_b (qOk_b (qOk_l (q_get q49_18 rfl)) (qOk_l (q_ic q49_21 rfl rfl))) (qOk_b (qOk_l (q_lload_n q49_24 rfl rfl)) (qOk_l (q_iload_n q49_25 rfl rfl))))
theorem qd49_4 : qOk (mtv 49) qc49_4 := by
  unfold qc49_4
  exact (qOk_b (qOk_b (qOk_l (q_iload q49_26 rfl)) (qOk_l (q_cs q49_28 (by decide) rfl rfl rfl rfl rfl rfl))) (qOk_b (qOk_l (q_bl q49_31 (fun _ _ _ _ => rfl))) (qOk_l q_sl)))
theorem qd49_5 : qOk (mtv 49) qc49_5 := by
  unfold qc49_5
  exact (qOk_b (qOk_b (qOk_l (q_inc q49_33 (Nat.le_of_ble_eq_true rfl) rfl rfl)) (qOk_l (q_goto q49_36 rfl))) (qOk_b (qOk_l (q_inc q49_39 (Nat.le_of_ble_eq_true rfl) rfl rfl)) (qOk_l (q_goto q49_42 rfl))))
theorem qd49_6 : qOk (mtv 49) qc49_6 := by
  unfold qc49_6
  exact (qOk_b (qOk_l (q_lload_n q49_45 rfl rfl)) (qOk_l q_sl))
theorem qd49_t0 : qOk (mtv 49) qc49_t0 := by
  unfold qc49_t0
  exact (qOk_b (qOk_b qd49_0 qd49_1) (qOk_b qd49_2 qd49_3))
theorem qd49_t1 : qOk (mtv 49) qc49_t1 := by
  unfold qc49_t1
  exact (qOk_b qd49_4 (qOk_b qd49_5 qd49_6))
theorem qd49_t2 : qOk (mtv 49) qc49_t2 := by
  unfold qc49_t2
  exact (qOk_b qd49_t0 qd49_t1)
theorem qd49 : qOk (mtv 49) qc49 := qd49_t2
theorem qd114_0 : qOk (mtv 114) qc114_0 := by
  unfold qc114_0
  exact (qOk_b (qOk_b (qOk_l (q_aload q114_0 rfl)) (qOk_l (q_pu q114_2 (fun _ _ => rfl)))) (qOk_b (qOk_l (q_aload_n q114_3 rfl rfl)) (qOk_l (q_iload_n q114_4 rfl rfl))))
theorem qd114_1 : qOk (mtv 114) qc114_1 := by
  unfold qc114_1
  exact (qOk_b (qOk_b (qOk_l (q_iload_n q114_5 rfl rfl)) (qOk_l (q_iload_n q114_6 rfl rfl))) (qOk_b (qOk_l (q_iload q114_7 rfl)) (qOk_l (q_cv q114_9 (by decide) rfl rfl rfl rfl rfl rfl))))
theorem qd114_2 : qOk (mtv 114) qc114_2 := by
  unfold qc114_2
  exact (qOk_b (qOk_b (qOk_l q_sl) (qOk_l q_sl)) (qOk_b (qOk_l (q_goto q114_14 rfl)) (qOk_l q_sl)))
theorem qd114_3 : qOk (mtv 114) qc114_3 := by
  unfold qc114_3
  exact (qOk_b (qOk_b (qOk_l (q_pu q114_19 (fun _ _ => rfl))) (qOk_l (q_ri q114_20 rfl))) (qOk_b (qOk_l (q_pu q114_21 (fun _ _ => rfl))) (qOk_l (q_ri q114_22 rfl))))
theorem qd114_t0 : qOk (mtv 114) qc114_t0 := by
  unfold qc114_t0
  exact (qOk_b (qOk_b qd114_0 qd114_1) (qOk_b qd114_2 qd114_3))
theorem qd114 : qOk (mtv 114) qc114 := qd114_t0
theorem qd115_0 : qOk (mtv 115) qc115_0 := by
  unfold qc115_0
  exact (qOk_b (qOk_b (qOk_l (q_iload_n q115_0 rfl rfl)) (qOk_l (q_pu q115_1 (fun _ _ => rfl)))) (qOk_b (qOk_l (q_aload_n q115_2 rfl rfl)) (qOk_l (q_get q115_3 rfl))))
theorem qd115_1 : qOk (mtv 115) qc115_1 := by
  unfold qc115_1
  exact (qOk_b (qOk_b (qOk_l (q_get q115_6 rfl)) (qOk_l (q_pu q115_9 (fun _ _ => rfl)))) (qOk_b (qOk_l (q_bi q115_10 (fun lv x y r => by show _ = some (_, lv, .int (nSub x y) :: r); rw [nSub_eq]; rfl))) (qOk_l (q_cs q115_11 (by decide) rfl rfl rfl rfl rfl rfl))))
theorem qd115_2 : qOk (mtv 115) qc115_2 := by
  unfold qc115_2
  exact (qOk_b (qOk_b (qOk_l (q_if q115_14 rfl rfl)) (qOk_l (q_iload_n q115_17 rfl rfl))) (qOk_b (qOk_l (q_pu q115_18 (fun _ _ => rfl))) (qOk_l (q_pu q115_19 (fun _ _ => rfl)))))
theorem qd115_3 : qOk (mtv 115) qc115_3 := by
  unfold qc115_3
  exact (qOk_b (qOk_b (qOk_l (q_cs q115_20 (by decide) rfl rfl rfl rfl rfl rfl)) (qOk_l (q_if q115_23 rfl rfl))) (qOk_b (qOk_l (q_iload_n q115_26 rfl rfl)) (qOk_l (q_pu q115_27 (fun _ _ => rfl)))))
theorem qd115_4 : qOk (mtv 115) qc115_4 := by
  unfold qc115_4
  exact (qOk_b (qOk_b (qOk_l (q_pu q115_28 (fun _ _ => rfl))) (qOk_l (q_cs q115_30 (by decide) rfl rfl rfl rfl rfl rfl))) (qOk_b (qOk_l (q_if q115_33 rfl rfl)) (qOk_l (q_iload q115_36 rfl))))
theorem qd115_5 : qOk (mtv 115) qc115_5 := by
  unfold qc115_5
  exact (qOk_b (qOk_b (qOk_l (q_pu q115_38 (fun _ _ => rfl))) (qOk_l (q_pu q115_39 (fun _ _ => rfl)))) (qOk_b (qOk_l (q_cs q115_40 (by decide) rfl rfl rfl rfl rfl rfl)) (qOk_l (q_if q115_43 rfl rfl))))
theorem qd115_6 : qOk (mtv 115) qc115_6 := by
  unfold qc115_6
  exact (qOk_b (qOk_b (qOk_l (q_pu q115_46 (fun _ _ => rfl))) (qOk_l (q_goto q115_47 rfl))) (qOk_b (qOk_l (q_pu q115_50 (fun _ _ => rfl))) (qOk_l (q_istore q115_51 (Nat.le_of_ble_eq_true rfl) rfl))))
theorem qd115_7 : qOk (mtv 115) qc115_7 := by
  unfold qc115_7
  exact (qOk_b (qOk_b (qOk_l (q_iload q115_53 rfl)) (qOk_l (q_if q115_55 rfl rfl))) (qOk_b (qOk_l q_sl) (qOk_l (q_aload_n q115_69 rfl rfl))))
theorem qd115_8 : qOk (mtv 115) qc115_8 := by
  unfold qc115_8
  exact (qOk_b (qOk_b (qOk_l (q_get q115_70 rfl)) (qOk_l (q_aload_n q115_73 rfl rfl))) (qOk_b (qOk_l (q_get q115_74 rfl)) (qOk_l (q_iload_n q115_77 rfl rfl))))
theorem qd115_9 : qOk (mtv 115) qc115_9 := by
  unfold qc115_9
  exact (qOk_b (qOk_b (qOk_l (q_iload_n q115_78 rfl rfl)) (qOk_l (q_iload_n q115_79 rfl rfl))) (qOk_b (qOk_l (q_cv q115_80 (by decide) rfl rfl rfl rfl rfl rfl)) (qOk_l (q_aload_n q115_83 rfl rfl))))
theorem qd115_10 : qOk (mtv 115) qc115_10 := by
  unfold qc115_10
  exact (qOk_b (qOk_b (qOk_l (q_get q115_84 rfl)) (qOk_l (q_get q115_87 rfl))) (qOk_b (qOk_l (q_iload_n q115_90 rfl rfl)) (qOk_l (q_iload q115_91 rfl))))
theorem qd115_11 : qOk (mtv 115) qc115_11 := by
  unfold qc115_11
  exact (qOk_b (qOk_b (qOk_l (q_bi q115_93 (fun lv x y r => by show _ = some (_, lv, .int (nMul x y) :: r); rw [nMul_eq]; rfl))) (qOk_l (q_ma q115_94 (by decide) rfl))) (qOk_b (qOk_l (q_cv q115_97 (by decide) rfl rfl rfl rfl rfl rfl)) (qOk_l (q_ri q115_100 rfl))))
theorem qd115_t0 : qOk (mtv 115) qc115_t0 := by
  unfold qc115_t0
  exact (qOk_b (qOk_b qd115_0 qd115_1) (qOk_b qd115_2 qd115_3))
theorem qd115_t1 : qOk (mtv 115) qc115_t1 := by
  unfold qc115_t1
  exact (qOk_b (qOk_b qd115_4 qd115_5) (qOk_b qd115_6 qd115_7))
theorem qd115_t2 : qOk (mtv 115) qc115_t2 := by
  unfold qc115_t2
  exact (qOk_b (qOk_b qd115_8 qd115_9) (qOk_b qd115_10 qd115_11))
theorem qd115_t3 : qOk (mtv 115) qc115_t3 := by
  unfold qc115_t3
  exact (qOk_b qd115_t0 (qOk_b qd115_t1 qd115_t2))
theorem qd115 : qOk (mtv 115) qc115 := qd115_t3
theorem qd116_0 : qOk (mtv 116) qc116_0 := by
  unfold qc116_0
  exact (qOk_b (qOk_b (qOk_l (q_pu q116_0 (fun _ _ => rfl))) (qOk_l q_sl)) (qOk_b (qOk_l (q_pu q116_3 (fun _ _ => rfl))) (qOk_l (q_istore q116_4 (Nat.le_of_ble_eq_true rfl) rfl))))
theorem qd116_1 : qOk (mtv 116) qc116_1 := by
  unfold qc116_1
  exact (qOk_b (qOk_b (qOk_l (q_iload q116_6 rfl)) (qOk_l (q_aload_n q116_8 rfl rfl))) (qOk_b (qOk_l (q_get q116_9 rfl)) (qOk_l (q_ic q116_12 rfl rfl))))
theorem qd116_2 : qOk (mtv 116) qc116_2 := by
  unfold qc116_2
  exact (qOk_b (qOk_b (qOk_l (q_pu q116_15 (fun _ _ => rfl))) (qOk_l (q_istore q116_16 (Nat.le_of_ble_eq_true rfl) rfl))) (qOk_b (qOk_l (q_iload q116_18 rfl)) (qOk_l (q_iload_n q116_20 rfl rfl))))
theorem qd116_3 : qOk (mtv 116) qc116_3 := by
  unfold qc116_3
  exact (qOk_b (qOk_b (qOk_l (q_ic q116_21 rfl rfl)) (qOk_l (q_iload_n q116_24 rfl rfl))) (qOk_b (qOk_l (q_iload q116_25 rfl)) (qOk_l (q_iload_n q116_27 rfl rfl))))
theorem qd116_4 : qOk (mtv 116) qc116_4 := by
  unfold qc116_4
  exact (qOk_b (qOk_b (qOk_l (q_bi q116_28 (fun lv x y r => by show _ = some (_, lv, .int (nMul x y) :: r); rw [nMul_eq]; rfl))) (qOk_l (q_bi q116_29 (fun lv x y r => by show _ = some (_, lv, .int (nAdd x y) :: r); rw [nAdd_eq]; rfl)))) (qOk_b (qOk_l (q_aload_n q116_30 rfl rfl)) (qOk_l (q_get q116_31 rfl))))
theorem qd116_5 : qOk (mtv 116) qc116_5 := by
  unfold qc116_5
  exact (qOk_b (qOk_b (qOk_l (q_ic q116_34 rfl rfl)) (qOk_l (q_lload q116_37 rfl))) (qOk_b (qOk_l (q_iload q116_39 rfl)) (qOk_l (q_iload_n q116_41 rfl rfl))))
theorem qd116_6 : qOk (mtv 116) qc116_6 := by
  unfold qc116_6
  exact (qOk_b (qOk_b (qOk_l (q_iload q116_42 rfl)) (qOk_l (q_iload_n q116_44 rfl rfl))) (qOk_b (qOk_l (q_bi q116_45 (fun lv x y r => by show _ = some (_, lv, .int (nMul x y) :: r); rw [nMul_eq]; rfl))) (qOk_l (q_bi q116_46 (fun lv x y r => by show _ = some (_, lv, .int (nAdd x y) :: r); rw [nAdd_eq]; rfl)))))
theorem qd116_7 : qOk (mtv 116) qc116_7 := by
  unfold qc116_7
  exact (qOk_b (qOk_b (qOk_l (q_cs q116_47 (by decide) rfl rfl rfl rfl rfl rfl)) (qOk_l (q_bl q116_50 (fun _ _ _ _ => rfl)))) (qOk_b (qOk_l q_sl) (qOk_l (q_inc q116_53 (Nat.le_of_ble_eq_true rfl) rfl rfl))))
theorem qd116_8 : qOk (mtv 116) qc116_8 := by
  unfold qc116_8
  exact (qOk_b (qOk_b (qOk_l (q_goto q116_56 rfl)) (qOk_l (q_inc q116_59 (Nat.le_of_ble_eq_true rfl) rfl rfl))) (qOk_b (qOk_l (q_goto q116_62 rfl)) (qOk_l (q_lload q116_65 rfl))))
theorem qd116_9 : qOk (mtv 116) qc116_9 := by
  unfold qc116_9
  exact (qOk_l q_sl)
theorem qd116_t0 : qOk (mtv 116) qc116_t0 := by
  unfold qc116_t0
  exact (qOk_b (qOk_b qd116_0 qd116_1) (qOk_b qd116_2 qd116_3))
theorem qd116_t1 : qOk (mtv 116) qc116_t1 := by
  unfold qc116_t1
  exact (qOk_b (qOk_b qd116_4 qd116_5) (qOk_b qd116_6 qd116_7))
theorem qd116_t2 : qOk (mtv 116) qc116_t2 := by
  unfold qc116_t2
  exact (qOk_b qd116_8 qd116_9)
theorem qd116_t3 : qOk (mtv 116) qc116_t3 := by
  unfold qc116_t3
  exact (qOk_b qd116_t0 (qOk_b qd116_t1 qd116_t2))
theorem qd116 : qOk (mtv 116) qc116 := qd116_t3
theorem qd209_0 : qOk (mtv 209) qc209_0 := by
  unfold qc209_0
  exact (qOk_b (qOk_l (q_aload_n q209_0 rfl rfl)) (qOk_b (qOk_l (q_get q209_1 rfl)) (qOk_l (q_ri q209_4 rfl))))
theorem qd209 : qOk (mtv 209) qc209 := qd209_0
theorem qd210_0 : qOk (mtv 210) qc210_0 := by
  unfold qc210_0
  exact (qOk_b (qOk_b (qOk_l (q_aload_n q210_0 rfl rfl)) (qOk_l (q_iload_n q210_1 rfl rfl))) (qOk_b (qOk_l (q_pu q210_2 (fun _ _ => rfl))) (qOk_l (q_pu q210_3 (fun _ _ => rfl)))))
theorem qd210_1 : qOk (mtv 210) qc210_1 := by
  unfold qc210_1
  exact (qOk_b (qOk_b (qOk_l (q_cs q210_5 (by decide) rfl rfl rfl rfl rfl rfl)) (qOk_l (q_if q210_8 rfl rfl))) (qOk_b (qOk_l (q_iload_n q210_11 rfl rfl)) (qOk_l (q_pu q210_12 (fun _ _ => rfl)))))
theorem qd210_2 : qOk (mtv 210) qc210_2 := by
  unfold qc210_2
  exact (qOk_b (qOk_b (qOk_l (q_pu q210_13 (fun _ _ => rfl))) (qOk_l (q_cs q210_15 (by decide) rfl rfl rfl rfl rfl rfl))) (qOk_b (qOk_l (q_if q210_18 rfl rfl)) (qOk_l (q_iload_n q210_21 rfl rfl))))
theorem qd210_3 : qOk (mtv 210) qc210_3 := by
  unfold qc210_3
  exact (qOk_b (qOk_b (qOk_l (q_pu q210_22 (fun _ _ => rfl))) (qOk_l (q_pu q210_23 (fun _ _ => rfl)))) (qOk_b (qOk_l (q_cs q210_24 (by decide) rfl rfl rfl rfl rfl rfl)) (qOk_l (q_if q210_27 rfl rfl))))
theorem qd210_4 : qOk (mtv 210) qc210_4 := by
  unfold qc210_4
  exact (qOk_b (qOk_b (qOk_l (q_pu q210_30 (fun _ _ => rfl))) (qOk_l (q_goto q210_31 rfl))) (qOk_b (qOk_l (q_aload_n q210_34 rfl rfl)) (qOk_l (q_get q210_35 rfl))))
theorem qd210_5 : qOk (mtv 210) qc210_5 := by
  unfold qc210_5
  exact (qOk_b (qOk_b (qOk_l (q_if q210_38 rfl rfl)) (qOk_l (q_aload_n q210_41 rfl rfl))) (qOk_b (qOk_l (q_get q210_42 rfl)) (qOk_l (q_if q210_45 rfl rfl))))
theorem qd210_6 : qOk (mtv 210) qc210_6 := by
  unfold qc210_6
  exact (qOk_b (qOk_b (qOk_l (q_pu q210_48 (fun _ _ => rfl))) (qOk_l (q_goto q210_49 rfl))) (qOk_b (qOk_l (q_pu q210_52 (fun _ _ => rfl))) (qOk_l q_sl)))
theorem qd210_7 : qOk (mtv 210) qc210_7 := by
  unfold qc210_7
  exact (qOk_b (qOk_b (qOk_l (q_aload_n q210_56 rfl rfl)) (qOk_l (q_get q210_57 rfl))) (qOk_b (qOk_l (q_if q210_60 rfl rfl)) (qOk_l (q_pu q210_63 (fun _ _ => rfl)))))
theorem qd210_8 : qOk (mtv 210) qc210_8 := by
  unfold qc210_8
  exact (qOk_b (qOk_b (qOk_l (q_ri q210_64 rfl)) (qOk_l (q_aload_n q210_65 rfl rfl))) (qOk_b (qOk_l (q_iload_n q210_66 rfl rfl)) (qOk_l q_sl)))
theorem qd210_9 : qOk (mtv 210) qc210_9 := by
  unfold qc210_9
  exact (qOk_b (qOk_b (qOk_l (q_aload_n q210_70 rfl rfl)) (qOk_l (q_iload_n q210_71 rfl rfl))) (qOk_b (qOk_l q_sl) (qOk_l (q_aload_n q210_75 rfl rfl))))
theorem qd210_10 : qOk (mtv 210) qc210_10 := by
  unfold qc210_10
  exact (qOk_b (qOk_b (qOk_l (q_iload_n q210_76 rfl rfl)) (qOk_l q_sl)) (qOk_b (qOk_l (q_aload_n q210_80 rfl rfl)) (qOk_l (q_pu q210_81 (fun _ _ => rfl)))))
theorem qd210_11 : qOk (mtv 210) qc210_11 := by
  unfold qc210_11
  exact (qOk_b (qOk_b (qOk_l q_sl) (qOk_l (q_pu q210_85 (fun _ _ => rfl)))) (qOk_b (qOk_l (q_istore q210_86 (Nat.le_of_ble_eq_true rfl) rfl)) (qOk_l (q_iload q210_88 rfl))))
theorem qd210_12 : qOk (mtv 210) qc210_12 := by
  unfold qc210_12
  exact (qOk_b (qOk_b (qOk_l (q_pu q210_90 (fun _ _ => rfl))) (qOk_l (q_ic q210_92 rfl rfl))) (qOk_b (qOk_l (q_aload_n q210_95 rfl rfl)) (qOk_l (q_get q210_96 rfl))))
theorem qd210_13 : qOk (mtv 210) qc210_13 := by
  unfold qc210_13
  exact (qOk_b (qOk_b (qOk_l (q_iload q210_99 rfl)) (qOk_l (q_pu q210_101 (fun _ _ => rfl)))) (qOk_b (qOk_l (q_ias q210_103 rfl)) (qOk_l (q_inc q210_104 (Nat.le_of_ble_eq_true rfl) rfl rfl))))
theorem qd210_14 : qOk (mtv 210) qc210_14 := by
  unfold qc210_14
  exact (qOk_b (qOk_b (qOk_l (q_goto q210_107 rfl)) (qOk_l (q_aload_n q210_110 rfl rfl))) (qOk_b (qOk_l (q_cv q210_111 (by decide) rfl rfl rfl rfl rfl rfl)) (qOk_l (q_ri q210_114 rfl))))
theorem qd210_t0 : qOk (mtv 210) qc210_t0 := by
  unfold qc210_t0
  exact (qOk_b (qOk_b qd210_0 qd210_1) (qOk_b qd210_2 qd210_3))
theorem qd210_t1 : qOk (mtv 210) qc210_t1 := by
  unfold qc210_t1
  exact (qOk_b (qOk_b qd210_4 qd210_5) (qOk_b qd210_6 qd210_7))
theorem qd210_t2 : qOk (mtv 210) qc210_t2 := by
  unfold qc210_t2
  exact (qOk_b (qOk_b qd210_8 qd210_9) (qOk_b qd210_10 qd210_11))
theorem qd210_t3 : qOk (mtv 210) qc210_t3 := by
  unfold qc210_t3
  exact (qOk_b qd210_12 (qOk_b qd210_13 qd210_14))
theorem qd210_t4 : qOk (mtv 210) qc210_t4 := by
  unfold qc210_t4
  exact (qOk_b (qOk_b qd210_t0 qd210_t1) (qOk_b qd210_t2 qd210_t3))
theorem qd210 : qOk (mtv 210) qc210 := qd210_t4
theorem qd211_0 : qOk (mtv 211) qc211_0 := by
  unfold qc211_0
  exact (qOk_b (qOk_b (qOk_l (q_iload_n q211_0 rfl rfl)) (qOk_l (q_iload_n q211_1 rfl rfl))) (qOk_b (qOk_l (q_ic q211_2 rfl rfl)) (qOk_l (q_iload_n q211_5 rfl rfl))))
theorem qd211_1 : qOk (mtv 211) qc211_1 := by
  unfold qc211_1
  exact (qOk_b (qOk_b (qOk_l (q_iload_n q211_6 rfl rfl)) (qOk_l (q_ic q211_7 rfl rfl))) (qOk_b (qOk_l (q_pu q211_10 (fun _ _ => rfl))) (qOk_l (q_goto q211_11 rfl))))
theorem qd211_2 : qOk (mtv 211) qc211_2 := by
  unfold qc211_2
  exact (qOk_b (qOk_l (q_pu q211_14 (fun _ _ => rfl))) (qOk_l (q_ri q211_15 rfl)))
theorem qd211_t0 : qOk (mtv 211) qc211_t0 := by
  unfold qc211_t0
  exact (qOk_b qd211_0 (qOk_b qd211_1 qd211_2))
theorem qd211 : qOk (mtv 211) qc211 := qd211_t0
theorem qd212_0 : qOk (mtv 212) qc212_0 := by
  unfold qc212_0
  exact (qOk_b (qOk_b (qOk_l (q_pu q212_0 (fun _ _ => rfl))) (qOk_l q_sl)) (qOk_b (qOk_l q_sl) (qOk_l (q_pu q212_5 (fun _ _ => rfl)))))
theorem qd212_1 : qOk (mtv 212) qc212_1 := by
  unfold qc212_1
  exact (qOk_b (qOk_b (qOk_l q_sl) (qOk_l q_sl)) (qOk_b (qOk_l (q_pu q212_10 (fun _ _ => rfl))) (qOk_l (q_istore_n q212_11 rfl (Nat.le_of_ble_eq_true rfl) rfl))))
theorem qd212_2 : qOk (mtv 212) qc212_2 := by
  unfold qc212_2
  exact (qOk_b (qOk_b (qOk_l (q_iload_n q212_12 rfl rfl)) (qOk_l (q_aload_n q212_13 rfl rfl))) (qOk_b (qOk_l (q_get q212_14 rfl)) (qOk_l (q_ic q212_17 rfl rfl))))
theorem qd212_3 : qOk (mtv 212) qc212_3 := by
  unfold qc212_3
  exact (qOk_b (qOk_b (qOk_l (q_aload_n q212_20 rfl rfl)) (qOk_l (q_iload_n q212_21 rfl rfl))) (qOk_b (qOk_l (q_aload_n q212_22 rfl rfl)) (qOk_l (q_get q212_23 rfl))))
theorem qd212_4 : qOk (mtv 212) qc212_4 := by
  unfold qc212_4
  exact (qOk_b (qOk_b (qOk_l (q_pu q212_26 (fun _ _ => rfl))) (qOk_l (q_ial q212_27 rfl))) (qOk_b (qOk_l (q_iload_n q212_28 rfl rfl)) (qOk_l (q_bi q212_29 (fun _ _ _ _ => rfl)))))
theorem qd212_5 : qOk (mtv 212) qc212_5 := by
  unfold qc212_5
  exact (qOk_b (qOk_b (qOk_l (q_pu q212_30 (fun _ _ => rfl))) (qOk_l (q_bi q212_31 (fun _ _ _ _ => rfl)))) (qOk_b (qOk_l (q_ias q212_32 rfl)) (qOk_l (q_inc q212_33 (Nat.le_of_ble_eq_true rfl) rfl rfl))))
theorem qd212_6 : qOk (mtv 212) qc212_6 := by
  unfold qc212_6
  exact (qOk_b (qOk_b (qOk_l (q_goto q212_36 rfl)) (qOk_l (q_pu q212_39 (fun _ _ => rfl)))) (qOk_b (qOk_l (q_istore_n q212_40 rfl (Nat.le_of_ble_eq_true rfl) rfl)) (qOk_l (q_iload_n q212_41 rfl rfl))))
theorem qd212_7 : qOk (mtv 212) qc212_7 := by
  unfold qc212_7
  exact (qOk_b (qOk_b (qOk_l (q_aload_n q212_42 rfl rfl)) (qOk_l (q_get q212_43 rfl))) (qOk_b (qOk_l (q_ic q212_46 rfl rfl)) (qOk_l (q_pu q212_49 (fun _ _ => rfl)))))
theorem qd212_8 : qOk (mtv 212) qc212_8 := by
  unfold qc212_8
  exact (qOk_b (qOk_b (qOk_l (q_istore q212_50 (Nat.le_of_ble_eq_true rfl) rfl)) (qOk_l (q_iload q212_52 rfl))) (qOk_b (qOk_l (q_aload_n q212_54 rfl rfl)) (qOk_l (q_get q212_55 rfl))))
theorem qd212_9 : qOk (mtv 212) qc212_9 := by
  unfold qc212_9
  exact (qOk_b (qOk_b (qOk_l (q_ic q212_58 rfl rfl)) (qOk_l (q_aload_n q212_61 rfl rfl))) (qOk_b (qOk_l (q_iload q212_62 rfl)) (qOk_l (q_pu q212_64 (fun _ _ => rfl)))))
theorem qd212_10 : qOk (mtv 212) qc212_10 := by
  unfold qc212_10
  exact (qOk_b (qOk_b (qOk_l (q_ias q212_65 rfl)) (qOk_l (q_pu q212_66 (fun _ _ => rfl)))) (qOk_b (qOk_l (q_istore q212_67 (Nat.le_of_ble_eq_true rfl) rfl)) (qOk_l (q_iload q212_69 rfl))))
theorem qd212_11 : qOk (mtv 212) qc212_11 := by
  unfold qc212_11
  exact (qOk_b (qOk_b (qOk_l (q_aload_n q212_71 rfl rfl)) (qOk_l (q_get q212_72 rfl))) (qOk_b (qOk_l (q_ic q212_75 rfl rfl)) (qOk_l (q_aload_n q212_78 rfl rfl))))
theorem qd212_12 : qOk (mtv 212) qc212_12 := by
  unfold qc212_12
  exact (qOk_b (qOk_b (qOk_l (q_iload q212_79 rfl)) (qOk_l (q_du2 q212_81 rfl))) (qOk_b (qOk_l (q_ial q212_82 rfl)) (qOk_l (q_iload q212_83 rfl))))
theorem qd212_13 : qOk (mtv 212) qc212_13 := by
  unfold qc212_13
  exact (qOk_b (qOk_b (qOk_l (q_iload q212_85 rfl)) (qOk_l (q_bi q212_87 (fun lv x y r => by show _ = some (_, lv, .int (nSub x y) :: r); rw [nSub_eq]; rfl)))) (qOk_b (qOk_l (q_cs q212_88 (by decide) rfl rfl rfl rfl rfl rfl)) (qOk_l (q_aload_n q212_91 rfl rfl))))
theorem qd212_14 : qOk (mtv 212) qc212_14 := by
  unfold qc212_14
  exact (qOk_b (qOk_b (qOk_l (q_get q212_92 rfl)) (qOk_l (q_ic q212_95 rfl rfl))) (qOk_b (qOk_l (q_aload_n q212_98 rfl rfl)) (qOk_l (q_get q212_99 rfl))))
theorem qd212_15 : qOk (mtv 212) qc212_15 := by
  unfold qc212_15
  exact (qOk_b (qOk_b (qOk_l (q_iload_n q212_102 rfl rfl)) (qOk_l (q_ial q212_103 rfl))) (qOk_b (qOk_l (q_iload q212_104 rfl)) (qOk_l (q_bi q212_106 (fun _ _ _ _ => rfl)))))
theorem qd212_16 : qOk (mtv 212) qc212_16 := by
  unfold qc212_16
  exact (qOk_b (qOk_b (qOk_l (q_pu q212_107 (fun _ _ => rfl))) (qOk_l (q_bi q212_108 (fun _ _ _ _ => rfl)))) (qOk_b (qOk_l (q_pu q212_109 (fun _ _ => rfl))) (qOk_l (q_ic q212_110 rfl rfl))))
theorem qd212_17 : qOk (mtv 212) qc212_17 := by
  unfold qc212_17
  exact (qOk_b (qOk_b (qOk_l (q_aload_n q212_113 rfl rfl)) (qOk_l (q_iload q212_114 rfl))) (qOk_b (qOk_l (q_ial q212_116 rfl)) (qOk_l (q_goto q212_117 rfl))))
theorem qd212_18 : qOk (mtv 212) qc212_18 := by
  unfold qc212_18
  exact (qOk_b (qOk_b (qOk_l (q_pu q212_120 (fun _ _ => rfl))) (qOk_l (q_bi q212_121 (fun lv x y r => by show _ = some (_, lv, .int (nAdd x y) :: r); rw [nAdd_eq]; rfl)))) (qOk_b (qOk_l (q_ias q212_122 rfl)) (qOk_l (q_inc q212_123 (Nat.le_of_ble_eq_true rfl) rfl rfl))))
theorem qd212_19 : qOk (mtv 212) qc212_19 := by
  unfold qc212_19
  exact (qOk_b (qOk_b (qOk_l (q_goto q212_126 rfl)) (qOk_l (q_inc q212_129 (Nat.le_of_ble_eq_true rfl) rfl rfl))) (qOk_b (qOk_l (q_goto q212_132 rfl)) (qOk_l (q_pu q212_135 (fun _ _ => rfl)))))
theorem qd212_20 : qOk (mtv 212) qc212_20 := by
  unfold qc212_20
  exact (qOk_b (qOk_b (qOk_l (q_istore q212_136 (Nat.le_of_ble_eq_true rfl) rfl)) (qOk_l (q_iload q212_138 rfl))) (qOk_b (qOk_l (q_aload_n q212_140 rfl rfl)) (qOk_l (q_get q212_141 rfl))))
theorem qd212_21 : qOk (mtv 212) qc212_21 := by
  unfold qc212_21
  exact (qOk_b (qOk_b (qOk_l (q_ic q212_144 rfl rfl)) (qOk_l (q_aload_n q212_147 rfl rfl))) (qOk_b (qOk_l (q_iload q212_148 rfl)) (qOk_l (q_aload_n q212_150 rfl rfl))))
theorem qd212_22 : qOk (mtv 212) qc212_22 := by
  unfold qc212_22
  exact (qOk_b (qOk_b (qOk_l (q_iload q212_151 rfl)) (qOk_l (q_ial q212_153 rfl))) (qOk_b (qOk_l (q_ias q212_154 rfl)) (qOk_l (q_inc q212_155 (Nat.le_of_ble_eq_true rfl) rfl rfl))))
theorem qd212_23 : qOk (mtv 212) qc212_23 := by
  unfold qc212_23
  exact (qOk_b (qOk_b (qOk_l (q_goto q212_158 rfl)) (qOk_l (q_inc q212_161 (Nat.le_of_ble_eq_true rfl) rfl rfl))) (qOk_b (qOk_l (q_goto q212_164 rfl)) (qOk_l (q_pu q212_167 (fun _ _ => rfl)))))
theorem qd212_24 : qOk (mtv 212) qc212_24 := by
  unfold qc212_24
  exact (qOk_b (qOk_b (qOk_l (q_istore_n q212_168 rfl (Nat.le_of_ble_eq_true rfl) rfl)) (qOk_l (q_pu q212_169 (fun _ _ => rfl)))) (qOk_b (qOk_l (q_istore q212_170 (Nat.le_of_ble_eq_true rfl) rfl)) (qOk_l (q_iload q212_172 rfl))))
theorem qd212_25 : qOk (mtv 212) qc212_25 := by
  unfold qc212_25
  exact (qOk_b (qOk_b (qOk_l (q_aload_n q212_174 rfl rfl)) (qOk_l (q_get q212_175 rfl))) (qOk_b (qOk_l (q_ic q212_178 rfl rfl)) (qOk_l (q_iload_n q212_181 rfl rfl))))
theorem qd212_26 : qOk (mtv 212) qc212_26 := by
  unfold qc212_26
  exact (qOk_b (qOk_b (qOk_l (q_aload_n q212_182 rfl rfl)) (qOk_l (q_iload q212_183 rfl))) (qOk_b (qOk_l (q_ial q212_185 rfl)) (qOk_l (q_bi q212_186 (fun lv x y r => by show _ = some (_, lv, .int (nAdd x y) :: r); rw [nAdd_eq]; rfl)))))
theorem qd212_27 : qOk (mtv 212) qc212_27 := by
  unfold qc212_27
  exact (qOk_b (qOk_b (qOk_l (q_istore_n q212_187 rfl (Nat.le_of_ble_eq_true rfl) rfl)) (qOk_l (q_inc q212_188 (Nat.le_of_ble_eq_true rfl) rfl rfl))) (qOk_b (qOk_l (q_goto q212_191 rfl)) (qOk_l (q_iload_n q212_194 rfl rfl))))
theorem qd212_28 : qOk (mtv 212) qc212_28 := by
  unfold qc212_28
  exact (qOk_l (q_ri q212_195 rfl))
theorem qd212_t0 : qOk (mtv 212) qc212_t0 := by
  unfold qc212_t0
  exact (qOk_b (qOk_b qd212_0 qd212_1) (qOk_b qd212_2 qd212_3))
theorem qd212_t1 : qOk (mtv 212) qc212_t1 := by
  unfold qc212_t1
  exact (qOk_b (qOk_b qd212_4 qd212_5) (qOk_b qd212_6 qd212_7))
theorem qd212_t2 : qOk (mtv 212) qc212_t2 := by
  unfold qc212_t2
  exact (qOk_b (qOk_b qd212_8 qd212_9) (qOk_b qd212_10 qd212_11))
theorem qd212_t3 : qOk (mtv 212) qc212_t3 := by
  unfold qc212_t3
  exact (qOk_b (qOk_b qd212_12 qd212_13) (qOk_b qd212_14 qd212_15))
theorem qd212_t4 : qOk (mtv 212) qc212_t4 := by
  unfold qc212_t4
  exact (qOk_b (qOk_b qd212_16 qd212_17) (qOk_b qd212_18 qd212_19))
theorem qd212_t5 : qOk (mtv 212) qc212_t5 := by
  unfold qc212_t5
  exact (qOk_b (qOk_b qd212_20 qd212_21) (qOk_b qd212_22 qd212_23))
theorem qd212_t6 : qOk (mtv 212) qc212_t6 := by
  unfold qc212_t6
  exact (qOk_b (qOk_b qd212_24 qd212_25) (qOk_b qd212_26 qd212_27))
theorem qd212_t7 : qOk (mtv 212) qc212_t7 := by
  unfold qc212_t7
  exact (qOk_b (qOk_b qd212_t0 qd212_t1) (qOk_b qd212_t2 qd212_t3))
theorem qd212_t8 : qOk (mtv 212) qc212_t8 := by
  unfold qc212_t8
  exact (qOk_b (qOk_b qd212_t4 qd212_t5) (qOk_b qd212_t6 qd212_28))
theorem qd212_t9 : qOk (mtv 212) qc212_t9 := by
  unfold qc212_t9
  exact (qOk_b qd212_t7 qd212_t8)
theorem qd212 : qOk (mtv 212) qc212 := qd212_t9
theorem qd213_0 : qOk (mtv 213) qc213_0 := by
  unfold qc213_0
  exact (qOk_b (qOk_b (qOk_l (q_iload_n q213_0 rfl rfl)) (qOk_l (q_if q213_1 rfl rfl))) (qOk_b (qOk_l (q_iload_n q213_4 rfl rfl)) (qOk_l (q_ne q213_5 rfl))))
theorem qd213_1 : qOk (mtv 213) qc213_1 := by
  unfold qc213_1
  exact (qOk_b (qOk_l (q_goto q213_6 rfl)) (qOk_b (qOk_l (q_iload_n q213_9 rfl rfl)) (qOk_l (q_ri q213_10 rfl))))
theorem qd213_t0 : qOk (mtv 213) qc213_t0 := by
  unfold qc213_t0
  exact (qOk_b qd213_0 qd213_1)
theorem qd213 : qOk (mtv 213) qc213 := qd213_t0
theorem qd256_0 : qOk (mtv 256) qc256_0 := by
  unfold qc256_0
  exact (qOk_b (qOk_b (qOk_l (q_aload_n q256_0 rfl rfl)) (qOk_l (q_iload_n q256_1 rfl rfl))) (qOk_b (qOk_l (q_pu q256_2 (fun _ _ => rfl))) (qOk_l (q_aload_n q256_3 rfl rfl))))
theorem qd256_1 : qOk (mtv 256) qc256_1 := by
  unfold qc256_1
  exact (qOk_b (qOk_b (qOk_l (q_get q256_4 rfl)) (qOk_l (q_pu q256_7 (fun _ _ => rfl)))) (qOk_b (qOk_l (q_bi q256_8 (fun lv x y r => by show _ = some (_, lv, .int (nSub x y) :: r); rw [nSub_eq]; rfl))) (qOk_l (q_cs q256_9 (by decide) rfl rfl rfl rfl rfl rfl))))
theorem qd256_2 : qOk (mtv 256) qc256_2 := by
  unfold qc256_2
  exact (qOk_b (qOk_b (qOk_l (q_if q256_12 rfl rfl)) (qOk_l (q_iload_n q256_15 rfl rfl))) (qOk_b (qOk_l (q_pu q256_16 (fun _ _ => rfl))) (qOk_l (q_pu q256_17 (fun _ _ => rfl)))))
theorem qd256_3 : qOk (mtv 256) qc256_3 := by
  unfold qc256_3
  exact (qOk_b (qOk_b (qOk_l (q_cs q256_18 (by decide) rfl rfl rfl rfl rfl rfl)) (qOk_l (q_if q256_21 rfl rfl))) (qOk_b (qOk_l (q_iload_n q256_24 rfl rfl)) (qOk_l (q_pu q256_25 (fun _ _ => rfl)))))
theorem qd256_4 : qOk (mtv 256) qc256_4 := by
  unfold qc256_4
  exact (qOk_b (qOk_b (qOk_l (q_pu q256_26 (fun _ _ => rfl))) (qOk_l (q_cs q256_28 (by decide) rfl rfl rfl rfl rfl rfl))) (qOk_b (qOk_l (q_if q256_31 rfl rfl)) (qOk_l (q_iload q256_34 rfl))))
theorem qd256_5 : qOk (mtv 256) qc256_5 := by
  unfold qc256_5
  exact (qOk_b (qOk_b (qOk_l (q_pu q256_36 (fun _ _ => rfl))) (qOk_l (q_pu q256_37 (fun _ _ => rfl)))) (qOk_b (qOk_l (q_cs q256_38 (by decide) rfl rfl rfl rfl rfl rfl)) (qOk_l (q_if q256_41 rfl rfl))))
theorem qd256_6 : qOk (mtv 256) qc256_6 := by
  unfold qc256_6
  exact (qOk_b (qOk_b (qOk_l (q_pu q256_44 (fun _ _ => rfl))) (qOk_l (q_goto q256_45 rfl))) (qOk_b (qOk_l (q_pu q256_48 (fun _ _ => rfl))) (qOk_l q_sl)))
theorem qd256_7 : qOk (mtv 256) qc256_7 := by
  unfold qc256_7
  exact (qOk_b (qOk_b (qOk_l (q_aload_n q256_52 rfl rfl)) (qOk_l (q_get q256_53 rfl))) (qOk_b (qOk_l (q_if q256_56 rfl rfl)) (qOk_l (q_pu q256_59 (fun _ _ => rfl)))))
theorem qd256_8 : qOk (mtv 256) qc256_8 := by
  unfold qc256_8
  exact (qOk_b (qOk_b (qOk_l (q_ri q256_60 rfl)) (qOk_l (q_pu q256_61 (fun _ _ => rfl)))) (qOk_b (qOk_l q_sl) (qOk_l q_sl)))
theorem qd256_9 : qOk (mtv 256) qc256_9 := by
  unfold qc256_9
  exact (qOk_b (qOk_b (qOk_l (q_pu q256_67 (fun _ _ => rfl))) (qOk_l q_sl)) (qOk_b (qOk_l q_sl) (qOk_l (q_pu q256_73 (fun _ _ => rfl)))))
theorem qd256_10 : qOk (mtv 256) qc256_10 := by
  unfold qc256_10
  exact (qOk_b (qOk_b (qOk_l (q_istore q256_74 (Nat.le_of_ble_eq_true rfl) rfl)) (qOk_l (q_iload q256_76 rfl))) (qOk_b (qOk_l (q_iload_n q256_78 rfl rfl)) (qOk_l (q_ic q256_79 rfl rfl))))
theorem qd256_11 : qOk (mtv 256) qc256_11 := by
  unfold qc256_11
  exact (qOk_b (qOk_b (qOk_l (q_aload q256_82 rfl)) (qOk_l (q_iload q256_84 rfl))) (qOk_b (qOk_l (q_iload_n q256_86 rfl rfl)) (qOk_l (q_iload q256_87 rfl))))
theorem qd256_12 : qOk (mtv 256) qc256_12 := by
  unfold qc256_12
  exact (qOk_b (qOk_b (qOk_l (q_iload_n q256_89 rfl rfl)) (qOk_l (q_bi q256_90 (fun lv x y r => by show _ = some (_, lv, .int (nMul x y) :: r); rw [nMul_eq]; rfl)))) (qOk_b (qOk_l (q_bi q256_91 (fun lv x y r => by show _ = some (_, lv, .int (nAdd x y) :: r); rw [nAdd_eq]; rfl))) (qOk_l (q_aload_n q256_92 rfl rfl))))
theorem qd256_13 : qOk (mtv 256) qc256_13 := by
  unfold qc256_13
  exact (qOk_b (qOk_b (qOk_l (q_get q256_93 rfl)) (qOk_l (q_ic q256_96 rfl rfl))) (qOk_b (qOk_l (q_pu q256_99 (fun _ _ => rfl))) (qOk_l (q_goto q256_100 rfl))))
theorem qd256_14 : qOk (mtv 256) qc256_14 := by
  unfold qc256_14
  exact (qOk_b (qOk_b (qOk_l (q_pu q256_103 (fun _ _ => rfl))) (qOk_l (q_ias q256_104 rfl))) (qOk_b (qOk_l (q_inc q256_105 (Nat.le_of_ble_eq_true rfl) rfl rfl)) (qOk_l (q_goto q256_108 rfl))))
theorem qd256_15 : qOk (mtv 256) qc256_15 := by
  unfold qc256_15
  exact (qOk_b (qOk_b (qOk_l (q_pu q256_111 (fun _ _ => rfl))) (qOk_l (q_istore q256_112 (Nat.le_of_ble_eq_true rfl) rfl))) (qOk_b (qOk_l (q_iload q256_114 rfl)) (qOk_l (q_aload_n q256_116 rfl rfl))))
theorem qd256_16 : qOk (mtv 256) qc256_16 := by
  unfold qc256_16
  exact (qOk_b (qOk_b (qOk_l (q_get q256_117 rfl)) (qOk_l (q_ic q256_120 rfl rfl))) (qOk_b (qOk_l (q_pu q256_123 (fun _ _ => rfl))) (qOk_l (q_istore q256_124 (Nat.le_of_ble_eq_true rfl) rfl))))
theorem qd256_17 : qOk (mtv 256) qc256_17 := by
  unfold qc256_17
  exact (qOk_b (qOk_b (qOk_l (q_iload q256_126 rfl)) (qOk_l (q_iload_n q256_128 rfl rfl))) (qOk_b (qOk_l (q_ic q256_129 rfl rfl)) (qOk_l (q_aload q256_132 rfl))))
theorem qd256_18 : qOk (mtv 256) qc256_18 := by
  unfold qc256_18
  exact (qOk_b (qOk_b (qOk_l (q_iload q256_134 rfl)) (qOk_l (q_pu q256_136 (fun _ _ => rfl)))) (qOk_b (qOk_l (q_ias q256_137 rfl)) (qOk_l (q_pu q256_138 (fun _ _ => rfl)))))
theorem qd256_19 : qOk (mtv 256) qc256_19 := by
  unfold qc256_19
  exact (qOk_b (qOk_b (qOk_l (q_istore q256_139 (Nat.le_of_ble_eq_true rfl) rfl)) (qOk_l (q_iload q256_141 rfl))) (qOk_b (qOk_l (q_iload_n q256_143 rfl rfl)) (qOk_l (q_ic q256_144 rfl rfl))))
theorem qd256_20 : qOk (mtv 256) qc256_20 := by
  unfold qc256_20
  exact (qOk_b (qOk_b (qOk_l (q_aload q256_147 rfl)) (qOk_l (q_iload q256_149 rfl))) (qOk_b (qOk_l (q_du2 q256_151 rfl)) (qOk_l (q_ial q256_152 rfl))))
theorem qd256_21 : qOk (mtv 256) qc256_21 := by
  unfold qc256_21
  exact (qOk_b (qOk_b (qOk_l (q_iload q256_153 rfl)) (qOk_l (q_iload q256_155 rfl))) (qOk_b (qOk_l (q_bi q256_157 (fun lv x y r => by show _ = some (_, lv, .int (nSub x y) :: r); rw [nSub_eq]; rfl))) (qOk_l (q_cs q256_158 (by decide) rfl rfl rfl rfl rfl rfl))))
theorem qd256_22 : qOk (mtv 256) qc256_22 := by
  unfold qc256_22
  exact (qOk_b (qOk_b (qOk_l (q_iload q256_161 rfl)) (qOk_l (q_ic q256_163 rfl rfl))) (qOk_b (qOk_l (q_iload_n q256_166 rfl rfl)) (qOk_l (q_iload q256_167 rfl))))
theorem qd256_23 : qOk (mtv 256) qc256_23 := by
  unfold qc256_23
  exact (qOk_b (qOk_b (qOk_l (q_iload q256_169 rfl)) (qOk_l (q_bi q256_171 (fun lv x y r => by show _ = some (_, lv, .int (nSub x y) :: r); rw [nSub_eq]; rfl)))) (qOk_b (qOk_l (q_cs q256_172 (by decide) rfl rfl rfl rfl rfl rfl)) (qOk_l (q_bi q256_175 (fun lv x y r => by show _ = some (_, lv, .int (nMul x y) :: r); rw [nMul_eq]; rfl)))))
theorem qd256_24 : qOk (mtv 256) qc256_24 := by
  unfold qc256_24
  exact (qOk_b (qOk_b (qOk_l (q_aload_n q256_176 rfl rfl)) (qOk_l (q_get q256_177 rfl))) (qOk_b (qOk_l (q_ic q256_180 rfl rfl)) (qOk_l (q_iload_n q256_183 rfl rfl))))
theorem qd256_25 : qOk (mtv 256) qc256_25 := by
  unfold qc256_25
  exact (qOk_b (qOk_b (qOk_l (q_iload q256_184 rfl)) (qOk_l (q_iload_n q256_186 rfl rfl))) (qOk_b (qOk_l (q_bi q256_187 (fun lv x y r => by show _ = some (_, lv, .int (nMul x y) :: r); rw [nMul_eq]; rfl))) (qOk_l (q_bi q256_188 (fun lv x y r => by show _ = some (_, lv, .int (nAdd x y) :: r); rw [nAdd_eq]; rfl)))))
theorem qd256_26 : qOk (mtv 256) qc256_26 := by
  unfold qc256_26
  exact (qOk_b (qOk_b (qOk_l (q_aload_n q256_189 rfl rfl)) (qOk_l (q_get q256_190 rfl))) (qOk_b (qOk_l (q_ic q256_193 rfl rfl)) (qOk_l (q_aload q256_196 rfl))))
theorem qd256_27 : qOk (mtv 256) qc256_27 := by
  unfold qc256_27
  exact (qOk_b (qOk_b (qOk_l (q_iload q256_198 rfl)) (qOk_l (q_ial q256_200 rfl))) (qOk_b (qOk_l (q_goto q256_201 rfl)) (qOk_l (q_pu q256_204 (fun _ _ => rfl)))))
theorem qd256_28 : qOk (mtv 256) qc256_28 := by
  unfold qc256_28
  exact (qOk_b (qOk_b (qOk_l (q_bi q256_205 (fun lv x y r => by show _ = some (_, lv, .int (nAdd x y) :: r); rw [nAdd_eq]; rfl))) (qOk_l (q_ias q256_206 rfl))) (qOk_b (qOk_l (q_inc q256_207 (Nat.le_of_ble_eq_true rfl) rfl rfl)) (qOk_l (q_goto q256_210 rfl))))
theorem qd256_29 : qOk (mtv 256) qc256_29 := by
  unfold qc256_29
  exact (qOk_b (qOk_b (qOk_l (q_inc q256_213 (Nat.le_of_ble_eq_true rfl) rfl rfl)) (qOk_l (q_goto q256_216 rfl))) (qOk_b (qOk_l (q_pu q256_219 (fun _ _ => rfl))) (qOk_l (q_istore q256_220 (Nat.le_of_ble_eq_true rfl) rfl))))
theorem qd256_30 : qOk (mtv 256) qc256_30 := by
  unfold qc256_30
  exact (qOk_b (qOk_b (qOk_l (q_iload q256_222 rfl)) (qOk_l (q_iload_n q256_224 rfl rfl))) (qOk_b (qOk_l (q_ic q256_225 rfl rfl)) (qOk_l (q_aload q256_228 rfl))))
theorem qd256_31 : qOk (mtv 256) qc256_31 := by
  unfold qc256_31
  exact (qOk_b (qOk_b (qOk_l (q_iload q256_230 rfl)) (qOk_l (q_aload q256_232 rfl))) (qOk_b (qOk_l (q_iload q256_234 rfl)) (qOk_l (q_ial q256_236 rfl))))
theorem qd256_32 : qOk (mtv 256) qc256_32 := by
  unfold qc256_32
  exact (qOk_b (qOk_b (qOk_l (q_ias q256_237 rfl)) (qOk_l (q_inc q256_238 (Nat.le_of_ble_eq_true rfl) rfl rfl))) (qOk_b (qOk_l (q_goto q256_241 rfl)) (qOk_l (q_inc q256_244 (Nat.le_of_ble_eq_true rfl) rfl rfl))))
theorem qd256_33 : qOk (mtv 256) qc256_33 := by
  unfold qc256_33
  exact (qOk_b (qOk_b (qOk_l (q_goto q256_247 rfl)) (qOk_l (q_pu q256_250 (fun _ _ => rfl)))) (qOk_b (qOk_l (q_istore q256_251 (Nat.le_of_ble_eq_true rfl) rfl)) (qOk_l (q_pu q256_253 (fun _ _ => rfl)))))
theorem qd256_34 : qOk (mtv 256) qc256_34 := by
  unfold qc256_34
  exact (qOk_b (qOk_b (qOk_l (q_istore q256_254 (Nat.le_of_ble_eq_true rfl) rfl)) (qOk_l (q_iload q256_256 rfl))) (qOk_b (qOk_l (q_iload_n q256_258 rfl rfl)) (qOk_l (q_ic q256_259 rfl rfl))))
theorem qd256_35 : qOk (mtv 256) qc256_35 := by
  unfold qc256_35
  exact (qOk_b (qOk_b (qOk_l (q_iload q256_262 rfl)) (qOk_l (q_aload q256_264 rfl))) (qOk_b (qOk_l (q_iload q256_266 rfl)) (qOk_l (q_ial q256_268 rfl))))
theorem qd256_36 : qOk (mtv 256) qc256_36 := by
  unfold qc256_36
  exact (qOk_b (qOk_b (qOk_l (q_bi q256_269 (fun lv x y r => by show _ = some (_, lv, .int (nAdd x y) :: r); rw [nAdd_eq]; rfl))) (qOk_l (q_istore q256_270 (Nat.le_of_ble_eq_true rfl) rfl))) (qOk_b (qOk_l (q_inc q256_272 (Nat.le_of_ble_eq_true rfl) rfl rfl)) (qOk_l (q_goto q256_275 rfl))))
theorem qd256_37 : qOk (mtv 256) qc256_37 := by
  unfold qc256_37
  exact (qOk_b (qOk_l (q_iload q256_278 rfl)) (qOk_l (q_ri q256_280 rfl)))
theorem qd256_t0 : qOk (mtv 256) qc256_t0 := by
  unfold qc256_t0
  exact (qOk_b (qOk_b qd256_0 qd256_1) (qOk_b qd256_2 qd256_3))
theorem qd256_t1 : qOk (mtv 256) qc256_t1 := by
  unfold qc256_t1
  exact (qOk_b (qOk_b qd256_4 qd256_5) (qOk_b qd256_6 qd256_7))
theorem qd256_t2 : qOk (mtv 256) qc256_t2 := by
  unfold qc256_t2
  exact (qOk_b (qOk_b qd256_8 qd256_9) (qOk_b qd256_10 qd256_11))
theorem qd256_t3 : qOk (mtv 256) qc256_t3 := by
  unfold qc256_t3
  exact (qOk_b (qOk_b qd256_12 qd256_13) (qOk_b qd256_14 qd256_15))
theorem qd256_t4 : qOk (mtv 256) qc256_t4 := by
  unfold qc256_t4
  exact (qOk_b (qOk_b qd256_16 qd256_17) (qOk_b qd256_18 qd256_19))
theorem qd256_t5 : qOk (mtv 256) qc256_t5 := by
  unfold qc256_t5
  exact (qOk_b (qOk_b qd256_20 qd256_21) (qOk_b qd256_22 qd256_23))
theorem qd256_t6 : qOk (mtv 256) qc256_t6 := by
  unfold qc256_t6
  exact (qOk_b (qOk_b qd256_24 qd256_25) (qOk_b qd256_26 qd256_27))
theorem qd256_t7 : qOk (mtv 256) qc256_t7 := by
  unfold qc256_t7
  exact (qOk_b (qOk_b qd256_28 qd256_29) (qOk_b qd256_30 qd256_31))
theorem qd256_t8 : qOk (mtv 256) qc256_t8 := by
  unfold qc256_t8
  exact (qOk_b (qOk_b qd256_32 qd256_33) (qOk_b qd256_34 qd256_35))
theorem qd256_t9 : qOk (mtv 256) qc256_t9 := by
  unfold qc256_t9
  exact (qOk_b qd256_36 qd256_37)
theorem qd256_t10 : qOk (mtv 256) qc256_t10 := by
  unfold qc256_t10
  exact (qOk_b (qOk_b qd256_t0 qd256_t1) (qOk_b qd256_t2 qd256_t3))
theorem qd256_t11 : qOk (mtv 256) qc256_t11 := by
  unfold qc256_t11
  exact (qOk_b (qOk_b qd256_t4 qd256_t5) (qOk_b qd256_t6 qd256_t7))
theorem qd256_t12 : qOk (mtv 256) qc256_t12 := by
  unfold qc256_t12
  exact (qOk_b qd256_t8 qd256_t9)
theorem qd256_t13 : qOk (mtv 256) qc256_t13 := by
  unfold qc256_t13
  exact (qOk_b qd256_t10 (qOk_b qd256_t11 qd256_t12))
theorem qd256 : qOk (mtv 256) qc256 := qd256_t13
def qTk (T : Nat → Option (Nat → Option qF)) : Prop := ∀ k C, T k = some C → qOk (mtv k) C
theorem qTk_l {k0 : Nat} {C : Nat → Option qF} (h : qOk (mtv k0) C) : qTk (fun k => bif Nat.beq k k0 then some C else none) := by
  intro k C' h'
  have h' : (bif Nat.beq k k0 then some C else none) = some C' := h'
  cases hb : Nat.beq k k0 with
  | true =>
    rw [hb] at h'
    cases h'
    rw [Nat.eq_of_beq_eq_true hb]
    exact h
  | false => rw [hb] at h'; cases h'
theorem qTk_b {c : Nat} {f g : Nat → Option (Nat → Option qF)} (hf : qTk f) (hg : qTk g) : qTk (fun k => bif Nat.blt k c then f k else g k) := by
  intro k C' h'
  have h' : (bif Nat.blt k c then f k else g k) = some C' := h'
  cases hb : Nat.blt k c with
  | true => rw [hb] at h'; exact hf k C' h'
  | false => rw [hb] at h'; exact hg k C' h'
theorem qT_ok : qTk qT := by
  unfold qT
  exact (qTk_b (qTk_b (qTk_b (qTk_b (qTk_l qd10) (qTk_l qd34)) (qTk_b (qTk_l qd35) (qTk_l qd36))) (qTk_b (qTk_b (qTk_l qd45) (qTk_l qd46)) (qTk_b (qTk_l qd47) (qTk_b (qTk_l qd48) (qTk_l qd49))))) (qTk_b (qTk_b (qTk_b (qTk_l qd114) (qTk_l qd115)) (qTk_b (qTk_l qd116) (qTk_l qd209))) (qTk_b (qTk_b (qTk_l qd210) (qTk_l qd211)) (qTk_b (qTk_l qd212) (qTk_b (qTk_l qd213) (qTk_l qd256))))))
