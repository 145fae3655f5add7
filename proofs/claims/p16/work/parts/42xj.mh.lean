/-! the law's two readers, 17: what is felt, both ways -/
/-- what the class's letters say of the past p -/
def dyX (I : Nat → Nat → Int) (p h t : Nat) (day : Int) : Int := if I (p + 2 + h) t = 0 then 300 else w32 (day - I (p + 10 + h) t)
def otX (I : Nat → Nat → Int) (p h t : Nat) : Int := if I (p + 2 + h) t = 0 then 0 else w32 (I (p + 8) h - I (p + 17 + h) t)
def tdI (I : Nat → Nat → Int) (p h t : Nat) (day : Int) : Nat → Nat → Int := up2 (up2 (up2 (up2 (up2 (up2 (up2 I 78 4 (I 14 t)) 78 7 (t : Int)) 78 8 day) 78 0 (I (p + 2 + h) t)) 78 1 (dyX I p h t day)) 78 2 (otX I p h t)) 78 3 (I (p + 8) h)
/-- what the reference's facts say of the first n answers -/
def flI (I : Nat → Nat → Int) (h t n : Nat) (day : Int) : Nat → Nat → Int := up2 (up2 (up2 (up2 (up2 (up2 (up2 I 174 0 (mny I h t n)) 174 1 (if mny I h t n = 0 then 300 else w32 (day - lsF I h t n))) 174 2 (if mny I h t n = 0 then 0 else snF I h t n)) 174 3 (alF I h n)) 174 4 (I 156 t)) 174 7 (t : Int)) 174 8 day
section
variable {d s h t : Nat} {T : Nat → Nat × Nat} {I J : Nat → Nat → Int} {R : Nat → Nat → Option Nat} {Q : Option AV → AH → Prop}
set_option maxHeartbeats 1000000 in
theorem x52 (hh : hp T R) {p : Nat} (hp2 : p = 31 ∨ p = 54) (h6 : h < 6) (t8 : t < 8) {day : Int} (hQ : Q none (185, s, T, tdI I p h t day, J, R)) : wpc codeT mX (d + 1) 52 [.inr (.inr (some 0)), .inl (h : Int), .inl (t : Int), .inr (.inr (some p)), .inl day] (185, s, T, I, J, R) Q := by
  have u1 : 0 ≤ (h : Int) ∧ (h : Int) < ((6 : Nat) : Int) := by omega
  have u2 : 0 ≤ (t : Int) ∧ (t : Int) < ((8 : Nat) : Int) := by omega
  unfold tdI dyX otX at hQ
  rcases hp2 with rfl | rfl
  · have nn : 33 + h ≠ 78 ∧ 41 + h ≠ 78 ∧ 48 + h ≠ 78 := by omega
    have u3 : 33 + h < 185 ∧ 41 + h < 185 ∧ 48 + h < 185 := by omega
    have hQ : Q none (185, s, T, up2 (up2 (up2 (up2 (up2 (up2 (up2 I 78 4 (I 14 t)) 78 7 (t : Int)) 78 8 day) 78 0 (I (33 + h) t)) 78 1 (if I (33 + h) t = 0 then 300 else w32 (day - I (41 + h) t))) 78 2 (if I (33 + h) t = 0 then 0 else w32 (I 39 h - I (48 + h) t))) 78 3 (I 39 h), J, R) := hQ
    by_cases h0 : I (33 + h) t = 0
    · rw [if_pos h0, if_pos h0] at hQ
      rw [h0] at hQ
      simp only [e52, s52_0, s52_1, s52_2, s52_3, s52_4, s52_5, s52_6, s52_7, s52_8, s52_9, s52_10, s52_11, s52_12, s52_13, s52_14, s52_15, s52_16, s52_17, s52_18, s52_19, s52_20, s52_21, s52_22, s52_23, s52_24, s52_25, s52_26, s52_27, s52_28, s52_29, s52_30, s52_31, s52_32, e53, s53_0, s53_1, s53_2, s53_3, s53_4, s53_5, s53_6, s53_7, s53_8, s53_9, s53_10, s53_11, s53_12, s53_13, s53_14, s53_15, e54, s54_0, s54_1, s54_2, s54_3, s54_4, s54_5, s54_6, s54_7, s54_8, s54_9, s54_10, s54_11, s54_12, s54_13, s54_14, s54_15, s54_16, s54_17, e55, s55_0, s55_1, s55_2, s55_3, s55_4, s55_5, s55_6, s55_7, s55_8, s55_9, s55_10, s55_11, s55_12, s55_13, s55_14, s55_15, s55_16, s55_17, s55_18, s55_19, s55_20, e56, s56_0, s56_1, s56_2, s56_3, s56_4, s56_5, s56_6, s56_7, s56_8, s56_9, s56_10, s56_11, s56_12, s56_13, s56_14, s56_15, s56_16, s56_17, s56_18, s56_19, s56_20, Option.toList_some, Option.toList_none, List.cons_append, List.nil_append, Nat.le_refl, true_and, and_true, true_or, or_true, false_or, or_false, true_implies, false_implies, implies_true, not_true_eq_false, not_false_eq_true, eq_self, Nat.reduceLT, Nat.reduceLeDiff, Nat.reduceEqDiff, Nat.reduceAdd, Nat.reduceSub, Int.reduceLT, Int.reduceLE, Int.reduceEq, Int.reduceNeg, Int.reduceNe, Int.reduceAdd, Int.reduceSub, Int.reduceMul, Int.reduceToNat, Int.toNat_zero, Int.toNat_one, Int.toNat_natCast, am_cats, am_cat, am_st1, am_st2, am_clr, up2_na, up2_nj, up2_same, List.getElem?_cons_zero, List.getElem?_cons_succ, List.set_cons_zero, List.set_cons_succ, ne_eq, i9, tk_0 hh, tk_3 hh, tk_14 hh, tk_31 hh, tk_32 hh, tk_39 hh, tk_77 hh, tk_78 hh, tg_33 hh h6, rk_0_6 hh, rk_0_9 hh, rk_3_2 hh, rk_31_0 hh, rk_31_1 hh, rk_77_0 hh, gk_32 hh h6, u1, u2, u3, nn, h0]
      exact hQ
    · rw [if_neg h0, if_neg h0] at hQ
      simp only [e52, s52_0, s52_1, s52_2, s52_3, s52_4, s52_5, s52_6, s52_7, s52_8, s52_9, s52_10, s52_11, s52_12, s52_13, s52_14, s52_15, s52_16, s52_17, s52_18, s52_19, s52_20, s52_21, s52_22, s52_23, s52_24, s52_25, s52_26, s52_27, s52_28, s52_29, s52_30, s52_31, s52_32, e53, s53_0, s53_1, s53_2, s53_3, s53_4, s53_5, s53_6, s53_7, s53_8, s53_9, s53_10, s53_11, s53_12, s53_13, s53_14, s53_15, e54, s54_0, s54_1, s54_2, s54_3, s54_4, s54_5, s54_6, s54_7, s54_8, s54_9, s54_10, s54_11, s54_12, s54_13, s54_14, s54_15, s54_16, s54_17, e55, s55_0, s55_1, s55_2, s55_3, s55_4, s55_5, s55_6, s55_7, s55_8, s55_9, s55_10, s55_11, s55_12, s55_13, s55_14, s55_15, s55_16, s55_17, s55_18, s55_19, s55_20, e56, s56_0, s56_1, s56_2, s56_3, s56_4, s56_5, s56_6, s56_7, s56_8, s56_9, s56_10, s56_11, s56_12, s56_13, s56_14, s56_15, s56_16, s56_17, s56_18, s56_19, s56_20, Option.toList_some, Option.toList_none, List.cons_append, List.nil_append, Nat.le_refl, true_and, and_true, true_or, or_true, false_or, or_false, true_implies, false_implies, implies_true, not_true_eq_false, not_false_eq_true, eq_self, Nat.reduceLT, Nat.reduceLeDiff, Nat.reduceEqDiff, Nat.reduceAdd, Nat.reduceSub, Int.reduceLT, Int.reduceLE, Int.reduceEq, Int.reduceNeg, Int.reduceNe, Int.reduceAdd, Int.reduceSub, Int.reduceMul, Int.reduceToNat, Int.toNat_zero, Int.toNat_one, Int.toNat_natCast, am_cats, am_cat, am_st1, am_st2, am_clr, up2_na, up2_nj, up2_same, List.getElem?_cons_zero, List.getElem?_cons_succ, List.set_cons_zero, List.set_cons_succ, ne_eq, i9, tk_0 hh, tk_3 hh, tk_14 hh, tk_31 hh, tk_32 hh, tk_39 hh, tk_40 hh, tk_47 hh, tk_77 hh, tk_78 hh, tg_33 hh h6, tg_41 hh h6, tg_48 hh h6, rk_0_6 hh, rk_0_9 hh, rk_3_2 hh, rk_31_0 hh, rk_31_1 hh, rk_31_2 hh, rk_31_3 hh, rk_77_0 hh, gk_32 hh h6, gk_40 hh h6, gk_47 hh h6, u1, u2, u3, nn, h0]
      exact hQ
  · have nn : 56 + h ≠ 78 ∧ 64 + h ≠ 78 ∧ 71 + h ≠ 78 := by omega
    have u3 : 56 + h < 185 ∧ 64 + h < 185 ∧ 71 + h < 185 := by omega
    have hQ : Q none (185, s, T, up2 (up2 (up2 (up2 (up2 (up2 (up2 I 78 4 (I 14 t)) 78 7 (t : Int)) 78 8 day) 78 0 (I (56 + h) t)) 78 1 (if I (56 + h) t = 0 then 300 else w32 (day - I (64 + h) t))) 78 2 (if I (56 + h) t = 0 then 0 else w32 (I 62 h - I (71 + h) t))) 78 3 (I 62 h), J, R) := hQ
    by_cases h0 : I (56 + h) t = 0
    · rw [if_pos h0, if_pos h0] at hQ
      rw [h0] at hQ
      simp only [e52, s52_0, s52_1, s52_2, s52_3, s52_4, s52_5, s52_6, s52_7, s52_8, s52_9, s52_10, s52_11, s52_12, s52_13, s52_14, s52_15, s52_16, s52_17, s52_18, s52_19, s52_20, s52_21, s52_22, s52_23, s52_24, s52_25, s52_26, s52_27, s52_28, s52_29, s52_30, s52_31, s52_32, e53, s53_0, s53_1, s53_2, s53_3, s53_4, s53_5, s53_6, s53_7, s53_8, s53_9, s53_10, s53_11, s53_12, s53_13, s53_14, s53_15, e54, s54_0, s54_1, s54_2, s54_3, s54_4, s54_5, s54_6, s54_7, s54_8, s54_9, s54_10, s54_11, s54_12, s54_13, s54_14, s54_15, s54_16, s54_17, e55, s55_0, s55_1, s55_2, s55_3, s55_4, s55_5, s55_6, s55_7, s55_8, s55_9, s55_10, s55_11, s55_12, s55_13, s55_14, s55_15, s55_16, s55_17, s55_18, s55_19, s55_20, e56, s56_0, s56_1, s56_2, s56_3, s56_4, s56_5, s56_6, s56_7, s56_8, s56_9, s56_10, s56_11, s56_12, s56_13, s56_14, s56_15, s56_16, s56_17, s56_18, s56_19, s56_20, Option.toList_some, Option.toList_none, List.cons_append, List.nil_append, Nat.le_refl, true_and, and_true, true_or, or_true, false_or, or_false, true_implies, false_implies, implies_true, not_true_eq_false, not_false_eq_true, eq_self, Nat.reduceLT, Nat.reduceLeDiff, Nat.reduceEqDiff, Nat.reduceAdd, Nat.reduceSub, Int.reduceLT, Int.reduceLE, Int.reduceEq, Int.reduceNeg, Int.reduceNe, Int.reduceAdd, Int.reduceSub, Int.reduceMul, Int.reduceToNat, Int.toNat_zero, Int.toNat_one, Int.toNat_natCast, am_cats, am_cat, am_st1, am_st2, am_clr, up2_na, up2_nj, up2_same, List.getElem?_cons_zero, List.getElem?_cons_succ, List.set_cons_zero, List.set_cons_succ, ne_eq, i9, tk_0 hh, tk_3 hh, tk_14 hh, tk_54 hh, tk_55 hh, tk_62 hh, tk_77 hh, tk_78 hh, tg_56 hh h6, rk_0_6 hh, rk_0_9 hh, rk_3_2 hh, rk_54_0 hh, rk_54_1 hh, rk_77_0 hh, gk_55 hh h6, u1, u2, u3, nn, h0]
      exact hQ
    · rw [if_neg h0, if_neg h0] at hQ
      simp only [e52, s52_0, s52_1, s52_2, s52_3, s52_4, s52_5, s52_6, s52_7, s52_8, s52_9, s52_10, s52_11, s52_12, s52_13, s52_14, s52_15, s52_16, s52_17, s52_18, s52_19, s52_20, s52_21, s52_22, s52_23, s52_24, s52_25, s52_26, s52_27, s52_28, s52_29, s52_30, s52_31, s52_32, e53, s53_0, s53_1, s53_2, s53_3, s53_4, s53_5, s53_6, s53_7, s53_8, s53_9, s53_10, s53_11, s53_12, s53_13, s53_14, s53_15, e54, s54_0, s54_1, s54_2, s54_3, s54_4, s54_5, s54_6, s54_7, s54_8, s54_9, s54_10, s54_11, s54_12, s54_13, s54_14, s54_15, s54_16, s54_17, e55, s55_0, s55_1, s55_2, s55_3, s55_4, s55_5, s55_6, s55_7, s55_8, s55_9, s55_10, s55_11, s55_12, s55_13, s55_14, s55_15, s55_16, s55_17, s55_18, s55_19, s55_20, e56, s56_0, s56_1, s56_2, s56_3, s56_4, s56_5, s56_6, s56_7, s56_8, s56_9, s56_10, s56_11, s56_12, s56_13, s56_14, s56_15, s56_16, s56_17, s56_18, s56_19, s56_20, Option.toList_some, Option.toList_none, List.cons_append, List.nil_append, Nat.le_refl, true_and, and_true, true_or, or_true, false_or, or_false, true_implies, false_implies, implies_true, not_true_eq_false, not_false_eq_true, eq_self, Nat.reduceLT, Nat.reduceLeDiff, Nat.reduceEqDiff, Nat.reduceAdd, Nat.reduceSub, Int.reduceLT, Int.reduceLE, Int.reduceEq, Int.reduceNeg, Int.reduceNe, Int.reduceAdd, Int.reduceSub, Int.reduceMul, Int.reduceToNat, Int.toNat_zero, Int.toNat_one, Int.toNat_natCast, am_cats, am_cat, am_st1, am_st2, am_clr, up2_na, up2_nj, up2_same, List.getElem?_cons_zero, List.getElem?_cons_succ, List.set_cons_zero, List.set_cons_succ, ne_eq, i9, tk_0 hh, tk_3 hh, tk_14 hh, tk_54 hh, tk_55 hh, tk_62 hh, tk_63 hh, tk_70 hh, tk_77 hh, tk_78 hh, tg_56 hh h6, tg_64 hh h6, tg_71 hh h6, rk_0_6 hh, rk_0_9 hh, rk_3_2 hh, rk_54_0 hh, rk_54_1 hh, rk_54_2 hh, rk_54_3 hh, rk_77_0 hh, gk_55 hh h6, gk_63 hh h6, gk_70 hh h6, u1, u2, u3, nn, h0]
      exact hQ
theorem fl_loop (hh : hp T R) (t8 : t < 8) {N : Nat} (hN2 : N ≤ 200) {day : Int} (hQ : Q none (185, s, T, flI I h t N day, J, R)) : ∀ (r i : Nat), i + r = N → wp codeT mX d 165 10 [some (.inr (.inr (some 152))), some (.inl (h : Int)), some (.inl (t : Int)), some (.inl (N : Int)), some (.inl day), some (.inl (mny I h t i)), some (.inl (lsF I h t i)), some (.inl (snF I h t i)), some (.inl (alF I h i)), some (.inl (i : Int))] [] (185, s, T, I, J, R) Q := by
  intro r
  induction r with
  | zero =>
    intro i hi
    have hi : i = N := by omega
    subst hi
    have u2 : 0 ≤ (t : Int) ∧ (t : Int) < ((8 : Nat) : Int) := by omega
    unfold flI at hQ
    refine s165_10.mpr ?_
    by_cases h0 : mny I h t i = 0
    · rw [if_pos h0, if_pos h0, h0] at hQ
      simp only [s165_11, s165_12, s165_48, s165_49, s165_50, s165_51, s165_52, s165_53, s165_54, s165_55, s165_56, s165_57, s165_58, s165_59, s165_60, s165_61, s165_62, s165_63, s165_64, s165_65, s165_66, s165_67, s165_68, s165_69, s165_70, s165_71, s165_72, s165_73, s165_74, s165_75, s165_76, s165_77, s165_78, s165_79, s165_80, s165_81, s165_82, s165_83, s165_84, s165_85, s165_86, s165_87, s165_88, s165_89, s165_90, s165_91, s165_92, s165_93, s165_94, s165_95, s165_96, Option.toList_some, Option.toList_none, List.cons_append, List.nil_append, Nat.le_refl, true_and, and_true, true_or, or_true, false_or, or_false, true_implies, false_implies, implies_true, not_true_eq_false, not_false_eq_true, eq_self, Nat.reduceLT, Nat.reduceLeDiff, Nat.reduceEqDiff, Nat.reduceAdd, Nat.reduceSub, Int.reduceLT, Int.reduceLE, Int.reduceEq, Int.reduceNeg, Int.reduceNe, Int.reduceAdd, Int.reduceSub, Int.reduceMul, Int.reduceToNat, Int.toNat_zero, Int.toNat_one, Int.toNat_natCast, am_cats, am_cat, am_st1, am_st2, am_clr, up2_na, up2_nj, up2_same, List.getElem?_cons_zero, List.getElem?_cons_succ, List.set_cons_zero, List.set_cons_succ, ne_eq, i9, tk_152 hh, tk_156 hh, tk_174 hh, rk_152_37 hh, rk_152_10 hh, Int.lt_irrefl, u2, h0]
      exact hQ
    · rw [if_neg h0, if_neg h0] at hQ
      simp only [s165_11, s165_12, s165_48, s165_49, s165_50, s165_51, s165_52, s165_53, s165_54, s165_55, s165_56, s165_57, s165_58, s165_59, s165_60, s165_61, s165_62, s165_63, s165_64, s165_65, s165_66, s165_67, s165_68, s165_69, s165_70, s165_71, s165_72, s165_73, s165_74, s165_75, s165_76, s165_77, s165_78, s165_79, s165_80, s165_81, s165_82, s165_83, s165_84, s165_85, s165_86, s165_87, s165_88, s165_89, s165_90, s165_91, s165_92, s165_93, s165_94, s165_95, s165_96, Option.toList_some, Option.toList_none, List.cons_append, List.nil_append, Nat.le_refl, true_and, and_true, true_or, or_true, false_or, or_false, true_implies, false_implies, implies_true, not_true_eq_false, not_false_eq_true, eq_self, Nat.reduceLT, Nat.reduceLeDiff, Nat.reduceEqDiff, Nat.reduceAdd, Nat.reduceSub, Int.reduceLT, Int.reduceLE, Int.reduceEq, Int.reduceNeg, Int.reduceNe, Int.reduceAdd, Int.reduceSub, Int.reduceMul, Int.reduceToNat, Int.toNat_zero, Int.toNat_one, Int.toNat_natCast, am_cats, am_cat, am_st1, am_st2, am_clr, up2_na, up2_nj, up2_same, List.getElem?_cons_zero, List.getElem?_cons_succ, List.set_cons_zero, List.set_cons_succ, ne_eq, i9, tk_152 hh, tk_156 hh, tk_174 hh, rk_152_37 hh, rk_152_10 hh, Int.lt_irrefl, u2, h0]
      exact hQ
  | succ r ih =>
    intro i hi
    have b1 := mny_bd I h t i
    have b2 := alF_bd I h i
    have b3 := snF_bd I h t i
    have nx : wp codeT mX d 165 10 [some (.inr (.inr (some 152))), some (.inl (h : Int)), some (.inl (t : Int)), some (.inl (N : Int)), some (.inl day), some (.inl (mny I h t i + (if I 157 i = h ∧ I 158 i = t then 1 else 0))), some (.inl (if I 157 i = h ∧ I 158 i = t then I 159 i else lsF I h t i)), some (.inl (if I 157 i = h then (if I 158 i = t then 0 else snF I h t i + 1) else snF I h t i)), some (.inl (alF I h i + (if I 157 i = h then 1 else 0))), some (.inl ((i + 1 : Nat) : Int))] [] (185, s, T, I, J, R) Q := ih (i + 1) (by omega)
    have u1 : (i : Int) < (N : Int) := by omega
    have u2 : 0 ≤ (i : Int) ∧ (i : Int) < ((200 : Nat) : Int) := by omega
    have i2 : i ≤ 1080 := by omega
    have w1 : w32 (mny I h t i + 1) = mny I h t i + 1 := w32_eq (by omega) (by omega)
    have w2 : w32 (alF I h i + 1) = alF I h i + 1 := w32_eq (by clear w1; omega) (by clear w1; omega)
    have w3 : w32 (snF I h t i + 1) = snF I h t i + 1 := w32_eq (by clear w1 w2; omega) (by clear w1 w2; omega)
    refine s165_10.mpr ?_
    by_cases e1 : I 157 i = h
    · by_cases e2 : I 158 i = t
      · rw [if_pos ⟨e1, e2⟩, if_pos ⟨e1, e2⟩, if_pos e1, if_pos e2, if_pos e1] at nx
        simp only [s165_11, s165_12, s165_13, s165_14, s165_15, s165_16, s165_17, s165_18, s165_19, s165_20, s165_21, s165_22, s165_23, s165_24, s165_25, s165_26, s165_27, s165_28, s165_29, s165_30, s165_31, s165_32, s165_33, s165_34, s165_35, s165_36, s165_37, s165_38, s165_39, s165_40, s165_41, s165_42, s165_43, s165_44, s165_45, s165_46, s165_47, Option.toList_some, Option.toList_none, List.cons_append, List.nil_append, Nat.le_refl, true_and, and_true, true_or, or_true, false_or, or_false, true_implies, false_implies, implies_true, not_true_eq_false, not_false_eq_true, eq_self, Nat.reduceLT, Nat.reduceLeDiff, Nat.reduceEqDiff, Nat.reduceAdd, Nat.reduceSub, Int.reduceLT, Int.reduceLE, Int.reduceEq, Int.reduceNeg, Int.reduceNe, Int.reduceAdd, Int.reduceSub, Int.reduceMul, Int.reduceToNat, Int.toNat_zero, Int.toNat_one, Int.toNat_natCast, am_cats, am_cat, am_st1, am_st2, am_clr, up2_na, up2_nj, up2_same, List.getElem?_cons_zero, List.getElem?_cons_succ, List.set_cons_zero, List.set_cons_succ, ne_eq, tk_152 hh, tk_157 hh, tk_158 hh, tk_159 hh, rk_152_11 hh, rk_152_12 hh, rk_152_13 hh, u1, u2, e1, e2, w1, w2, w3, w32_s i2]
        exact nx
      · rw [if_neg (fun z => e2 z.2), if_neg (fun z => e2 z.2), if_pos e1, if_neg e2, if_pos e1, Int.add_zero] at nx
        simp only [s165_11, s165_12, s165_13, s165_14, s165_15, s165_16, s165_17, s165_18, s165_19, s165_20, s165_21, s165_22, s165_23, s165_24, s165_25, s165_26, s165_27, s165_28, s165_29, s165_30, s165_31, s165_32, s165_33, s165_34, s165_35, s165_36, s165_37, s165_38, s165_39, s165_40, s165_41, s165_42, s165_43, s165_44, s165_45, s165_46, s165_47, Option.toList_some, Option.toList_none, List.cons_append, List.nil_append, Nat.le_refl, true_and, and_true, true_or, or_true, false_or, or_false, true_implies, false_implies, implies_true, not_true_eq_false, not_false_eq_true, eq_self, Nat.reduceLT, Nat.reduceLeDiff, Nat.reduceEqDiff, Nat.reduceAdd, Nat.reduceSub, Int.reduceLT, Int.reduceLE, Int.reduceEq, Int.reduceNeg, Int.reduceNe, Int.reduceAdd, Int.reduceSub, Int.reduceMul, Int.reduceToNat, Int.toNat_zero, Int.toNat_one, Int.toNat_natCast, am_cats, am_cat, am_st1, am_st2, am_clr, up2_na, up2_nj, up2_same, List.getElem?_cons_zero, List.getElem?_cons_succ, List.set_cons_zero, List.set_cons_succ, ne_eq, tk_152 hh, tk_157 hh, tk_158 hh, tk_159 hh, rk_152_11 hh, rk_152_12 hh, rk_152_13 hh, u1, u2, e1, e2, w1, w2, w3, w32_s i2]
        exact nx
    · rw [if_neg (fun z => e1 z.1), if_neg (fun z => e1 z.1), if_neg e1, if_neg e1, Int.add_zero, Int.add_zero] at nx
      simp only [s165_11, s165_12, s165_13, s165_14, s165_15, s165_16, s165_17, s165_18, s165_19, s165_20, s165_21, s165_22, s165_23, s165_24, s165_25, s165_26, s165_27, s165_28, s165_29, s165_30, s165_31, s165_32, s165_33, s165_34, s165_35, s165_36, s165_37, s165_38, s165_39, s165_40, s165_41, s165_42, s165_43, s165_44, s165_45, s165_46, s165_47, Option.toList_some, Option.toList_none, List.cons_append, List.nil_append, Nat.le_refl, true_and, and_true, true_or, or_true, false_or, or_false, true_implies, false_implies, implies_true, not_true_eq_false, not_false_eq_true, eq_self, Nat.reduceLT, Nat.reduceLeDiff, Nat.reduceEqDiff, Nat.reduceAdd, Nat.reduceSub, Int.reduceLT, Int.reduceLE, Int.reduceEq, Int.reduceNeg, Int.reduceNe, Int.reduceAdd, Int.reduceSub, Int.reduceMul, Int.reduceToNat, Int.toNat_zero, Int.toNat_one, Int.toNat_natCast, am_cats, am_cat, am_st1, am_st2, am_clr, up2_na, up2_nj, up2_same, List.getElem?_cons_zero, List.getElem?_cons_succ, List.set_cons_zero, List.set_cons_succ, ne_eq, tk_152 hh, tk_157 hh, tk_158 hh, tk_159 hh, rk_152_11 hh, rk_152_12 hh, rk_152_13 hh, u1, u2, e1, w1, w2, w3, w32_s i2]
      exact nx
theorem x165 (hh : hp T R) (t8 : t < 8) {N : Nat} (hN2 : N ≤ 200) {day : Int} (hQ : Q none (185, s, T, flI I h t N day, J, R)) : wpc codeT mX d 165 [.inr (.inr (some 152)), .inl (h : Int), .inl (t : Int), .inl (N : Int), .inl day] (185, s, T, I, J, R) Q := by
  have go := fl_loop (d := d) (s := s) (J := J) hh t8 hN2 hQ N 0 (Nat.zero_add _)
  simp only [s165_0, s165_1, s165_2, s165_3, s165_4, s165_5, s165_6, s165_7, s165_8, s165_9, e165, Option.toList_some, Option.toList_none, List.cons_append, List.nil_append, Nat.le_refl, true_and, and_true, true_or, or_true, false_or, or_false, true_implies, false_implies, implies_true, not_true_eq_false, not_false_eq_true, eq_self, Nat.reduceLT, Nat.reduceLeDiff, Nat.reduceEqDiff, Nat.reduceAdd, Nat.reduceSub, Int.reduceLT, Int.reduceLE, Int.reduceEq, Int.reduceNeg, Int.reduceNe, Int.reduceAdd, Int.reduceSub, Int.reduceMul, Int.reduceToNat, Int.toNat_zero, Int.toNat_one, Int.toNat_natCast, am_cats, am_cat, am_st1, am_st2, am_clr, up2_na, up2_nj, up2_same, List.getElem?_cons_zero, List.getElem?_cons_succ, List.set_cons_zero, List.set_cons_succ, ne_eq]
  exact go
/-- a store's share of a doing, folded -/
def hvX (G U : Nat → Int) (mode : Int) : Nat → Int
  | 0 => if mode = 0 then 100 else 0
  | k + 1 => if 0 < U k then (if mode = 0 then (if G k < hvX G U mode k then G k else hvX G U mode k) else (if hvX G U mode k < G k then G k else hvX G U mode k)) else hvX G U mode k
def hvM (G U : Nat → Int) (mode : Int) : Nat → Int
  | 0 => -1
  | k + 1 => if U k = 0 then hvM G U mode k else if hvM G U mode k = -1 ∨ (mode = 0 ∧ G k < hvM G U mode k ∨ ¬ mode = 0 ∧ hvM G U mode k < G k) then G k else hvM G U mode k
theorem hv_eq {G U : Nat → Int} {mode : Int} {n : Nat} (hG : ∀ k, k < n → 0 ≤ G k ∧ G k ≤ 100) (hU : ∀ k, k < n → 0 ≤ U k) : ∀ m, m ≤ n → (hvX G U mode m = (if mode = 0 then 100 else 0) ∧ hvM G U mode m = -1 ∧ ∀ k, k < m → U k = 0) ∨ (hvX G U mode m = hvM G U mode m ∧ 0 ≤ hvX G U mode m)
  | 0, _ => Or.inl ⟨rfl, rfl, fun k hk => absurd hk (Nat.not_lt_zero _)⟩
  | m + 1, hm => by
    have ih := hv_eq (mode := mode) hG hU m (by omega)
    have g := hG m (by omega)
    have u := hU m (by omega)
    rw [hvX, hvM]
    by_cases u0 : U m = 0
    · rw [if_neg (by omega), if_pos u0]
      rcases ih with ⟨a, b, c⟩ | ih
      · refine Or.inl ⟨a, b, fun k hk => ?_⟩
        by_cases z : k = m
        · rw [z]
          exact u0
        · exact c k (by omega)
      · exact Or.inr ih
    · rw [if_pos (by omega), if_neg u0]
      refine Or.inr ?_
      by_cases m0 : mode = 0
      · rw [if_pos m0]
        rcases ih with ⟨a, b, c⟩ | ⟨a, b⟩
        · rw [if_pos m0] at a
          rw [a, b, if_pos (Or.inl rfl)]
          split <;> omega
        · rw [← a]
          by_cases z : G m < hvX G U mode m
          · rw [if_pos z, if_pos (Or.inr (Or.inl ⟨m0, z⟩))]
            omega
          · rw [if_neg z, if_neg (by omega)]
            exact ⟨rfl, b⟩
      · rw [if_neg m0]
        rcases ih with ⟨a, b, c⟩ | ⟨a, b⟩
        · rw [if_neg m0] at a
          rw [a, b, if_pos (Or.inl rfl)]
          split <;> omega
        · rw [← a]
          by_cases z : hvX G U mode m < G m
          · rw [if_pos z, if_pos (Or.inr (Or.inr ⟨m0, z⟩))]
            omega
          · rw [if_neg z, if_neg (by omega)]
            exact ⟨rfl, b⟩
theorem gvF_b {v sh : Int} (h1 : 0 ≤ v ∧ v ≤ 100) (h2 : 0 ≤ sh ∧ sh ≤ 100) : 0 ≤ gvF v sh ∧ gvF v sh ≤ 100 := by
  have m0 : 0 ≤ v * sh := Int.mul_nonneg h1.1 h2.1
  have m1 : v * sh ≤ 100 * 100 := Int.mul_le_mul h1.2 h2.2 h2.1 (by decide)
  unfold gvF
  generalize v * sh = z at *
  rw [w32_eq (z := z) (by omega) (by omega), Int.tdiv_eq_ediv_of_nonneg m0, w32_eq (by omega) (by omega)]
  omega
/-- class: the stores one by one -/
theorem hx_loop (hh : hp T R) (h6 : h < 6) (t8 : t < 8) {n : Nat} (n6 : n ≤ 6) {mode : Int} {F U S V : Nat → Int} {l3 l4 : Option AV} (hn : I 0 1 = n) (hU : ∀ k, k < 6 → I (5 + t) k = U k) (hS : ∀ k, k < 6 → I (88 + h) k = S k) (hg : ∀ k, k < n → 0 < U k → lwG I R k (ftK F (U k) (S k)) (V k)) (hQ : ∀ I2, frW I I2 → Q (some (.inl (hvX (fun k => gvF (V k) (S k)) U mode n))) (185, s, T, I2, J, R)) : ∀ (r k : Nat), k + r = n → ∀ (I1 : Nat → Nat → Int) (l8 : Option AV), frW I I1 → (∀ v, v < 9 → v ≠ 5 → v ≠ 6 → I1 78 v = F v) → wp codeT mX (d + 5) 68 24 [some (.inr (.inr (some 0))), some (.inl (h : Int)), some (.inl (t : Int)), l3, l4, some (.inl (if mode = 0 then 1 else 0)), some (.inl (hvX (fun k => gvF (V k) (S k)) U mode k)), some (.inl (k : Int)), l8] [] (185, s, T, I1, J, R) Q := by
  intro r
  induction r with
  | zero =>
    intro k hk I1 l8 hf hF
    have hk : k = n := by omega
    subst hk
    have e1 : I1 0 1 = k := (frW_lo hf (by decide)).trans hn
    have fin := hQ I1 hf
    refine s68_24.mpr ?_
    simp only [s68_25, s68_26, s68_27, s68_54, s68_55, Option.toList_some, Option.toList_none, List.cons_append, List.nil_append, Nat.le_refl, true_and, and_true, true_or, or_true, false_or, or_false, true_implies, false_implies, implies_true, not_true_eq_false, not_false_eq_true, eq_self, Nat.reduceLT, Nat.reduceLeDiff, Nat.reduceEqDiff, Nat.reduceAdd, Nat.reduceSub, Int.reduceLT, Int.reduceLE, Int.reduceEq, Int.reduceNeg, Int.reduceNe, Int.reduceAdd, Int.reduceSub, Int.reduceMul, Int.reduceToNat, Int.toNat_zero, Int.toNat_one, Int.toNat_natCast, am_cats, am_cat, am_st1, am_st2, am_clr, up2_na, up2_nj, up2_same, List.getElem?_cons_zero, List.getElem?_cons_succ, List.set_cons_zero, List.set_cons_succ, ne_eq, tk_0 hh, e1, Int.lt_irrefl]
    exact fin
  | succ r ih =>
    intro k hk I1 l8 hf hF
    have hkn : k < n := by omega
    have e1 : I1 0 1 = n := (frW_lo hf (by decide)).trans hn
    have e2 : I1 (5 + t) k = U k := (frW_lo hf (by omega)).trans (hU k (by omega))
    have e3 : I1 (88 + h) k = S k := (hf _ _ (by omega) (by omega) (by omega) (fun q' hq' => by have := (show ∀ q, q ∈ lawIds → q = 81 ∨ 116 ≤ q by decide) q' hq'; exact ⟨by omega, fun z => by omega⟩)).trans (hS k (by omega))
    have u1 : (k : Int) < (n : Int) := by omega
    have u2 : 0 ≤ (t : Int) ∧ (t : Int) < ((8 : Nat) : Int) := by omega
    have u3 : 0 ≤ (k : Int) ∧ (k : Int) < ((6 : Nat) : Int) := by omega
    have u4 : 5 + t < 185 := by omega
    have i2 : k ≤ 1080 := by omega
    by_cases z : 0 < U k
    · have nx := fun l8 I2 hf2 hF2 => ih (k + 1) (by omega) I2 l8 hf2 hF2
      rw [hvX, if_pos z] at nx
      have go : wpc codeT mX (d + 4) 57 [.inr (.inr (some 0)), .inl (h : Int), .inl (t : Int), .inl (k : Int)] (185, s, T, I1, J, R) (fun v h1 => (185 ≤ h1.1 ∧ s ≤ h1.2.1) ∧ wp codeT mX (d + 5) 68 41 [some (.inr (.inr (some 0))), some (.inl (h : Int)), some (.inl (t : Int)), l3, l4, some (.inl (if mode = 0 then 1 else 0)), some (.inl (hvX (fun k => gvF (V k) (S k)) U mode k)), some (.inl (k : Int)), l8] (v.toList ++ []) h1 Q) := by
        refine x57 hh h6 t8 (by omega) e2 e3 hF (lwG_fr hf (hg k hkn z)) (fun I2 f2 hF2 => ⟨⟨Nat.le_refl _, Nat.le_refl _⟩, ?_⟩)
        have nx := fun l8 => nx l8 I2 (frW_tr hf f2) hF2
        by_cases m0 : mode = 0
        · rw [if_pos m0, if_pos m0] at nx
          rw [if_pos m0]
          simp only [s68_41, s68_42, s68_43, s68_44, s68_45, s68_46, s68_47, s68_51, s68_52, s68_53, Option.toList_some, Option.toList_none, List.cons_append, List.nil_append, Nat.le_refl, true_and, and_true, true_or, or_true, false_or, or_false, true_implies, false_implies, implies_true, not_true_eq_false, not_false_eq_true, eq_self, Nat.reduceLT, Nat.reduceLeDiff, Nat.reduceEqDiff, Nat.reduceAdd, Nat.reduceSub, Int.reduceLT, Int.reduceLE, Int.reduceEq, Int.reduceNeg, Int.reduceNe, Int.reduceAdd, Int.reduceSub, Int.reduceMul, Int.reduceToNat, Int.toNat_zero, Int.toNat_one, Int.toNat_natCast, am_cats, am_cat, am_st1, am_st2, am_clr, up2_na, up2_nj, up2_same, List.getElem?_cons_zero, List.getElem?_cons_succ, List.set_cons_zero, List.set_cons_succ, ne_eq, k212, w32_s i2]
          exact nx _
        · rw [if_neg m0, if_neg m0] at nx
          rw [if_neg m0]
          simp only [s68_41, s68_42, s68_43, s68_48, s68_49, s68_50, s68_51, s68_52, s68_53, Option.toList_some, Option.toList_none, List.cons_append, List.nil_append, Nat.le_refl, true_and, and_true, true_or, or_true, false_or, or_false, true_implies, false_implies, implies_true, not_true_eq_false, not_false_eq_true, eq_self, Nat.reduceLT, Nat.reduceLeDiff, Nat.reduceEqDiff, Nat.reduceAdd, Nat.reduceSub, Int.reduceLT, Int.reduceLE, Int.reduceEq, Int.reduceNeg, Int.reduceNe, Int.reduceAdd, Int.reduceSub, Int.reduceMul, Int.reduceToNat, Int.toNat_zero, Int.toNat_one, Int.toNat_natCast, am_cats, am_cat, am_st1, am_st2, am_clr, up2_na, up2_nj, up2_same, List.getElem?_cons_zero, List.getElem?_cons_succ, List.set_cons_zero, List.set_cons_succ, ne_eq, k211, w32_s i2]
          exact nx _
      refine s68_24.mpr ?_
      simp only [s68_25, s68_26, s68_27, s68_28, s68_29, s68_30, s68_31, s68_32, s68_33, s68_34, s68_35, s68_36, s68_37, s68_38, s68_39, s68_40, Option.toList_some, Option.toList_none, List.cons_append, List.nil_append, Nat.le_refl, true_and, and_true, true_or, or_true, false_or, or_false, true_implies, false_implies, implies_true, not_true_eq_false, not_false_eq_true, eq_self, Nat.reduceLT, Nat.reduceLeDiff, Nat.reduceEqDiff, Nat.reduceAdd, Nat.reduceSub, Int.reduceLT, Int.reduceLE, Int.reduceEq, Int.reduceNeg, Int.reduceNe, Int.reduceAdd, Int.reduceSub, Int.reduceMul, Int.reduceToNat, Int.toNat_zero, Int.toNat_one, Int.toNat_natCast, am_cats, am_cat, am_st1, am_st2, am_clr, up2_na, up2_nj, up2_same, List.getElem?_cons_zero, List.getElem?_cons_succ, List.set_cons_zero, List.set_cons_succ, ne_eq, tk_0 hh, tk_3 hh, tk_4 hh, tg_5 hh t8, rk_0_6 hh, rk_3_0 hh, gk_4 hh t8, e1, e2, u1, u2, u3, u4, z]
      exact go
    · have nx := fun l8 => ih (k + 1) (by omega) I1 l8 hf hF
      rw [hvX, if_neg z] at nx
      refine s68_24.mpr ?_
      simp only [s68_25, s68_26, s68_27, s68_28, s68_29, s68_30, s68_31, s68_32, s68_33, s68_34, s68_35, s68_52, s68_53, Option.toList_some, Option.toList_none, List.cons_append, List.nil_append, Nat.le_refl, true_and, and_true, true_or, or_true, false_or, or_false, true_implies, false_implies, implies_true, not_true_eq_false, not_false_eq_true, eq_self, Nat.reduceLT, Nat.reduceLeDiff, Nat.reduceEqDiff, Nat.reduceAdd, Nat.reduceSub, Int.reduceLT, Int.reduceLE, Int.reduceEq, Int.reduceNeg, Int.reduceNe, Int.reduceAdd, Int.reduceSub, Int.reduceMul, Int.reduceToNat, Int.toNat_zero, Int.toNat_one, Int.toNat_natCast, am_cats, am_cat, am_st1, am_st2, am_clr, up2_na, up2_nj, up2_same, List.getElem?_cons_zero, List.getElem?_cons_succ, List.set_cons_zero, List.set_cons_succ, ne_eq, tk_0 hh, tk_3 hh, tk_4 hh, tg_5 hh t8, rk_0_6 hh, rk_3_0 hh, gk_4 hh t8, e1, e2, u1, u2, u3, u4, z, w32_s i2]
      exact nx _
/-- reference: the stores one by one -/
theorem hm_loop (hh : hp T R) (h6 : h < 6) (t8 : t < 8) {n : Nat} (n6 : n ≤ 6) {mode : Int} {F U S V : Nat → Int} {l3 : Option AV} {dy : Int} (hn : I 152 1 = n) (hmo : I 155 t = mode) (hU : ∀ k, k < 6 → I 154 (6 * t + k) = U k) (hS : ∀ k, k < 6 → I 153 (6 * h + k) = S k) (hg : ∀ k, k < n → ¬ U k = 0 → lwG I R k (ftK F (U k) (S k)) (V k)) (hQ : ∀ I2, frW I I2 → Q (some (.inl (hvM (fun k => gvF (V k) (S k)) U mode n))) (185, s, T, I2, J, R)) : ∀ (r k : Nat), k + r = n → ∀ (I1 : Nat → Nat → Int) (l7 : Option AV), frW I I1 → (∀ v, v < 9 → v ≠ 5 → v ≠ 6 → I1 174 v = F v) → wp codeT mX (d + 4) 171 10 [some (.inr (.inr (some 152))), some (.inl (h : Int)), some (.inl (t : Int)), l3, some (.inl dy), some (.inl (hvM (fun k => gvF (V k) (S k)) U mode k)), some (.inl (k : Int)), l7] [] (185, s, T, I1, J, R) Q := by
  have z1 : (6 : Int) * (t : Int) = ((6 * t : Nat) : Int) := by omega
  have w1 := w32_c z1 (by omega)
  intro r
  induction r with
  | zero =>
    intro k hk I1 l7 hf hF
    have hk : k = n := by clear w1; omega
    subst hk
    have e1 : I1 152 1 = k := (frW_hi hf (by decide) (by decide) (by decide)).trans hn
    have fin := hQ I1 hf
    refine s171_10.mpr ?_
    simp only [s171_11, s171_12, s171_13, s171_49, s171_50, Option.toList_some, Option.toList_none, List.cons_append, List.nil_append, Nat.le_refl, true_and, and_true, true_or, or_true, false_or, or_false, true_implies, false_implies, implies_true, not_true_eq_false, not_false_eq_true, eq_self, Nat.reduceLT, Nat.reduceLeDiff, Nat.reduceEqDiff, Nat.reduceAdd, Nat.reduceSub, Int.reduceLT, Int.reduceLE, Int.reduceEq, Int.reduceNeg, Int.reduceNe, Int.reduceAdd, Int.reduceSub, Int.reduceMul, Int.reduceToNat, Int.toNat_zero, Int.toNat_one, Int.toNat_natCast, am_cats, am_cat, am_st1, am_st2, am_clr, up2_na, up2_nj, up2_same, List.getElem?_cons_zero, List.getElem?_cons_succ, List.set_cons_zero, List.set_cons_succ, ne_eq, tk_152 hh, e1, Int.lt_irrefl]
    exact fin
  | succ r ih =>
    intro k hk I1 l7 hf hF
    have hkn : k < n := by clear w1; omega
    have k6 : k < 6 := by clear w1; omega
    have e1 : I1 152 1 = n := (frW_hi hf (by decide) (by decide) (by decide)).trans hn
    have e2 : I1 154 (6 * t + k) = U k := (frW_hi hf (by decide) (by decide) (by decide)).trans (hU k k6)
    have e3 : I1 153 (6 * h + k) = S k := (frW_hi hf (by decide) (by decide) (by decide)).trans (hS k k6)
    have u1 : (k : Int) < (n : Int) := by clear w1; omega
    have z2 : ((6 * t : Nat) : Int) + (k : Int) = ((6 * t + k : Nat) : Int) := by clear w1; omega
    have u3 : 0 ≤ ((6 * t + k : Nat) : Int) ∧ ((6 * t + k : Nat) : Int) < ((48 : Nat) : Int) := by clear w1; omega
    have u4 : 0 ≤ (t : Int) ∧ (t : Int) < ((8 : Nat) : Int) := by clear w1; omega
    have i2 : k ≤ 1080 := by clear w1; omega
    have n1 : k + 1 + r = n := by clear w1; omega
    have w2 := w32_c z2 (by clear w1; omega)
    by_cases z : U k = 0
    · have nx := fun l7 => ih (k + 1) n1 I1 l7 hf hF
      rw [hvM, if_pos z] at nx
      rw [z] at e2
      refine s171_10.mpr ?_
      simp only [s171_11, s171_12, s171_13, s171_14, s171_15, s171_16, s171_17, s171_18, s171_19, s171_20, s171_21, s171_22, s171_23, s171_47, s171_48, Option.toList_some, Option.toList_none, List.cons_append, List.nil_append, Nat.le_refl, true_and, and_true, true_or, or_true, false_or, or_false, true_implies, false_implies, implies_true, not_true_eq_false, not_false_eq_true, eq_self, Nat.reduceLT, Nat.reduceLeDiff, Nat.reduceEqDiff, Nat.reduceAdd, Nat.reduceSub, Int.reduceLT, Int.reduceLE, Int.reduceEq, Int.reduceNeg, Int.reduceNe, Int.reduceAdd, Int.reduceSub, Int.reduceMul, Int.reduceToNat, Int.toNat_zero, Int.toNat_one, Int.toNat_natCast, am_cats, am_cat, am_st1, am_st2, am_clr, up2_na, up2_nj, up2_same, List.getElem?_cons_zero, List.getElem?_cons_succ, List.set_cons_zero, List.set_cons_succ, ne_eq, tk_152 hh, tk_154 hh, rk_152_8 hh, e1, e2, u1, u3, w1, w2, w32_s i2]
      exact nx _
    · have nx := fun l7 I2 hf2 hF2 => ih (k + 1) n1 I2 l7 hf2 hF2
      rw [hvM, if_neg z] at nx
      have go : wpc codeT mX (d + 3) 166 [.inr (.inr (some 152)), .inl (h : Int), .inl (t : Int), .inl (k : Int)] (185, s, T, I1, J, R) (fun v h1 => (185 ≤ h1.1 ∧ s ≤ h1.2.1) ∧ wp codeT mX (d + 4) 171 29 [some (.inr (.inr (some 152))), some (.inl (h : Int)), some (.inl (t : Int)), l3, some (.inl dy), some (.inl (hvM (fun k => gvF (V k) (S k)) U mode k)), some (.inl (k : Int)), l7] (v.toList ++ []) h1 Q) := by
        refine x166 hh h6 t8 k6 e2 e3 hF (lwG_fr hf (hg k hkn z)) (fun I2 f2 hF2 => ⟨⟨Nat.le_refl _, Nat.le_refl _⟩, ?_⟩)
        have nx := fun l7 => nx l7 I2 (frW_tr hf f2) hF2
        have e5 : I2 155 t = mode := (frW_hi (frW_tr hf f2) (by decide) (by decide) (by decide)).trans hmo
        generalize hv0 : hvM (fun k => gvF (V k) (S k)) U mode k = v0 at *
        by_cases c0 : v0 = -1
        · rw [if_pos (Or.inl c0)] at nx
          simp only [s171_29, s171_30, s171_31, s171_32, s171_45, s171_46, s171_47, s171_48, Option.toList_some, Option.toList_none, List.cons_append, List.nil_append, Nat.le_refl, true_and, and_true, true_or, or_true, false_or, or_false, true_implies, false_implies, implies_true, not_true_eq_false, not_false_eq_true, eq_self, Nat.reduceLT, Nat.reduceLeDiff, Nat.reduceEqDiff, Nat.reduceAdd, Nat.reduceSub, Int.reduceLT, Int.reduceLE, Int.reduceEq, Int.reduceNeg, Int.reduceNe, Int.reduceAdd, Int.reduceSub, Int.reduceMul, Int.reduceToNat, Int.toNat_zero, Int.toNat_one, Int.toNat_natCast, am_cats, am_cat, am_st1, am_st2, am_clr, up2_na, up2_nj, up2_same, List.getElem?_cons_zero, List.getElem?_cons_succ, List.set_cons_zero, List.set_cons_succ, ne_eq, c0, w32_s i2]
          exact nx _
        · by_cases m0 : mode = 0
          · by_cases c1 : gvF (V k) (S k) < v0
            · rw [if_pos (Or.inr (Or.inl ⟨m0, c1⟩))] at nx
              simp only [s171_29, s171_30, s171_31, s171_32, s171_33, s171_34, s171_35, s171_36, s171_37, s171_38, s171_39, s171_40, s171_41, s171_42, s171_43, s171_44, s171_45, s171_46, s171_47, s171_48, Option.toList_some, Option.toList_none, List.cons_append, List.nil_append, Nat.le_refl, true_and, and_true, true_or, or_true, false_or, or_false, true_implies, false_implies, implies_true, not_true_eq_false, not_false_eq_true, eq_self, Nat.reduceLT, Nat.reduceLeDiff, Nat.reduceEqDiff, Nat.reduceAdd, Nat.reduceSub, Int.reduceLT, Int.reduceLE, Int.reduceEq, Int.reduceNeg, Int.reduceNe, Int.reduceAdd, Int.reduceSub, Int.reduceMul, Int.reduceToNat, Int.toNat_zero, Int.toNat_one, Int.toNat_natCast, am_cats, am_cat, am_st1, am_st2, am_clr, up2_na, up2_nj, up2_same, List.getElem?_cons_zero, List.getElem?_cons_succ, List.set_cons_zero, List.set_cons_succ, ne_eq, tk_152 hh, tk_155 hh, rk_152_9 hh, c0, c1, e5, m0, u4, w32_s i2]
              exact nx _
            · rw [if_neg (fun q => q.elim c0 (fun q => q.elim (fun q => c1 q.2) (fun q => q.1 m0)))] at nx
              simp only [s171_29, s171_30, s171_31, s171_32, s171_33, s171_34, s171_35, s171_36, s171_37, s171_38, s171_39, s171_40, s171_41, s171_42, s171_43, s171_44, s171_45, s171_46, s171_47, s171_48, Option.toList_some, Option.toList_none, List.cons_append, List.nil_append, Nat.le_refl, true_and, and_true, true_or, or_true, false_or, or_false, true_implies, false_implies, implies_true, not_true_eq_false, not_false_eq_true, eq_self, Nat.reduceLT, Nat.reduceLeDiff, Nat.reduceEqDiff, Nat.reduceAdd, Nat.reduceSub, Int.reduceLT, Int.reduceLE, Int.reduceEq, Int.reduceNeg, Int.reduceNe, Int.reduceAdd, Int.reduceSub, Int.reduceMul, Int.reduceToNat, Int.toNat_zero, Int.toNat_one, Int.toNat_natCast, am_cats, am_cat, am_st1, am_st2, am_clr, up2_na, up2_nj, up2_same, List.getElem?_cons_zero, List.getElem?_cons_succ, List.set_cons_zero, List.set_cons_succ, ne_eq, tk_152 hh, tk_155 hh, rk_152_9 hh, c0, c1, e5, m0, u4, w32_s i2]
              exact nx _
          · by_cases c1 : v0 < gvF (V k) (S k)
            · rw [if_pos (Or.inr (Or.inr ⟨m0, c1⟩))] at nx
              simp only [s171_29, s171_30, s171_31, s171_32, s171_33, s171_34, s171_35, s171_36, s171_37, s171_38, s171_39, s171_40, s171_41, s171_42, s171_43, s171_44, s171_45, s171_46, s171_47, s171_48, Option.toList_some, Option.toList_none, List.cons_append, List.nil_append, Nat.le_refl, true_and, and_true, true_or, or_true, false_or, or_false, true_implies, false_implies, implies_true, not_true_eq_false, not_false_eq_true, eq_self, Nat.reduceLT, Nat.reduceLeDiff, Nat.reduceEqDiff, Nat.reduceAdd, Nat.reduceSub, Int.reduceLT, Int.reduceLE, Int.reduceEq, Int.reduceNeg, Int.reduceNe, Int.reduceAdd, Int.reduceSub, Int.reduceMul, Int.reduceToNat, Int.toNat_zero, Int.toNat_one, Int.toNat_natCast, am_cats, am_cat, am_st1, am_st2, am_clr, up2_na, up2_nj, up2_same, List.getElem?_cons_zero, List.getElem?_cons_succ, List.set_cons_zero, List.set_cons_succ, ne_eq, tk_152 hh, tk_155 hh, rk_152_9 hh, c0, c1, e5, m0, u4, w32_s i2]
              exact nx _
            · rw [if_neg (fun q => q.elim c0 (fun q => q.elim (fun q => m0 q.1) (fun q => c1 q.2)))] at nx
              simp only [s171_29, s171_30, s171_31, s171_32, s171_33, s171_34, s171_35, s171_36, s171_37, s171_38, s171_39, s171_40, s171_41, s171_42, s171_43, s171_44, s171_45, s171_46, s171_47, s171_48, Option.toList_some, Option.toList_none, List.cons_append, List.nil_append, Nat.le_refl, true_and, and_true, true_or, or_true, false_or, or_false, true_implies, false_implies, implies_true, not_true_eq_false, not_false_eq_true, eq_self, Nat.reduceLT, Nat.reduceLeDiff, Nat.reduceEqDiff, Nat.reduceAdd, Nat.reduceSub, Int.reduceLT, Int.reduceLE, Int.reduceEq, Int.reduceNeg, Int.reduceNe, Int.reduceAdd, Int.reduceSub, Int.reduceMul, Int.reduceToNat, Int.toNat_zero, Int.toNat_one, Int.toNat_natCast, am_cats, am_cat, am_st1, am_st2, am_clr, up2_na, up2_nj, up2_same, List.getElem?_cons_zero, List.getElem?_cons_succ, List.set_cons_zero, List.set_cons_succ, ne_eq, tk_152 hh, tk_155 hh, rk_152_9 hh, c0, c1, e5, m0, u4, w32_s i2]
              exact nx _
      refine s171_10.mpr ?_
      simp only [s171_11, s171_12, s171_13, s171_14, s171_15, s171_16, s171_17, s171_18, s171_19, s171_20, s171_21, s171_22, s171_23, s171_24, s171_25, s171_26, s171_27, s171_28, Option.toList_some, Option.toList_none, List.cons_append, List.nil_append, Nat.le_refl, true_and, and_true, true_or, or_true, false_or, or_false, true_implies, false_implies, implies_true, not_true_eq_false, not_false_eq_true, eq_self, Nat.reduceLT, Nat.reduceLeDiff, Nat.reduceEqDiff, Nat.reduceAdd, Nat.reduceSub, Int.reduceLT, Int.reduceLE, Int.reduceEq, Int.reduceNeg, Int.reduceNe, Int.reduceAdd, Int.reduceSub, Int.reduceMul, Int.reduceToNat, Int.toNat_zero, Int.toNat_one, Int.toNat_natCast, am_cats, am_cat, am_st1, am_st2, am_clr, up2_na, up2_nj, up2_same, List.getElem?_cons_zero, List.getElem?_cons_succ, List.set_cons_zero, List.set_cons_succ, ne_eq, tk_152 hh, tk_154 hh, rk_152_8 hh, e1, e2, u1, u3, w1, w2, z]
      exact go
end
