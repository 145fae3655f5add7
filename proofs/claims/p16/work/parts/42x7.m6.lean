/-! the law's two readers, 6: the reference's reader, its small methods -/
theorem mdl_hp {T : Nat → Nat × Nat} {R : Nat → Nat → Option Nat} (hh : hp T R) : mdl T R := ⟨hh.1, fun j i hb hj => hh.2 152 j i (by decide) (by rw [show (tT.getD 152 (0, 0)).2 = 53 from by decide]; exact hj) hb⟩
def RB (X : Nat → Int) (n : Nat) (l : List (Int × Int)) : Prop := ∀ j, j < l.length → X (n + j) = 1048576 * (l.getD j (0, 0)).1 + (l.getD j (0, 0)).2
theorem RB_app {X : Nat → Int} {n : Nat} {l1 l2 : List (Int × Int)} (h1 : RB X n l1) (h2 : RB X (n + l1.length) l2) : RB X n (l1 ++ l2) := by
  intro j hj
  rw [List.length_append] at hj
  by_cases h : j < l1.length
  · rw [show (l1 ++ l2).getD j (0, 0) = l1.getD j (0, 0) by rw [List.getD_eq_getElem?_getD, List.getD_eq_getElem?_getD, List.getElem?_append_left h]]
    exact h1 j h
  · rw [show (l1 ++ l2).getD j (0, 0) = l2.getD (j - l1.length) (0, 0) by rw [List.getD_eq_getElem?_getD, List.getD_eq_getElem?_getD, List.getElem?_append_right (by omega)]]
    have := h2 (j - l1.length) (by omega)
    rw [show n + l1.length + (j - l1.length) = n + j by omega] at this
    exact this
theorem RB_cg {X X1 : Nat → Int} {n : Nat} {l : List (Int × Int)} (h : RB X n l) (he : ∀ j, j < n + l.length → X1 j = X j) : RB X1 n l := by
  intro j hj
  rw [he (n + j) (by omega)]
  exact h j hj
theorem RB_one {X : Nat → Int} {n : Nat} {o v : Int} : RB (sx X n (1048576 * o + v)) n [(o, v)] := by
  intro j hj
  have hj : j = 0 := by
    have : j < 1 := hj
    omega
  subst hj
  exact sx_s
theorem RB_nil {X : Nat → Int} {n : Nat} : RB X n [] := fun j hj => absurd hj (Nat.not_lt_zero _)
/-- operations that wait: of a sum, of a product -/
def pcd (a m : Int) : List (Int × Int) := (if m = 0 then [] else [(m, 0)]) ++ (if a = 0 then [] else [(a, 0)])
def pnd (W : Nat → Int) (w w1 : Nat) (a m : Int) : Prop := (a = 0 ∨ a = 2 ∨ a = 3) ∧ (m = 0 ∨ (4 ≤ m ∧ m ≤ 6)) ∧ ((a = 0 ∧ m = 0 ∧ w1 = w) ∨ (a ≠ 0 ∧ m = 0 ∧ w1 = w + 1 ∧ W w = 1048576 * a) ∨ (a = 0 ∧ m ≠ 0 ∧ w1 = w + 1 ∧ W w = 1048576 * m) ∨ (a ≠ 0 ∧ m ≠ 0 ∧ w1 = w + 2 ∧ W w = 1048576 * a ∧ W (w + 1) = 1048576 * m))
def ssF (c : Int) : Int := if adS c = 0 then (if muS c = 0 then -1 else muS c) else adS c
section
variable {d s : Nat} {T : Nat → Nat × Nat} {I J : Nat → Nat → Int} {R : Nat → Nat → Option Nat} {Q : Option AV → AH → Prop} {L : Nat} {fa op cm sm nm : Int} {X W F H G : Nat → Int} {n w p : Nat}
theorem m145 (hh : hp T R) {z pp wz : Int} (hz : 1 ≤ z ∧ z ≤ 9) (hp2 : p ≤ 160) : wpc codeT mX d 145 [.inr (.inr (some 152)), .inl z, .inl (p : Int)] (185, s, T, pI I pp fa op cm wz sm nm X W F H G, J, R) Q ↔ Q (some (.inl 0)) (185, s, T, pI I pp (-1000 * z - (p : Int)) op cm wz sm nm X W F H G, J, R) := wpc_det (by
  have e1 : w32 (-1000 * z) = -1000 * z := w32_eq (by omega) (by omega)
  have e2 : w32 (-1000 * z - (p : Int)) = -1000 * z - (p : Int) := w32_eq (by omega) (by omega)
  simp only [e145, s145_0, s145_1, s145_2, s145_3, s145_4, s145_5, s145_6, s145_7, s145_8, Option.toList_some, Option.toList_none, List.cons_append, List.nil_append, Nat.le_refl, true_and, and_true, true_or, or_true, false_or, or_false, true_implies, false_implies, implies_true, not_true_eq_false, not_false_eq_true, eq_self, Nat.reduceLT, Nat.reduceLeDiff, Nat.reduceEqDiff, Nat.reduceAdd, Nat.reduceSub, Int.reduceLT, Int.reduceLE, Int.reduceEq, Int.reduceNeg, Int.reduceNe, Int.reduceAdd, Int.reduceSub, Int.reduceMul, Int.reduceToNat, Int.toNat_zero, Int.toNat_one, Int.toNat_natCast, am_cats, am_cat, am_st1, am_st2, am_clr, up2_na, up2_nj, up2_same, List.getElem?_cons_zero, List.getElem?_cons_succ, List.set_cons_zero, List.set_cons_succ, ne_eq, tk_152 hh, pu_20, e1, e2])
theorem m148y (hh : hp T R) {z : Int} {o : Nat} (hz : 0 ≤ z ∧ z ≤ 14) (hp2 : p ≤ 160) (hw : w ≤ 160) (ho : ¬ 6 ≤ o) : wpc codeT mX (d + 1) 148 [.inr (.inr (some 152)), .inl z] (185, s, T, pI I (p : Int) fa (o : Int) cm (w : Int) sm nm X W F H G, J, R) Q ↔ Q (some (.inl 1)) (185, s, T, pI I ((p + 1 : Nat) : Int) fa ((o + 1 : Nat) : Int) cm ((w + 1 : Nat) : Int) sm nm X (sx W w (1048576 * z)) F H G, J, R) := wpc_det (by
  have u1 : ¬ (o : Int) = 6 := by omega
  have u2 : 0 ≤ (w : Int) ∧ (w : Int) < ((180 : Nat) : Int) := by omega
  have e1 : w32 (1048576 * z) = 1048576 * z := w32_eq (by omega) (by omega)
  simp only [e148, s148_0, s148_1, s148_2, s148_3, s148_4, s148_5, s148_6, s148_7, s148_8, s148_9, s148_10, s148_11, s148_12, s148_13, s148_14, s148_15, s148_16, s148_17, s148_18, s148_19, s148_20, s148_21, s148_22, s148_23, s148_24, s148_25, s148_26, s148_27, s148_28, s148_29, s148_30, s148_31, s148_32, s148_33, s148_34, s148_35, s148_36, s148_37, Option.toList_some, Option.toList_none, List.cons_append, List.nil_append, Nat.le_refl, true_and, and_true, true_or, or_true, false_or, or_false, true_implies, false_implies, implies_true, not_true_eq_false, not_false_eq_true, eq_self, Nat.reduceLT, Nat.reduceLeDiff, Nat.reduceEqDiff, Nat.reduceAdd, Nat.reduceSub, Int.reduceLT, Int.reduceLE, Int.reduceEq, Int.reduceNeg, Int.reduceNe, Int.reduceAdd, Int.reduceSub, Int.reduceMul, Int.reduceToNat, Int.toNat_zero, Int.toNat_one, Int.toNat_natCast, am_cats, am_cat, am_st1, am_st2, am_clr, up2_na, up2_nj, up2_same, List.getElem?_cons_zero, List.getElem?_cons_succ, List.set_cons_zero, List.set_cons_succ, ne_eq, tk_152 hh, tk_164 hh, rk_152_27 hh, pI_18, pI_21, pI_23, pu_18, pu_21, pu_23, pu_164, u1, u2, e1, w32_s (show o ≤ 1080 by omega), w32_s (show w ≤ 1080 by omega), w32_s (show p ≤ 1080 by omega)])
theorem m148n (hh : hp T R) {z wz : Int} {o : Nat} (hp2 : p ≤ 160) (ho : o = 6) : wpc codeT mX (d + 1) 148 [.inr (.inr (some 152)), .inl z] (185, s, T, pI I (p : Int) fa (o : Int) cm wz sm nm X W F H G, J, R) Q ↔ Q (some (.inl 0)) (185, s, T, pI I (p : Int) (-1000 * 5 - (p : Int)) (o : Int) cm wz sm nm X W F H G, J, R) := wpc_det (by
  have u1 : (o : Int) = 6 := by omega
  simp only [e148, s148_0, s148_1, s148_2, s148_3, s148_4, s148_5, s148_6, s148_7, s148_8, s148_9, s148_10, s148_11, s148_12, s148_13, s148_14, s148_15, s148_16, s148_17, s148_18, s148_19, s148_20, s148_21, s148_22, s148_23, s148_24, s148_25, s148_26, s148_27, s148_28, s148_29, s148_30, s148_31, s148_32, s148_33, s148_34, s148_35, s148_36, s148_37, Option.toList_some, Option.toList_none, List.cons_append, List.nil_append, Nat.le_refl, true_and, and_true, true_or, or_true, false_or, or_false, true_implies, false_implies, implies_true, not_true_eq_false, not_false_eq_true, eq_self, Nat.reduceLT, Nat.reduceLeDiff, Nat.reduceEqDiff, Nat.reduceAdd, Nat.reduceSub, Int.reduceLT, Int.reduceLE, Int.reduceEq, Int.reduceNeg, Int.reduceNe, Int.reduceAdd, Int.reduceSub, Int.reduceMul, Int.reduceToNat, Int.toNat_zero, Int.toNat_one, Int.toNat_natCast, am_cats, am_cat, am_st1, am_st2, am_clr, up2_na, up2_nj, up2_same, List.getElem?_cons_zero, List.getElem?_cons_succ, List.set_cons_zero, List.set_cons_succ, ne_eq, tk_152 hh, pI_18, pI_21, u1, m145 hh (by decide : (1 : Int) ≤ 5 ∧ (5 : Int) ≤ 9) hp2])
theorem m149 (hh : hp T R) (hL : I 152 19 = (L : Int)) (hL2 : L ≤ 160) (hp : p ≤ L) {wz : Int} : wpc codeT mX (d + 1) 149 [.inr (.inr (some 152))] (185, s, T, pI I (p : Int) fa op cm wz sm nm X W F H G, J, R) Q ↔ Q (some (.inl (if 48 ≤ hr I L p ∧ hr I L p ≤ 57 then 1 else 0))) (185, s, T, pI I (p : Int) fa op cm wz sm nm X W F H G, J, R) := wpc_det (by
  have kh := k_here (J := J) (s := s) (mdl_hp hh) hL hL2 hp
  simp only [e149, s149_0, s149_1, s149_2, s149_3, s149_4, s149_5, s149_6, s149_7, s149_8, s149_9, s149_10, s149_11, Option.toList_some, Option.toList_none, List.cons_append, List.nil_append, Nat.le_refl, true_and, and_true, true_or, or_true, false_or, or_false, true_implies, false_implies, implies_true, not_true_eq_false, not_false_eq_true, eq_self, Nat.reduceLT, Nat.reduceLeDiff, Nat.reduceEqDiff, Nat.reduceAdd, Nat.reduceSub, Int.reduceLT, Int.reduceLE, Int.reduceEq, Int.reduceNeg, Int.reduceNe, Int.reduceAdd, Int.reduceSub, Int.reduceMul, Int.reduceToNat, Int.toNat_zero, Int.toNat_one, Int.toNat_natCast, am_cats, am_cat, am_st1, am_st2, am_clr, up2_na, up2_nj, up2_same, List.getElem?_cons_zero, List.getElem?_cons_succ, List.set_cons_zero, List.set_cons_succ, ne_eq, tk_152 hh, kh]
  refine ⟨fun h => ?_, fun h => ⟨fun h2 => ?_, fun h2 => ?_⟩⟩
  · rw [if_neg (by omega)]
  · rw [if_neg (by omega)]
  · rw [if_pos (by omega)])
theorem m151 (hh : hp T R) {o v pp wz : Int} (ho : 0 ≤ o ∧ o ≤ 14) (hv : 0 ≤ v ∧ v < 1048576) (hn : n < 180) : wpc codeT mX d 151 [.inr (.inr (some 152)), .inl o, .inl v] (185, s, T, pI I pp fa op (n : Int) wz sm nm X W F H G, J, R) Q ↔ Q none (185, s, T, pI I pp fa op ((n + 1 : Nat) : Int) wz sm nm (sx X n (1048576 * o + v)) W F H G, J, R) := wpc_det (by
  have u1 : 0 ≤ (n : Int) ∧ (n : Int) < ((180 : Nat) : Int) := by omega
  have e1 : w32 (1048576 * o) = 1048576 * o := w32_eq (by omega) (by omega)
  have e2 : w32 (1048576 * o + v) = 1048576 * o + v := w32_eq (by omega) (by omega)
  simp only [e151, s151_0, s151_1, s151_2, s151_3, s151_4, s151_5, s151_6, s151_7, s151_8, s151_9, s151_10, s151_11, s151_12, s151_13, s151_14, s151_15, s151_16, Option.toList_some, Option.toList_none, List.cons_append, List.nil_append, Nat.le_refl, true_and, and_true, true_or, or_true, false_or, or_false, true_implies, false_implies, implies_true, not_true_eq_false, not_false_eq_true, eq_self, Nat.reduceLT, Nat.reduceLeDiff, Nat.reduceEqDiff, Nat.reduceAdd, Nat.reduceSub, Int.reduceLT, Int.reduceLE, Int.reduceEq, Int.reduceNeg, Int.reduceNe, Int.reduceAdd, Int.reduceSub, Int.reduceMul, Int.reduceToNat, Int.toNat_zero, Int.toNat_one, Int.toNat_natCast, am_cats, am_cat, am_st1, am_st2, am_clr, up2_na, up2_nj, up2_same, List.getElem?_cons_zero, List.getElem?_cons_succ, List.set_cons_zero, List.set_cons_succ, ne_eq, tk_152 hh, tk_163 hh, rk_152_26 hh, pI_22, pu_22, pu_163, u1, e1, e2, w32_s (show n ≤ 1080 by omega)])
theorem m152 {h : AH} {c : Int} : wpc codeT mX d 152 [.inl c] h Q ↔ Q (some (.inl (tkF c))) h := wpc_det (by
  by_cases h1 : c = 97
  · subst h1
    simp only [e152, s152_0, s152_1, s152_2, s152_3, s152_4, s152_5, s152_6, s152_7, s152_8, s152_9, s152_10, s152_11, s152_12, s152_13, s152_14, s152_15, s152_16, s152_17, s152_18, s152_19, s152_20, s152_21, Option.toList_some, Option.toList_none, List.cons_append, List.nil_append, Nat.le_refl, true_and, and_true, true_or, or_true, false_or, or_false, true_implies, false_implies, implies_true, not_true_eq_false, not_false_eq_true, eq_self, Nat.reduceLT, Nat.reduceLeDiff, Nat.reduceEqDiff, Nat.reduceAdd, Nat.reduceSub, Int.reduceLT, Int.reduceLE, Int.reduceEq, Int.reduceNeg, Int.reduceNe, Int.reduceAdd, Int.reduceSub, Int.reduceMul, Int.reduceToNat, Int.toNat_zero, Int.toNat_one, Int.toNat_natCast, am_cats, am_cat, am_st1, am_st2, am_clr, up2_na, up2_nj, up2_same, List.getElem?_cons_zero, List.getElem?_cons_succ, List.set_cons_zero, List.set_cons_succ, ne_eq]
    decide
  by_cases h2 : c = 98
  · subst h2
    simp only [e152, s152_0, s152_1, s152_2, s152_3, s152_4, s152_5, s152_6, s152_7, s152_8, s152_9, s152_10, s152_11, s152_12, s152_13, s152_14, s152_15, s152_16, s152_17, s152_18, s152_19, s152_20, s152_21, Option.toList_some, Option.toList_none, List.cons_append, List.nil_append, Nat.le_refl, true_and, and_true, true_or, or_true, false_or, or_false, true_implies, false_implies, implies_true, not_true_eq_false, not_false_eq_true, eq_self, Nat.reduceLT, Nat.reduceLeDiff, Nat.reduceEqDiff, Nat.reduceAdd, Nat.reduceSub, Int.reduceLT, Int.reduceLE, Int.reduceEq, Int.reduceNeg, Int.reduceNe, Int.reduceAdd, Int.reduceSub, Int.reduceMul, Int.reduceToNat, Int.toNat_zero, Int.toNat_one, Int.toNat_natCast, am_cats, am_cat, am_st1, am_st2, am_clr, up2_na, up2_nj, up2_same, List.getElem?_cons_zero, List.getElem?_cons_succ, List.set_cons_zero, List.set_cons_succ, ne_eq]
    decide
  by_cases h3 : c = 100
  · subst h3
    simp only [e152, s152_0, s152_1, s152_2, s152_3, s152_4, s152_5, s152_6, s152_7, s152_8, s152_9, s152_10, s152_11, s152_12, s152_13, s152_14, s152_15, s152_16, s152_17, s152_18, s152_19, s152_20, s152_21, Option.toList_some, Option.toList_none, List.cons_append, List.nil_append, Nat.le_refl, true_and, and_true, true_or, or_true, false_or, or_false, true_implies, false_implies, implies_true, not_true_eq_false, not_false_eq_true, eq_self, Nat.reduceLT, Nat.reduceLeDiff, Nat.reduceEqDiff, Nat.reduceAdd, Nat.reduceSub, Int.reduceLT, Int.reduceLE, Int.reduceEq, Int.reduceNeg, Int.reduceNe, Int.reduceAdd, Int.reduceSub, Int.reduceMul, Int.reduceToNat, Int.toNat_zero, Int.toNat_one, Int.toNat_natCast, am_cats, am_cat, am_st1, am_st2, am_clr, up2_na, up2_nj, up2_same, List.getElem?_cons_zero, List.getElem?_cons_succ, List.set_cons_zero, List.set_cons_succ, ne_eq]
    decide
  by_cases h4 : c = 104
  · subst h4
    simp only [e152, s152_0, s152_1, s152_2, s152_3, s152_4, s152_5, s152_6, s152_7, s152_8, s152_9, s152_10, s152_11, s152_12, s152_13, s152_14, s152_15, s152_16, s152_17, s152_18, s152_19, s152_20, s152_21, Option.toList_some, Option.toList_none, List.cons_append, List.nil_append, Nat.le_refl, true_and, and_true, true_or, or_true, false_or, or_false, true_implies, false_implies, implies_true, not_true_eq_false, not_false_eq_true, eq_self, Nat.reduceLT, Nat.reduceLeDiff, Nat.reduceEqDiff, Nat.reduceAdd, Nat.reduceSub, Int.reduceLT, Int.reduceLE, Int.reduceEq, Int.reduceNeg, Int.reduceNe, Int.reduceAdd, Int.reduceSub, Int.reduceMul, Int.reduceToNat, Int.toNat_zero, Int.toNat_one, Int.toNat_natCast, am_cats, am_cat, am_st1, am_st2, am_clr, up2_na, up2_nj, up2_same, List.getElem?_cons_zero, List.getElem?_cons_succ, List.set_cons_zero, List.set_cons_succ, ne_eq]
    decide
  by_cases h5 : c = 110
  · subst h5
    simp only [e152, s152_0, s152_1, s152_2, s152_3, s152_4, s152_5, s152_6, s152_7, s152_8, s152_9, s152_10, s152_11, s152_12, s152_13, s152_14, s152_15, s152_16, s152_17, s152_18, s152_19, s152_20, s152_21, Option.toList_some, Option.toList_none, List.cons_append, List.nil_append, Nat.le_refl, true_and, and_true, true_or, or_true, false_or, or_false, true_implies, false_implies, implies_true, not_true_eq_false, not_false_eq_true, eq_self, Nat.reduceLT, Nat.reduceLeDiff, Nat.reduceEqDiff, Nat.reduceAdd, Nat.reduceSub, Int.reduceLT, Int.reduceLE, Int.reduceEq, Int.reduceNeg, Int.reduceNe, Int.reduceAdd, Int.reduceSub, Int.reduceMul, Int.reduceToNat, Int.toNat_zero, Int.toNat_one, Int.toNat_natCast, am_cats, am_cat, am_st1, am_st2, am_clr, up2_na, up2_nj, up2_same, List.getElem?_cons_zero, List.getElem?_cons_succ, List.set_cons_zero, List.set_cons_succ, ne_eq]
    decide
  by_cases h6 : c = 115
  · subst h6
    simp only [e152, s152_0, s152_1, s152_2, s152_3, s152_4, s152_5, s152_6, s152_7, s152_8, s152_9, s152_10, s152_11, s152_12, s152_13, s152_14, s152_15, s152_16, s152_17, s152_18, s152_19, s152_20, s152_21, Option.toList_some, Option.toList_none, List.cons_append, List.nil_append, Nat.le_refl, true_and, and_true, true_or, or_true, false_or, or_false, true_implies, false_implies, implies_true, not_true_eq_false, not_false_eq_true, eq_self, Nat.reduceLT, Nat.reduceLeDiff, Nat.reduceEqDiff, Nat.reduceAdd, Nat.reduceSub, Int.reduceLT, Int.reduceLE, Int.reduceEq, Int.reduceNeg, Int.reduceNe, Int.reduceAdd, Int.reduceSub, Int.reduceMul, Int.reduceToNat, Int.toNat_zero, Int.toNat_one, Int.toNat_natCast, am_cats, am_cat, am_st1, am_st2, am_clr, up2_na, up2_nj, up2_same, List.getElem?_cons_zero, List.getElem?_cons_succ, List.set_cons_zero, List.set_cons_succ, ne_eq]
    decide
  by_cases h7 : c = 116
  · subst h7
    simp only [e152, s152_0, s152_1, s152_2, s152_3, s152_4, s152_5, s152_6, s152_7, s152_8, s152_9, s152_10, s152_11, s152_12, s152_13, s152_14, s152_15, s152_16, s152_17, s152_18, s152_19, s152_20, s152_21, Option.toList_some, Option.toList_none, List.cons_append, List.nil_append, Nat.le_refl, true_and, and_true, true_or, or_true, false_or, or_false, true_implies, false_implies, implies_true, not_true_eq_false, not_false_eq_true, eq_self, Nat.reduceLT, Nat.reduceLeDiff, Nat.reduceEqDiff, Nat.reduceAdd, Nat.reduceSub, Int.reduceLT, Int.reduceLE, Int.reduceEq, Int.reduceNeg, Int.reduceNe, Int.reduceAdd, Int.reduceSub, Int.reduceMul, Int.reduceToNat, Int.toNat_zero, Int.toNat_one, Int.toNat_natCast, am_cats, am_cat, am_st1, am_st2, am_clr, up2_na, up2_nj, up2_same, List.getElem?_cons_zero, List.getElem?_cons_succ, List.set_cons_zero, List.set_cons_succ, ne_eq]
    decide
  by_cases h8 : c = 117
  · subst h8
    simp only [e152, s152_0, s152_1, s152_2, s152_3, s152_4, s152_5, s152_6, s152_7, s152_8, s152_9, s152_10, s152_11, s152_12, s152_13, s152_14, s152_15, s152_16, s152_17, s152_18, s152_19, s152_20, s152_21, Option.toList_some, Option.toList_none, List.cons_append, List.nil_append, Nat.le_refl, true_and, and_true, true_or, or_true, false_or, or_false, true_implies, false_implies, implies_true, not_true_eq_false, not_false_eq_true, eq_self, Nat.reduceLT, Nat.reduceLeDiff, Nat.reduceEqDiff, Nat.reduceAdd, Nat.reduceSub, Int.reduceLT, Int.reduceLE, Int.reduceEq, Int.reduceNeg, Int.reduceNe, Int.reduceAdd, Int.reduceSub, Int.reduceMul, Int.reduceToNat, Int.toNat_zero, Int.toNat_one, Int.toNat_natCast, am_cats, am_cat, am_st1, am_st2, am_clr, up2_na, up2_nj, up2_same, List.getElem?_cons_zero, List.getElem?_cons_succ, List.set_cons_zero, List.set_cons_succ, ne_eq]
    decide
  by_cases h9 : c = 121
  · subst h9
    simp only [e152, s152_0, s152_1, s152_2, s152_3, s152_4, s152_5, s152_6, s152_7, s152_8, s152_9, s152_10, s152_11, s152_12, s152_13, s152_14, s152_15, s152_16, s152_17, s152_18, s152_19, s152_20, s152_21, Option.toList_some, Option.toList_none, List.cons_append, List.nil_append, Nat.le_refl, true_and, and_true, true_or, or_true, false_or, or_false, true_implies, false_implies, implies_true, not_true_eq_false, not_false_eq_true, eq_self, Nat.reduceLT, Nat.reduceLeDiff, Nat.reduceEqDiff, Nat.reduceAdd, Nat.reduceSub, Int.reduceLT, Int.reduceLE, Int.reduceEq, Int.reduceNeg, Int.reduceNe, Int.reduceAdd, Int.reduceSub, Int.reduceMul, Int.reduceToNat, Int.toNat_zero, Int.toNat_one, Int.toNat_natCast, am_cats, am_cat, am_st1, am_st2, am_clr, up2_na, up2_nj, up2_same, List.getElem?_cons_zero, List.getElem?_cons_succ, List.set_cons_zero, List.set_cons_succ, ne_eq]
    decide
  have e : tkF c = -1 := by
    unfold tkF
    rw [if_neg h5, if_neg h3, if_neg h2, if_neg h1, if_neg h4, if_neg h8, if_neg h6, if_neg h7, if_neg h9]
  rw [e]
  simp only [e152, s152_0, s152_1, s152_2, s152_3, s152_4, s152_5, s152_6, s152_7, s152_8, s152_9, s152_10, s152_11, s152_12, s152_13, s152_14, s152_15, s152_16, s152_17, s152_18, s152_19, s152_20, s152_21, Option.toList_some, Option.toList_none, List.cons_append, List.nil_append, Nat.le_refl, true_and, and_true, true_or, or_true, false_or, or_false, true_implies, false_implies, implies_true, not_true_eq_false, not_false_eq_true, eq_self, Nat.reduceLT, Nat.reduceLeDiff, Nat.reduceEqDiff, Nat.reduceAdd, Nat.reduceSub, Int.reduceLT, Int.reduceLE, Int.reduceEq, Int.reduceNeg, Int.reduceNe, Int.reduceAdd, Int.reduceSub, Int.reduceMul, Int.reduceToNat, Int.toNat_zero, Int.toNat_one, Int.toNat_natCast, am_cats, am_cat, am_st1, am_st2, am_clr, up2_na, up2_nj, up2_same, List.getElem?_cons_zero, List.getElem?_cons_succ, List.set_cons_zero, List.set_cons_succ, ne_eq, h1, h2, h3, h4, h5, h6, h7, h8, h9])
theorem m153 {h : AH} {c : Int} : wpc codeT mX d 153 [.inl c] h Q ↔ Q (some (.inl (ssF c))) h := wpc_det (by
  by_cases h1 : c = 43
  · subst h1
    simp only [e153, s153_0, s153_1, s153_2, s153_3, s153_4, s153_5, s153_6, s153_7, s153_8, s153_9, s153_10, s153_11, s153_12, s153_13, s153_14, s153_15, s153_16, s153_17, s153_18, s153_19, s153_20, s153_21, s153_22, s153_23, s153_24, s153_25, s153_26, Option.toList_some, Option.toList_none, List.cons_append, List.nil_append, Nat.le_refl, true_and, and_true, true_or, or_true, false_or, or_false, true_implies, false_implies, implies_true, not_true_eq_false, not_false_eq_true, eq_self, Nat.reduceLT, Nat.reduceLeDiff, Nat.reduceEqDiff, Nat.reduceAdd, Nat.reduceSub, Int.reduceLT, Int.reduceLE, Int.reduceEq, Int.reduceNeg, Int.reduceNe, Int.reduceAdd, Int.reduceSub, Int.reduceMul, Int.reduceToNat, Int.toNat_zero, Int.toNat_one, Int.toNat_natCast, am_cats, am_cat, am_st1, am_st2, am_clr, up2_na, up2_nj, up2_same, List.getElem?_cons_zero, List.getElem?_cons_succ, List.set_cons_zero, List.set_cons_succ, ne_eq]
    decide
  by_cases h2 : c = 45
  · subst h2
    simp only [e153, s153_0, s153_1, s153_2, s153_3, s153_4, s153_5, s153_6, s153_7, s153_8, s153_9, s153_10, s153_11, s153_12, s153_13, s153_14, s153_15, s153_16, s153_17, s153_18, s153_19, s153_20, s153_21, s153_22, s153_23, s153_24, s153_25, s153_26, Option.toList_some, Option.toList_none, List.cons_append, List.nil_append, Nat.le_refl, true_and, and_true, true_or, or_true, false_or, or_false, true_implies, false_implies, implies_true, not_true_eq_false, not_false_eq_true, eq_self, Nat.reduceLT, Nat.reduceLeDiff, Nat.reduceEqDiff, Nat.reduceAdd, Nat.reduceSub, Int.reduceLT, Int.reduceLE, Int.reduceEq, Int.reduceNeg, Int.reduceNe, Int.reduceAdd, Int.reduceSub, Int.reduceMul, Int.reduceToNat, Int.toNat_zero, Int.toNat_one, Int.toNat_natCast, am_cats, am_cat, am_st1, am_st2, am_clr, up2_na, up2_nj, up2_same, List.getElem?_cons_zero, List.getElem?_cons_succ, List.set_cons_zero, List.set_cons_succ, ne_eq]
    decide
  by_cases h3 : c = 42
  · subst h3
    simp only [e153, s153_0, s153_1, s153_2, s153_3, s153_4, s153_5, s153_6, s153_7, s153_8, s153_9, s153_10, s153_11, s153_12, s153_13, s153_14, s153_15, s153_16, s153_17, s153_18, s153_19, s153_20, s153_21, s153_22, s153_23, s153_24, s153_25, s153_26, Option.toList_some, Option.toList_none, List.cons_append, List.nil_append, Nat.le_refl, true_and, and_true, true_or, or_true, false_or, or_false, true_implies, false_implies, implies_true, not_true_eq_false, not_false_eq_true, eq_self, Nat.reduceLT, Nat.reduceLeDiff, Nat.reduceEqDiff, Nat.reduceAdd, Nat.reduceSub, Int.reduceLT, Int.reduceLE, Int.reduceEq, Int.reduceNeg, Int.reduceNe, Int.reduceAdd, Int.reduceSub, Int.reduceMul, Int.reduceToNat, Int.toNat_zero, Int.toNat_one, Int.toNat_natCast, am_cats, am_cat, am_st1, am_st2, am_clr, up2_na, up2_nj, up2_same, List.getElem?_cons_zero, List.getElem?_cons_succ, List.set_cons_zero, List.set_cons_succ, ne_eq]
    decide
  by_cases h4 : c = 47
  · subst h4
    simp only [e153, s153_0, s153_1, s153_2, s153_3, s153_4, s153_5, s153_6, s153_7, s153_8, s153_9, s153_10, s153_11, s153_12, s153_13, s153_14, s153_15, s153_16, s153_17, s153_18, s153_19, s153_20, s153_21, s153_22, s153_23, s153_24, s153_25, s153_26, Option.toList_some, Option.toList_none, List.cons_append, List.nil_append, Nat.le_refl, true_and, and_true, true_or, or_true, false_or, or_false, true_implies, false_implies, implies_true, not_true_eq_false, not_false_eq_true, eq_self, Nat.reduceLT, Nat.reduceLeDiff, Nat.reduceEqDiff, Nat.reduceAdd, Nat.reduceSub, Int.reduceLT, Int.reduceLE, Int.reduceEq, Int.reduceNeg, Int.reduceNe, Int.reduceAdd, Int.reduceSub, Int.reduceMul, Int.reduceToNat, Int.toNat_zero, Int.toNat_one, Int.toNat_natCast, am_cats, am_cat, am_st1, am_st2, am_clr, up2_na, up2_nj, up2_same, List.getElem?_cons_zero, List.getElem?_cons_succ, List.set_cons_zero, List.set_cons_succ, ne_eq]
    decide
  by_cases h5 : c = 37
  · subst h5
    simp only [e153, s153_0, s153_1, s153_2, s153_3, s153_4, s153_5, s153_6, s153_7, s153_8, s153_9, s153_10, s153_11, s153_12, s153_13, s153_14, s153_15, s153_16, s153_17, s153_18, s153_19, s153_20, s153_21, s153_22, s153_23, s153_24, s153_25, s153_26, Option.toList_some, Option.toList_none, List.cons_append, List.nil_append, Nat.le_refl, true_and, and_true, true_or, or_true, false_or, or_false, true_implies, false_implies, implies_true, not_true_eq_false, not_false_eq_true, eq_self, Nat.reduceLT, Nat.reduceLeDiff, Nat.reduceEqDiff, Nat.reduceAdd, Nat.reduceSub, Int.reduceLT, Int.reduceLE, Int.reduceEq, Int.reduceNeg, Int.reduceNe, Int.reduceAdd, Int.reduceSub, Int.reduceMul, Int.reduceToNat, Int.toNat_zero, Int.toNat_one, Int.toNat_natCast, am_cats, am_cat, am_st1, am_st2, am_clr, up2_na, up2_nj, up2_same, List.getElem?_cons_zero, List.getElem?_cons_succ, List.set_cons_zero, List.set_cons_succ, ne_eq]
    decide
  have e : ssF c = -1 := by
    unfold ssF adS muS
    rw [if_neg h1, if_neg h2, if_neg h3, if_neg h4, if_neg h5, if_pos rfl, if_pos rfl]
  rw [e]
  simp only [e153, s153_0, s153_1, s153_2, s153_3, s153_4, s153_5, s153_6, s153_7, s153_8, s153_9, s153_10, s153_11, s153_12, s153_13, s153_14, s153_15, s153_16, s153_17, s153_18, s153_19, s153_20, s153_21, s153_22, s153_23, s153_24, s153_25, s153_26, Option.toList_some, Option.toList_none, List.cons_append, List.nil_append, Nat.le_refl, true_and, and_true, true_or, or_true, false_or, or_false, true_implies, false_implies, implies_true, not_true_eq_false, not_false_eq_true, eq_self, Nat.reduceLT, Nat.reduceLeDiff, Nat.reduceEqDiff, Nat.reduceAdd, Nat.reduceSub, Int.reduceLT, Int.reduceLE, Int.reduceEq, Int.reduceNeg, Int.reduceNe, Int.reduceAdd, Int.reduceSub, Int.reduceMul, Int.reduceToNat, Int.toNat_zero, Int.toNat_one, Int.toNat_natCast, am_cats, am_cat, am_st1, am_st2, am_clr, up2_na, up2_nj, up2_same, List.getElem?_cons_zero, List.getElem?_cons_succ, List.set_cons_zero, List.set_cons_succ, ne_eq, h1, h2, h3, h4, h5])
theorem m155z (hh : hp T R) {pp : Int} : wpc codeT mX d 155 [.inr (.inr (some 152))] (185, s, T, pI I pp fa op cm ((0 : Nat) : Int) sm nm X W F H G, J, R) Q ↔ Q (some (.inl (-1))) (185, s, T, pI I pp fa op cm ((0 : Nat) : Int) sm nm X W F H G, J, R) := wpc_det (by
  have u1 : ((0 : Nat) : Int) = 0 := rfl
  simp only [e155, s155_0, s155_1, s155_2, s155_3, s155_4, s155_5, s155_6, s155_7, s155_8, s155_9, s155_10, s155_11, s155_12, s155_13, s155_14, Option.toList_some, Option.toList_none, List.cons_append, List.nil_append, Nat.le_refl, true_and, and_true, true_or, or_true, false_or, or_false, true_implies, false_implies, implies_true, not_true_eq_false, not_false_eq_true, eq_self, Nat.reduceLT, Nat.reduceLeDiff, Nat.reduceEqDiff, Nat.reduceAdd, Nat.reduceSub, Int.reduceLT, Int.reduceLE, Int.reduceEq, Int.reduceNeg, Int.reduceNe, Int.reduceAdd, Int.reduceSub, Int.reduceMul, Int.reduceToNat, Int.toNat_zero, Int.toNat_one, Int.toNat_natCast, am_cats, am_cat, am_st1, am_st2, am_clr, up2_na, up2_nj, up2_same, List.getElem?_cons_zero, List.getElem?_cons_succ, List.set_cons_zero, List.set_cons_succ, ne_eq, tk_152 hh, pI_23, u1])
theorem m155 (hh : hp T R) (hW : XB W) (hw : w ≤ 160) {pp : Int} : wpc codeT mX d 155 [.inr (.inr (some 152))] (185, s, T, pI I pp fa op cm ((w + 1 : Nat) : Int) sm nm X W F H G, J, R) Q ↔ Q (some (.inl (cOp (W w)))) (185, s, T, pI I pp fa op cm ((w + 1 : Nat) : Int) sm nm X W F H G, J, R) := wpc_det (by
  have u1 : ¬ ((w + 1 : Nat) : Int) = 0 := by omega
  have u2 : 0 ≤ (w : Int) ∧ (w : Int) < ((180 : Nat) : Int) := by omega
  have e := w32_op hW (show w < 180 by omega)
  simp only [e155, s155_0, s155_1, s155_2, s155_3, s155_4, s155_5, s155_6, s155_7, s155_8, s155_9, s155_10, s155_11, s155_12, s155_13, s155_14, Option.toList_some, Option.toList_none, List.cons_append, List.nil_append, Nat.le_refl, true_and, and_true, true_or, or_true, false_or, or_false, true_implies, false_implies, implies_true, not_true_eq_false, not_false_eq_true, eq_self, Nat.reduceLT, Nat.reduceLeDiff, Nat.reduceEqDiff, Nat.reduceAdd, Nat.reduceSub, Int.reduceLT, Int.reduceLE, Int.reduceEq, Int.reduceNeg, Int.reduceNe, Int.reduceAdd, Int.reduceSub, Int.reduceMul, Int.reduceToNat, Int.toNat_zero, Int.toNat_one, Int.toNat_natCast, am_cats, am_cat, am_st1, am_st2, am_clr, up2_na, up2_nj, up2_same, List.getElem?_cons_zero, List.getElem?_cons_succ, List.set_cons_zero, List.set_cons_succ, ne_eq, tk_152 hh, tk_164 hh, rk_152_27 hh, pI_23, pI_164, u1, u2, w32_d (show w ≤ 1080 by omega), e])
theorem m156_loop (hh : hp T R) (hW : XB W) (hw : w ≤ 160) {b pp : Int} : ∀ (r i : Nat), i + r = w → ((∃ j, i ≤ j ∧ j < w ∧ cOp (W j) = 14) → Q (some (.inl 1)) (185, s, T, pI I pp fa op cm (w : Int) sm nm X W F H G, J, R)) → ((∀ j, i ≤ j → j < w → cOp (W j) ≠ 14) → Q (some (.inl 0)) (185, s, T, pI I pp fa op cm (w : Int) sm nm X W F H G, J, R)) → wp codeT mX d 156 2 [some (.inr (.inr (some 152))), some (.inl b), some (.inl (i : Int))] [] (185, s, T, pI I pp fa op cm (w : Int) sm nm X W F H G, J, R) Q := by
  intro r
  induction r with
  | zero =>
    intro i hi h1 h0
    have hi : i = w := by omega
    subst hi
    have fin := h0 (fun j h2 h3 => by omega)
    refine s156_2.mpr ?_
    simp only [s156_3, s156_4, s156_5, s156_18, s156_19, Option.toList_some, Option.toList_none, List.cons_append, List.nil_append, Nat.le_refl, true_and, and_true, true_or, or_true, false_or, or_false, true_implies, false_implies, implies_true, not_true_eq_false, not_false_eq_true, eq_self, Nat.reduceLT, Nat.reduceLeDiff, Nat.reduceEqDiff, Nat.reduceAdd, Nat.reduceSub, Int.reduceLT, Int.reduceLE, Int.reduceEq, Int.reduceNeg, Int.reduceNe, Int.reduceAdd, Int.reduceSub, Int.reduceMul, Int.reduceToNat, Int.toNat_zero, Int.toNat_one, Int.toNat_natCast, am_cats, am_cat, am_st1, am_st2, am_clr, up2_na, up2_nj, up2_same, List.getElem?_cons_zero, List.getElem?_cons_succ, List.set_cons_zero, List.set_cons_succ, ne_eq, tk_152 hh, pI_23, Int.lt_irrefl]
    exact fin
  | succ r ih =>
    intro i hi h1 h0
    have u1 : (i : Int) < (w : Int) := by omega
    have u2 : 0 ≤ (i : Int) ∧ (i : Int) < ((180 : Nat) : Int) := by omega
    refine s156_2.mpr ?_
    by_cases hc : cOp (W i) = 14
    · have fin := h1 ⟨i, Nat.le_refl _, by omega, hc⟩
      simp only [s156_3, s156_4, s156_5, s156_6, s156_7, s156_8, s156_9, s156_10, s156_11, s156_12, s156_13, s156_14, s156_15, Option.toList_some, Option.toList_none, List.cons_append, List.nil_append, Nat.le_refl, true_and, and_true, true_or, or_true, false_or, or_false, true_implies, false_implies, implies_true, not_true_eq_false, not_false_eq_true, eq_self, Nat.reduceLT, Nat.reduceLeDiff, Nat.reduceEqDiff, Nat.reduceAdd, Nat.reduceSub, Int.reduceLT, Int.reduceLE, Int.reduceEq, Int.reduceNeg, Int.reduceNe, Int.reduceAdd, Int.reduceSub, Int.reduceMul, Int.reduceToNat, Int.toNat_zero, Int.toNat_one, Int.toNat_natCast, am_cats, am_cat, am_st1, am_st2, am_clr, up2_na, up2_nj, up2_same, List.getElem?_cons_zero, List.getElem?_cons_succ, List.set_cons_zero, List.set_cons_succ, ne_eq, tk_152 hh, tk_164 hh, rk_152_27 hh, pI_23, pI_164, u1, u2, w32_op hW (show i < 180 by omega), hc]
      exact fin
    · have nx := ih (i + 1) (by omega) (fun ⟨j, z1, z2, z3⟩ => h1 ⟨j, by omega, z2, z3⟩) (fun z => h0 (fun j z1 z2 => by
        by_cases e : j = i
        · rw [e]; exact hc
        · exact z j (by omega) z2))
      simp only [s156_3, s156_4, s156_5, s156_6, s156_7, s156_8, s156_9, s156_10, s156_11, s156_12, s156_13, s156_16, s156_17, Option.toList_some, Option.toList_none, List.cons_append, List.nil_append, Nat.le_refl, true_and, and_true, true_or, or_true, false_or, or_false, true_implies, false_implies, implies_true, not_true_eq_false, not_false_eq_true, eq_self, Nat.reduceLT, Nat.reduceLeDiff, Nat.reduceEqDiff, Nat.reduceAdd, Nat.reduceSub, Int.reduceLT, Int.reduceLE, Int.reduceEq, Int.reduceNeg, Int.reduceNe, Int.reduceAdd, Int.reduceSub, Int.reduceMul, Int.reduceToNat, Int.toNat_zero, Int.toNat_one, Int.toNat_natCast, am_cats, am_cat, am_st1, am_st2, am_clr, up2_na, up2_nj, up2_same, List.getElem?_cons_zero, List.getElem?_cons_succ, List.set_cons_zero, List.set_cons_succ, ne_eq, tk_152 hh, tk_164 hh, rk_152_27 hh, pI_23, pI_164, u1, u2, w32_op hW (show i < 180 by omega), hc, w32_s (show i ≤ 1080 by omega)]
      exact nx
theorem m156y (hh : hp T R) (hW : XB W) (hw : w ≤ 160) {b : Nat} {pp : Int} (h : ∃ j, b ≤ j ∧ j < w ∧ cOp (W j) = 14) : wpc codeT mX d 156 [.inr (.inr (some 152)), .inl (b : Int)] (185, s, T, pI I pp fa op cm (w : Int) sm nm X W F H G, J, R) Q ↔ Q (some (.inl 1)) (185, s, T, pI I pp fa op cm (w : Int) sm nm X W F H G, J, R) := wpc_det (by
  have := m156_loop (d := d) (s := s) (J := J) (I := I) (fa := fa) (op := op) (cm := cm) (sm := sm) (nm := nm) (X := X) (F := F) (H := H) (G := G) (b := (b : Int)) (pp := pp) (Q := fun v g => g = (185, s, T, pI I pp fa op cm (w : Int) sm nm X W F H G, J, R) ∧ v = some (.inl 1)) hh hW hw (w - b) b (by obtain ⟨j, h1, h2, -⟩ := h; omega) (fun _ => ⟨rfl, rfl⟩) (fun z => by obtain ⟨j, h1, h2, h3⟩ := h; exact absurd h3 (z j h1 h2))
  simp only [s156_0, s156_1, e156, Option.toList_some, Option.toList_none, List.cons_append, List.nil_append, Nat.le_refl, true_and, and_true, true_or, or_true, false_or, or_false, true_implies, false_implies, implies_true, not_true_eq_false, not_false_eq_true, eq_self, Nat.reduceLT, Nat.reduceLeDiff, Nat.reduceEqDiff, Nat.reduceAdd, Nat.reduceSub, Int.reduceLT, Int.reduceLE, Int.reduceEq, Int.reduceNeg, Int.reduceNe, Int.reduceAdd, Int.reduceSub, Int.reduceMul, Int.reduceToNat, Int.toNat_zero, Int.toNat_one, Int.toNat_natCast, am_cats, am_cat, am_st1, am_st2, am_clr, up2_na, up2_nj, up2_same, List.getElem?_cons_zero, List.getElem?_cons_succ, List.set_cons_zero, List.set_cons_succ, ne_eq]
  exact this)
theorem m156n (hh : hp T R) (hW : XB W) (hw : w ≤ 160) {b : Nat} {pp : Int} (hb : b ≤ w) (h : ∀ j, b ≤ j → j < w → cOp (W j) ≠ 14) : wpc codeT mX d 156 [.inr (.inr (some 152)), .inl (b : Int)] (185, s, T, pI I pp fa op cm (w : Int) sm nm X W F H G, J, R) Q ↔ Q (some (.inl 0)) (185, s, T, pI I pp fa op cm (w : Int) sm nm X W F H G, J, R) := wpc_det (by
  have := m156_loop (d := d) (s := s) (J := J) (I := I) (fa := fa) (op := op) (cm := cm) (sm := sm) (nm := nm) (X := X) (F := F) (H := H) (G := G) (b := (b : Int)) (pp := pp) (Q := fun v g => g = (185, s, T, pI I pp fa op cm (w : Int) sm nm X W F H G, J, R) ∧ v = some (.inl 0)) hh hW hw (w - b) b (by omega) (fun z => by obtain ⟨j, h1, h2, h3⟩ := z; exact absurd h3 (h j h1 h2)) (fun _ => ⟨rfl, rfl⟩)
  simp only [s156_0, s156_1, e156, Option.toList_some, Option.toList_none, List.cons_append, List.nil_append, Nat.le_refl, true_and, and_true, true_or, or_true, false_or, or_false, true_implies, false_implies, implies_true, not_true_eq_false, not_false_eq_true, eq_self, Nat.reduceLT, Nat.reduceLeDiff, Nat.reduceEqDiff, Nat.reduceAdd, Nat.reduceSub, Int.reduceLT, Int.reduceLE, Int.reduceEq, Int.reduceNeg, Int.reduceNe, Int.reduceAdd, Int.reduceSub, Int.reduceMul, Int.reduceToNat, Int.toNat_zero, Int.toNat_one, Int.toNat_natCast, am_cats, am_cat, am_st1, am_st2, am_clr, up2_na, up2_nj, up2_same, List.getElem?_cons_zero, List.getElem?_cons_succ, List.set_cons_zero, List.set_cons_succ, ne_eq]
  exact this)
/-! what waits is said -/
theorem mc_z (hh : hp T R) {b pp : Int} (hQ : Q none (185, s, T, pI I pp fa op cm ((0 : Nat) : Int) sm nm X W F H G, J, R)) (hb : b = 0 ∨ b = 1) : wp codeT mX (d + 1) 154 0 [some (.inr (.inr (some 152))), some (.inl b)] [] (185, s, T, pI I pp fa op cm ((0 : Nat) : Int) sm nm X W F H G, J, R) Q := by
  refine s154_0.mpr ?_
  rcases hb with rfl | rfl
  · simp only [s154_1, s154_2, s154_3, s154_4, s154_5, s154_6, s154_7, s154_8, s154_9, s154_10, s154_11, s154_12, s154_13, s154_14, s154_15, s154_16, s154_17, s154_18, s154_19, s154_20, s154_21, s154_22, s154_23, s154_24, s154_25, s154_26, s154_27, s154_28, s154_29, s154_30, Option.toList_some, Option.toList_none, List.cons_append, List.nil_append, Nat.le_refl, true_and, and_true, true_or, or_true, false_or, or_false, true_implies, false_implies, implies_true, not_true_eq_false, not_false_eq_true, eq_self, Nat.reduceLT, Nat.reduceLeDiff, Nat.reduceEqDiff, Nat.reduceAdd, Nat.reduceSub, Int.reduceLT, Int.reduceLE, Int.reduceEq, Int.reduceNeg, Int.reduceNe, Int.reduceAdd, Int.reduceSub, Int.reduceMul, Int.reduceToNat, Int.toNat_zero, Int.toNat_one, Int.toNat_natCast, am_cats, am_cat, am_st1, am_st2, am_clr, up2_na, up2_nj, up2_same, List.getElem?_cons_zero, List.getElem?_cons_succ, List.set_cons_zero, List.set_cons_succ, ne_eq, tk_152 hh, m155z hh]
    exact hQ
  · simp only [s154_1, s154_2, s154_3, s154_4, s154_5, s154_6, s154_7, s154_8, s154_9, s154_10, s154_11, s154_12, s154_13, s154_14, s154_15, s154_16, s154_17, s154_18, s154_19, s154_20, s154_21, s154_22, s154_23, s154_24, s154_25, s154_26, s154_27, s154_28, s154_29, s154_30, Option.toList_some, Option.toList_none, List.cons_append, List.nil_append, Nat.le_refl, true_and, and_true, true_or, or_true, false_or, or_false, true_implies, false_implies, implies_true, not_true_eq_false, not_false_eq_true, eq_self, Nat.reduceLT, Nat.reduceLeDiff, Nat.reduceEqDiff, Nat.reduceAdd, Nat.reduceSub, Int.reduceLT, Int.reduceLE, Int.reduceEq, Int.reduceNeg, Int.reduceNe, Int.reduceAdd, Int.reduceSub, Int.reduceMul, Int.reduceToNat, Int.toNat_zero, Int.toNat_one, Int.toNat_natCast, am_cats, am_cat, am_st1, am_st2, am_clr, up2_na, up2_nj, up2_same, List.getElem?_cons_zero, List.getElem?_cons_succ, List.set_cons_zero, List.set_cons_succ, ne_eq, tk_152 hh, m155z hh]
    exact hQ
theorem mc_stop (hh : hp T R) (hW : XB W) (hw : w ≤ 160) {b pp : Int} (hQ : Q none (185, s, T, pI I pp fa op cm ((w + 1 : Nat) : Int) sm nm X W F H G, J, R)) (hb : b = 0 ∨ b = 1) (h : 10 ≤ cOp (W w) ∨ (b = 0 ∧ cOp (W w) ≤ 3)) : wp codeT mX (d + 1) 154 0 [some (.inr (.inr (some 152))), some (.inl b)] [] (185, s, T, pI I pp fa op cm ((w + 1 : Nat) : Int) sm nm X W F H G, J, R) Q := by
  refine s154_0.mpr ?_
  by_cases h3 : cOp (W w) < 4
  · have hb0 : b = 0 := by omega
    subst hb0
    simp only [s154_1, s154_2, s154_3, s154_4, s154_5, s154_6, s154_7, s154_8, s154_9, s154_10, s154_11, s154_12, s154_13, s154_14, s154_15, s154_16, s154_17, s154_18, s154_19, s154_20, s154_21, s154_22, s154_23, s154_24, s154_25, s154_26, s154_27, s154_28, s154_29, s154_30, Option.toList_some, Option.toList_none, List.cons_append, List.nil_append, Nat.le_refl, true_and, and_true, true_or, or_true, false_or, or_false, true_implies, false_implies, implies_true, not_true_eq_false, not_false_eq_true, eq_self, Nat.reduceLT, Nat.reduceLeDiff, Nat.reduceEqDiff, Nat.reduceAdd, Nat.reduceSub, Int.reduceLT, Int.reduceLE, Int.reduceEq, Int.reduceNeg, Int.reduceNe, Int.reduceAdd, Int.reduceSub, Int.reduceMul, Int.reduceToNat, Int.toNat_zero, Int.toNat_one, Int.toNat_natCast, am_cats, am_cat, am_st1, am_st2, am_clr, up2_na, up2_nj, up2_same, List.getElem?_cons_zero, List.getElem?_cons_succ, List.set_cons_zero, List.set_cons_succ, ne_eq, tk_152 hh, m155 hh hW hw, h3]
    exact hQ
  · have h6 : 6 < cOp (W w) := by omega
    rcases hb with rfl | rfl
    · simp only [s154_1, s154_2, s154_3, s154_4, s154_5, s154_6, s154_7, s154_8, s154_9, s154_10, s154_11, s154_12, s154_13, s154_14, s154_15, s154_16, s154_17, s154_18, s154_19, s154_20, s154_21, s154_22, s154_23, s154_24, s154_25, s154_26, s154_27, s154_28, s154_29, s154_30, Option.toList_some, Option.toList_none, List.cons_append, List.nil_append, Nat.le_refl, true_and, and_true, true_or, or_true, false_or, or_false, true_implies, false_implies, implies_true, not_true_eq_false, not_false_eq_true, eq_self, Nat.reduceLT, Nat.reduceLeDiff, Nat.reduceEqDiff, Nat.reduceAdd, Nat.reduceSub, Int.reduceLT, Int.reduceLE, Int.reduceEq, Int.reduceNeg, Int.reduceNe, Int.reduceAdd, Int.reduceSub, Int.reduceMul, Int.reduceToNat, Int.toNat_zero, Int.toNat_one, Int.toNat_natCast, am_cats, am_cat, am_st1, am_st2, am_clr, up2_na, up2_nj, up2_same, List.getElem?_cons_zero, List.getElem?_cons_succ, List.set_cons_zero, List.set_cons_succ, ne_eq, tk_152 hh, m155 hh hW hw, h3, h6]
      exact hQ
    · have n2 : ¬ cOp (W w) = 2 := by omega
      have n3 : ¬ cOp (W w) = 3 := by omega
      simp only [s154_1, s154_2, s154_3, s154_4, s154_5, s154_6, s154_7, s154_8, s154_9, s154_10, s154_11, s154_12, s154_13, s154_14, s154_15, s154_16, s154_17, s154_18, s154_19, s154_20, s154_21, s154_22, s154_23, s154_24, s154_25, s154_26, s154_27, s154_28, s154_29, s154_30, Option.toList_some, Option.toList_none, List.cons_append, List.nil_append, Nat.le_refl, true_and, and_true, true_or, or_true, false_or, or_false, true_implies, false_implies, implies_true, not_true_eq_false, not_false_eq_true, eq_self, Nat.reduceLT, Nat.reduceLeDiff, Nat.reduceEqDiff, Nat.reduceAdd, Nat.reduceSub, Int.reduceLT, Int.reduceLE, Int.reduceEq, Int.reduceNeg, Int.reduceNe, Int.reduceAdd, Int.reduceSub, Int.reduceMul, Int.reduceToNat, Int.toNat_zero, Int.toNat_one, Int.toNat_natCast, am_cats, am_cat, am_st1, am_st2, am_clr, up2_na, up2_nj, up2_same, List.getElem?_cons_zero, List.getElem?_cons_succ, List.set_cons_zero, List.set_cons_succ, ne_eq, tk_152 hh, m155 hh hW hw, h3, h6, n2, n3]
      exact hQ
theorem mc_pop (hh : hp T R) (hW : XB W) (hw : w ≤ 160) (hn : n < 180) {b pp c : Int} (hc : cOp (W w) = c) (h : (4 ≤ c ∧ c ≤ 6) ∨ (b = 1 ∧ 2 ≤ c ∧ c ≤ 3)) (hb : b = 0 ∨ b = 1) (hQ : wp codeT mX (d + 1) 154 0 [some (.inr (.inr (some 152))), some (.inl b)] [] (185, s, T, pI I pp fa op ((n + 1 : Nat) : Int) (w : Int) sm nm (sx X n (1048576 * c + 0)) W F H G, J, R) Q) : wp codeT mX (d + 1) 154 0 [some (.inr (.inr (some 152))), some (.inl b)] [] (185, s, T, pI I pp fa op (n : Int) ((w + 1 : Nat) : Int) sm nm X W F H G, J, R) Q := by
  have co : 0 ≤ c ∧ c ≤ 14 := by omega
  refine s154_0.mpr ?_
  by_cases h3 : c < 4
  · have hb1 : b = 1 := by omega
    subst hb1
    by_cases h2 : c = 2
    · subst h2
      simp only [s154_1, s154_2, s154_3, s154_4, s154_5, s154_6, s154_7, s154_8, s154_9, s154_10, s154_11, s154_12, s154_13, s154_14, s154_15, s154_16, s154_17, s154_18, s154_19, s154_20, s154_21, s154_22, s154_23, s154_24, s154_25, s154_26, s154_27, s154_28, s154_29, s154_30, Option.toList_some, Option.toList_none, List.cons_append, List.nil_append, Nat.le_refl, true_and, and_true, true_or, or_true, false_or, or_false, true_implies, false_implies, implies_true, not_true_eq_false, not_false_eq_true, eq_self, Nat.reduceLT, Nat.reduceLeDiff, Nat.reduceEqDiff, Nat.reduceAdd, Nat.reduceSub, Int.reduceLT, Int.reduceLE, Int.reduceEq, Int.reduceNeg, Int.reduceNe, Int.reduceAdd, Int.reduceSub, Int.reduceMul, Int.reduceToNat, Int.toNat_zero, Int.toNat_one, Int.toNat_natCast, am_cats, am_cat, am_st1, am_st2, am_clr, up2_na, up2_nj, up2_same, List.getElem?_cons_zero, List.getElem?_cons_succ, List.set_cons_zero, List.set_cons_succ, ne_eq, tk_152 hh, m155 hh hW hw, hc, m151 hh co (by decide : (0 : Int) ≤ 0 ∧ (0 : Int) < 1048576) hn, pI_23, pu_23, w32_d (show w ≤ 1080 by omega)]
      exact hQ
    · have e : c = 3 := by omega
      subst e
      simp only [s154_1, s154_2, s154_3, s154_4, s154_5, s154_6, s154_7, s154_8, s154_9, s154_10, s154_11, s154_12, s154_13, s154_14, s154_15, s154_16, s154_17, s154_18, s154_19, s154_20, s154_21, s154_22, s154_23, s154_24, s154_25, s154_26, s154_27, s154_28, s154_29, s154_30, Option.toList_some, Option.toList_none, List.cons_append, List.nil_append, Nat.le_refl, true_and, and_true, true_or, or_true, false_or, or_false, true_implies, false_implies, implies_true, not_true_eq_false, not_false_eq_true, eq_self, Nat.reduceLT, Nat.reduceLeDiff, Nat.reduceEqDiff, Nat.reduceAdd, Nat.reduceSub, Int.reduceLT, Int.reduceLE, Int.reduceEq, Int.reduceNeg, Int.reduceNe, Int.reduceAdd, Int.reduceSub, Int.reduceMul, Int.reduceToNat, Int.toNat_zero, Int.toNat_one, Int.toNat_natCast, am_cats, am_cat, am_st1, am_st2, am_clr, up2_na, up2_nj, up2_same, List.getElem?_cons_zero, List.getElem?_cons_succ, List.set_cons_zero, List.set_cons_succ, ne_eq, tk_152 hh, m155 hh hW hw, hc, m151 hh co (by decide : (0 : Int) ≤ 0 ∧ (0 : Int) < 1048576) hn, pI_23, pu_23, w32_d (show w ≤ 1080 by omega)]
      exact hQ
  · have h6 : ¬ 6 < c := by omega
    simp only [s154_1, s154_2, s154_3, s154_4, s154_5, s154_6, s154_7, s154_8, s154_9, s154_10, s154_11, s154_12, s154_13, s154_14, s154_15, s154_16, s154_17, s154_18, s154_19, s154_20, s154_21, s154_22, s154_23, s154_24, s154_25, s154_26, s154_27, s154_28, s154_29, s154_30, Option.toList_some, Option.toList_none, List.cons_append, List.nil_append, Nat.le_refl, true_and, and_true, true_or, or_true, false_or, or_false, true_implies, false_implies, implies_true, not_true_eq_false, not_false_eq_true, eq_self, Nat.reduceLT, Nat.reduceLeDiff, Nat.reduceEqDiff, Nat.reduceAdd, Nat.reduceSub, Int.reduceLT, Int.reduceLE, Int.reduceEq, Int.reduceNeg, Int.reduceNe, Int.reduceAdd, Int.reduceSub, Int.reduceMul, Int.reduceToNat, Int.toNat_zero, Int.toNat_one, Int.toNat_natCast, am_cats, am_cat, am_st1, am_st2, am_clr, up2_na, up2_nj, up2_same, List.getElem?_cons_zero, List.getElem?_cons_succ, List.set_cons_zero, List.set_cons_succ, ne_eq, tk_152 hh, m155 hh hW hw, hc, m151 hh co (by decide : (0 : Int) ≤ 0 ∧ (0 : Int) < 1048576) hn, pI_23, pu_23, w32_d (show w ≤ 1080 by omega), h3, h6]
    exact hQ
theorem cOp_m {z : Int} (h : 0 ≤ z ∧ z ≤ 2047) : cOp (1048576 * z) = z := by
  have := (cOp_c (o := z) (v := 0) h.1 (by decide) (by decide)).1
  rw [Int.add_zero] at this
  exact this
theorem mc_base (hh : hp T R) (hW : XB W) (hw : w ≤ 160) {pp : Int} (hQ : Q none (185, s, T, pI I pp fa op cm (w : Int) sm nm X W F H G, J, R)) (hs : w = 0 ∨ 10 ≤ cOp (W (w - 1))) : wp codeT mX (d + 1) 154 0 [some (.inr (.inr (some 152))), some (.inl 1)] [] (185, s, T, pI I pp fa op cm (w : Int) sm nm X W F H G, J, R) Q := by
  by_cases e : w = 0
  · subst e
    exact mc_z hh hQ (Or.inr rfl)
  · obtain ⟨v, rfl⟩ : ∃ v, w = v + 1 := ⟨w - 1, by omega⟩
    exact mc_stop hh hW (by omega) hQ (Or.inr rfl) (Or.inl (hs.resolve_left e))
theorem mc_all (hh : hp T R) (hW : XB W) {w1 : Nat} {a m pp : Int} (hp1 : pnd W w w1 a m) (hw : w1 ≤ 160) (hn : n + (pcd a m).length ≤ 180) (hs : w = 0 ∨ 10 ≤ cOp (W (w - 1))) (hQ : ∀ X1 : Nat → Int, (∀ j, j < n → X1 j = X j) → RB X1 n (pcd a m) → Q none (185, s, T, pI I pp fa op ((n + (pcd a m).length : Nat) : Int) (w : Int) sm nm X1 W F H G, J, R)) : wpc codeT mX (d + 1) 154 [.inr (.inr (some 152)), .inl 1] (185, s, T, pI I pp fa op (n : Int) (w1 : Int) sm nm X W F H G, J, R) Q := by
  obtain ⟨ha, hm, hc⟩ := hp1
  rw [e154]
  rcases hc with ⟨c1, c2, c3⟩ | ⟨c1, c2, c3, c4⟩ | ⟨c1, c2, c3, c4⟩ | ⟨c1, c2, c3, c4, c5⟩
  · subst c1 c2 c3
    exact mc_base hh hW hw (hQ X (fun _ _ => rfl) RB_nil) hs
  · subst c2 c3
    have e : pcd a 0 = [(a, 0)] := by unfold pcd; rw [if_pos rfl, if_neg c1]; rfl
    rw [e] at hQ hn
    have co : cOp (W w) = a := by rw [c4]; exact cOp_m (by omega)
    have hn : n + 1 ≤ 180 := hn
    exact mc_pop hh hW (by omega) (by omega) co (Or.inr ⟨rfl, by omega⟩) (Or.inr rfl) (mc_base hh hW (by omega) (hQ _ (fun j hj => sx_n (by omega)) RB_one) hs)
  · subst c1 c3
    have e : pcd 0 m = [(m, 0)] := by unfold pcd; rw [if_pos rfl, if_neg c2]; rfl
    rw [e] at hQ hn
    have co : cOp (W w) = m := by rw [c4]; exact cOp_m (by omega)
    have hn : n + 1 ≤ 180 := hn
    exact mc_pop hh hW (by omega) (by omega) co (Or.inl (by omega)) (Or.inr rfl) (mc_base hh hW (by omega) (hQ _ (fun j hj => sx_n (by omega)) RB_one) hs)
  · subst c3
    have e : pcd a m = [(m, 0), (a, 0)] := by unfold pcd; rw [if_neg c1, if_neg c2]; rfl
    rw [e] at hQ hn
    have co : cOp (W w) = a := by rw [c4]; exact cOp_m (by omega)
    have co2 : cOp (W (w + 1)) = m := by rw [c5]; exact cOp_m (by omega)
    have hn : n + 2 ≤ 180 := hn
    refine mc_pop hh hW (by omega) (by omega) co2 (Or.inl (by omega)) (Or.inr rfl) (mc_pop hh hW (by omega) (by omega) co (Or.inr ⟨rfl, by omega⟩) (Or.inr rfl) (mc_base hh hW (by omega) (hQ _ (fun j hj => ?_) (fun j hj => ?_)) hs))
    · rw [sx_n (by omega), sx_n (by omega)]
    · have hj : j < 2 := hj
      match j, hj with
      | 0, _ =>
        rw [sx_n (by omega)]
        exact sx_s
      | 1, _ => exact sx_s
theorem mc_mul (hh : hp T R) (hW : XB W) {w1 : Nat} {m pp : Int} (hp1 : pnd W w w1 0 m) (hw : w1 ≤ 160) (hn : n + (pcd 0 m).length ≤ 180) (hs : w = 0 ∨ 10 ≤ cOp (W (w - 1)) ∨ cOp (W (w - 1)) ≤ 3) (hQ : ∀ X1 : Nat → Int, (∀ j, j < n → X1 j = X j) → RB X1 n (pcd 0 m) → Q none (185, s, T, pI I pp fa op ((n + (pcd 0 m).length : Nat) : Int) (w : Int) sm nm X1 W F H G, J, R)) : wpc codeT mX (d + 1) 154 [.inr (.inr (some 152)), .inl 0] (185, s, T, pI I pp fa op (n : Int) (w1 : Int) sm nm X W F H G, J, R) Q := by
  have base : ∀ {cm : Int} {X : Nat → Int}, w ≤ 160 → Q none (185, s, T, pI I pp fa op cm (w : Int) sm nm X W F H G, J, R) → wp codeT mX (d + 1) 154 0 [some (.inr (.inr (some 152))), some (.inl 0)] [] (185, s, T, pI I pp fa op cm (w : Int) sm nm X W F H G, J, R) Q := by
    intro cm X hw hQ
    by_cases e : w = 0
    · subst e
      exact mc_z hh hQ (Or.inl rfl)
    · obtain ⟨v, rfl⟩ : ∃ v, w = v + 1 := ⟨w - 1, by omega⟩
      refine mc_stop hh hW (by omega) hQ (Or.inl rfl) ?_
      rcases hs.resolve_left e with h | h
      · exact Or.inl h
      · exact Or.inr ⟨rfl, h⟩
  obtain ⟨ha, hm, hc⟩ := hp1
  rw [e154]
  rcases hc with ⟨c1, c2, c3⟩ | ⟨c1, c2, c3, c4⟩ | ⟨c1, c2, c3, c4⟩ | ⟨c1, c2, c3, c4, c5⟩
  · subst c2 c3
    exact base hw (hQ X (fun _ _ => rfl) RB_nil)
  · exact absurd rfl c1
  · subst c3
    have e : pcd 0 m = [(m, 0)] := by unfold pcd; rw [if_pos rfl, if_neg c2]; rfl
    rw [e] at hQ hn
    have co : cOp (W w) = m := by rw [c4]; exact cOp_m (by omega)
    have hn : n + 1 ≤ 180 := hn
    exact mc_pop hh hW (by omega) (by omega) co (Or.inl (by omega)) (Or.inl rfl) (base (by omega) (hQ _ (fun j hj => sx_n (by omega)) RB_one))
  · exact absurd rfl c1
end
