/-! the law by hand, 9: does -/
def drw (x : Int) : Int := w32 (w32 (w32 (25173 * x) + 13849) - Int.tdiv (w32 (w32 (25173 * x) + 13849)) 65536 * 65536)
def rtX (hard had x : Int) : Int := if w32 (x - Int.tdiv x 100 * 100) < w32 (100 - (if 0 < w32 (hard - had) then w32 (hard - had) else 0)) then 1 else 0
def rtM (hard had x : Int) : Int := if w32 (x - Int.tdiv x 100 * 100) < w32 (100 - (if had < hard then w32 (hard - had) else 0)) then 1 else 0
theorem rtX_01 {a b c : Int} : 0 ≤ rtX a b c ∧ rtX a b c ≤ 1 := by unfold rtX; split <;> omega
theorem rtM_01 {a b c : Int} : 0 ≤ rtM a b c ∧ rtM a b c ≤ 1 := by unfold rtM; split <;> omega
section
variable {d s : Nat} {T : Nat → Nat × Nat} {I J : Nat → Nat → Int} {R : Nat → Nat → Option Nat} {Q : Option AV → AH → Prop}
theorem k211 {g : AH} {a b : Int} : wpc codeT mX d 211 [.inl a, .inl b] g Q ↔ Q (some (.inl (if a < b then b else a))) g := wpc_det (by
  simp only [e211, s211_0, s211_1, s211_2, s211_3, s211_4, s211_5, s211_6, Option.toList_some, Option.toList_none, List.cons_append, List.nil_append, Nat.le_refl, true_and, and_true, true_or, or_true, false_or, or_false, true_implies, false_implies, implies_true, not_true_eq_false, not_false_eq_true, eq_self, Nat.reduceLT, Nat.reduceLeDiff, Nat.reduceEqDiff, Nat.reduceAdd, Nat.reduceSub, Int.reduceLT, Int.reduceLE, Int.reduceEq, Int.reduceNeg, Int.reduceNe, Int.reduceAdd, Int.reduceSub, Int.reduceMul, Int.reduceToNat, Int.toNat_zero, Int.toNat_one, Int.toNat_natCast, am_cats, am_cat, am_st1, am_st2, am_clr, up2_na, up2_nj, up2_same, List.getElem?_cons_zero, List.getElem?_cons_succ, List.set_cons_zero, List.set_cons_succ, ne_eq]
  refine ⟨fun h => ?_, fun h => ?_⟩
  · rw [if_pos h]
  · rw [if_neg h])
theorem k212 {g : AH} {a b : Int} : wpc codeT mX d 212 [.inl a, .inl b] g Q ↔ Q (some (.inl (if b < a then b else a))) g := wpc_det (by
  simp only [e212, s212_0, s212_1, s212_2, s212_3, s212_4, s212_5, s212_6, Option.toList_some, Option.toList_none, List.cons_append, List.nil_append, Nat.le_refl, true_and, and_true, true_or, or_true, false_or, or_false, true_implies, false_implies, implies_true, not_true_eq_false, not_false_eq_true, eq_self, Nat.reduceLT, Nat.reduceLeDiff, Nat.reduceEqDiff, Nat.reduceAdd, Nat.reduceSub, Int.reduceLT, Int.reduceLE, Int.reduceEq, Int.reduceNeg, Int.reduceNe, Int.reduceAdd, Int.reduceSub, Int.reduceMul, Int.reduceToNat, Int.toNat_zero, Int.toNat_one, Int.toNat_natCast, am_cats, am_cat, am_st1, am_st2, am_clr, up2_na, up2_nj, up2_same, List.getElem?_cons_zero, List.getElem?_cons_succ, List.set_cons_zero, List.set_cons_succ, ne_eq]
  refine ⟨fun h => ?_, fun h => ?_⟩
  · rw [if_pos h]
  · rw [if_neg h])
theorem k69 {g : AH} {a : Int} : wpc codeT mX d 69 [.inl a] g Q ↔ Q (some (.inl (drw a))) g := wpc_det (by
  simp only [e69, s69_0, s69_1, s69_2, s69_3, s69_4, s69_5, s69_6, s69_7, Option.toList_some, Option.toList_none, List.cons_append, List.nil_append, Nat.le_refl, true_and, and_true, true_or, or_true, false_or, or_false, true_implies, false_implies, implies_true, not_true_eq_false, not_false_eq_true, eq_self, Nat.reduceLT, Nat.reduceLeDiff, Nat.reduceEqDiff, Nat.reduceAdd, Nat.reduceSub, Int.reduceLT, Int.reduceLE, Int.reduceEq, Int.reduceNeg, Int.reduceNe, Int.reduceAdd, Int.reduceSub, Int.reduceMul, Int.reduceToNat, Int.toNat_zero, Int.toNat_one, Int.toNat_natCast, am_cats, am_cat, am_st1, am_st2, am_clr, up2_na, up2_nj, up2_same, List.getElem?_cons_zero, List.getElem?_cons_succ, List.set_cons_zero, List.set_cons_succ, ne_eq]
  rfl)
theorem k70 (hh : hp T R) {t : Nat} {x z : Int} (t8 : t < 8) : wpc codeT mX (d + 1) 70 [.inr (.inr (some 0)), .inl x, .inl (t : Int), .inl z] (185, s, T, I, J, R) Q ↔ Q (some (.inl (rtX (I 14 t) z x))) (185, s, T, I, J, R) := wpc_det (by
  have u : 0 ≤ (t : Int) ∧ (t : Int) < ((8 : Nat) : Int) := by omega
  simp only [e70, s70_0, s70_1, s70_2, s70_3, s70_4, s70_5, s70_6, s70_7, s70_8, s70_9, s70_10, s70_11, s70_12, s70_13, s70_14, s70_15, s70_16, s70_17, s70_18, Option.toList_some, Option.toList_none, List.cons_append, List.nil_append, Nat.le_refl, true_and, and_true, true_or, or_true, false_or, or_false, true_implies, false_implies, implies_true, not_true_eq_false, not_false_eq_true, eq_self, Nat.reduceLT, Nat.reduceLeDiff, Nat.reduceEqDiff, Nat.reduceAdd, Nat.reduceSub, Int.reduceLT, Int.reduceLE, Int.reduceEq, Int.reduceNeg, Int.reduceNe, Int.reduceAdd, Int.reduceSub, Int.reduceMul, Int.reduceToNat, Int.toNat_zero, Int.toNat_one, Int.toNat_natCast, am_cats, am_cat, am_st1, am_st2, am_clr, up2_na, up2_nj, up2_same, List.getElem?_cons_zero, List.getElem?_cons_succ, List.set_cons_zero, List.set_cons_succ, ne_eq, tk_0 hh, tk_3 hh, tk_14 hh, rk_0_6 hh, rk_3_2 hh, k211, u]
  refine ⟨fun h => ?_, fun h => ?_⟩
  · unfold rtX; rw [if_pos h]
  · unfold rtX; rw [if_neg h])
theorem k172 (hh : hp T R) {t : Nat} {z : Int} (t8 : t < 8) : wpc codeT mX d 172 [.inr (.inr (some 152)), .inl (t : Int), .inl z] (185, s, T, I, J, R) Q ↔ Q (some (.inl (rtM (I 156 t) z (drw (I 152 6))))) (185, s, T, up2 I 152 6 (drw (I 152 6)), J, R) := wpc_det (by
  have u : 0 ≤ (t : Int) ∧ (t : Int) < ((8 : Nat) : Int) := by omega
  simp only [e172, s172_0, s172_1, s172_2, s172_3, s172_4, s172_5, s172_6, s172_7, s172_8, s172_9, s172_10, s172_11, s172_12, s172_13, s172_14, s172_15, s172_16, s172_17, s172_18, s172_19, s172_20, s172_21, s172_22, s172_23, s172_24, s172_25, s172_26, s172_27, s172_28, s172_29, s172_30, s172_31, s172_32, s172_33, s172_34, s172_35, s172_36, Option.toList_some, Option.toList_none, List.cons_append, List.nil_append, Nat.le_refl, true_and, and_true, true_or, or_true, false_or, or_false, true_implies, false_implies, implies_true, not_true_eq_false, not_false_eq_true, eq_self, Nat.reduceLT, Nat.reduceLeDiff, Nat.reduceEqDiff, Nat.reduceAdd, Nat.reduceSub, Int.reduceLT, Int.reduceLE, Int.reduceEq, Int.reduceNeg, Int.reduceNe, Int.reduceAdd, Int.reduceSub, Int.reduceMul, Int.reduceToNat, Int.toNat_zero, Int.toNat_one, Int.toNat_natCast, am_cats, am_cat, am_st1, am_st2, am_clr, up2_na, up2_nj, up2_same, List.getElem?_cons_zero, List.getElem?_cons_succ, List.set_cons_zero, List.set_cons_succ, ne_eq, tk_152 hh, tk_156 hh, rk_152_10 hh, u]
  have e : w32 (w32 (w32 (25173 * I 152 6) + 13849) - Int.tdiv (w32 (w32 (25173 * I 152 6) + 13849)) 65536 * 65536) = drw (I 152 6) := rfl
  rw [e]
  unfold rtM
  generalize drw (I 152 6) = x
  refine ⟨fun h => ⟨fun h2 => ?_, fun h2 => ?_⟩, fun h => ⟨fun h2 => ?_, fun h2 => ?_⟩⟩
  · refine ⟨rfl, ?_⟩; rw [if_pos h, if_pos h2]
  · refine ⟨rfl, ?_⟩; rw [if_pos h, if_neg h2]
  · refine ⟨rfl, ?_⟩; rw [if_neg h, Int.sub_zero, if_pos h2]
  · refine ⟨rfl, ?_⟩; rw [if_neg h, Int.sub_zero, if_neg h2])
/-- what a class's has may write -/
def mHas : MO := cn80.2.2.2.1
theorem x66 (hh : hp T R) {h t n : Nat} (h6 : h < 6) (t8 : t < 8) (hn : I 17 3 = n) (hlt : n < 200) (g1 : (h : Int) < I 0 2) (g2 : (t : Int) < I 3 3) (W : wpc codeT mX (d + 2) 68 [.inr (.inr (some 0)), .inl (h : Int), .inl (t : Int), .inr (.inr (some 31)), .inl (I 0 0)] (185, s, T, I, J, R) (fun v g1 => ∃ (z : Int) (I1 J1 : Nat → Nat → Int) (R1 : Nat → Nat → Option Nat), v = some (.inl z) ∧ g1 = (185, s, T, I1, J1, R1) ∧ hp T R1 ∧ (∀ a j, inM mHas a j = false → I1 a j = I a j) ∧ Q (some (.inl (rtX (I 14 t) z (drw (I 0 4))))) (185, s, T, adX (up2 I1 0 4 (drw (I 0 4))) h t n (I 0 0) (rtX (I 14 t) z (drw (I 0 4))) z, J1, R1))) : wpc codeT mX (d + 3) 66 [.inr (.inr (some 0)), .inl (h : Int), .inl (t : Int)] (185, s, T, I, J, R) Q := by
  have c1 : 0 ≤ (h : Int) ∧ (h : Int) < I 0 2 := by omega
  have c2 : 0 ≤ (t : Int) ∧ (t : Int) < I 3 3 := by omega
  have c3 : ¬ 200 ≤ (n : Int) := by omega
  have tail : ∀ v g1, (∃ (z : Int) (I1 J1 : Nat → Nat → Int) (R1 : Nat → Nat → Option Nat), v = some (.inl z) ∧ g1 = (185, s, T, I1, J1, R1) ∧ hp T R1 ∧ (∀ a j, inM mHas a j = false → I1 a j = I a j) ∧ Q (some (.inl (rtX (I 14 t) z (drw (I 0 4))))) (185, s, T, adX (up2 I1 0 4 (drw (I 0 4))) h t n (I 0 0) (rtX (I 14 t) z (drw (I 0 4))) z, J1, R1)) → (185 ≤ g1.1 ∧ s ≤ g1.2.1) ∧ wp codeT mX (d + 3) 66 23 [some (.inr (.inr (some 0))), some (.inl (h : Int)), some (.inl (t : Int)), none, none] (v.toList ++ []) g1 Q := by
    rintro v g1 ⟨z, I1, J1, R1, rfl, rfl, hh1, hI, hQ⟩
    refine ⟨⟨Nat.le_refl _, Nat.le_refl _⟩, ?_⟩
    have f4 : I1 0 4 = I 0 4 := hI 0 4 (by decide +kernel)
    have f0 : I1 0 0 = I 0 0 := hI 0 0 (by decide +kernel)
    have f14 : I1 14 t = I 14 t := hI 14 t (by
      have : ∀ q, q < 8 → inM mHas 14 q = false := by decide +kernel
      exact this t t8)
    have f17 : up2 I1 0 4 (drw (I 0 4)) 17 3 = (n : Int) := by rw [up2_na (by decide)]; exact (hI 17 3 (by decide +kernel)).trans hn
    have r01 : ¬ rtX (I 14 t) z (drw (I 0 4)) = 0 → rtX (I 14 t) z (drw (I 0 4)) = 1 := by
      have := rtX_01 (a := I 14 t) (b := z) (c := drw (I 0 4))
      omega
    generalize hr : rtX (I 14 t) z (drw (I 0 4)) = r at *
    by_cases h0 : r = 0
    · subst h0
      simp only [s66_23, s66_24, s66_25, s66_26, s66_27, s66_28, s66_29, s66_30, s66_31, s66_32, s66_33, s66_34, s66_35, s66_36, s66_37, s66_38, s66_39, s66_40, s66_41, s66_42, s66_43, s66_44, s66_45, s66_46, s66_47, s66_48, s66_49, s66_50, s66_51, Option.toList_some, Option.toList_none, List.cons_append, List.nil_append, Nat.le_refl, true_and, and_true, true_or, or_true, false_or, or_false, true_implies, false_implies, implies_true, not_true_eq_false, not_false_eq_true, eq_self, Nat.reduceLT, Nat.reduceLeDiff, Nat.reduceEqDiff, Nat.reduceAdd, Nat.reduceSub, Int.reduceLT, Int.reduceLE, Int.reduceEq, Int.reduceNeg, Int.reduceNe, Int.reduceAdd, Int.reduceSub, Int.reduceMul, Int.reduceToNat, Int.toNat_zero, Int.toNat_one, Int.toNat_natCast, am_cats, am_cat, am_st1, am_st2, am_clr, up2_na, up2_nj, up2_same, List.getElem?_cons_zero, List.getElem?_cons_succ, List.set_cons_zero, List.set_cons_succ, ne_eq, tk_0 hh1, tk_17 hh1, rk_0_7 hh1, f4, f0, f14, k69, k70 hh1 t8, k71 hh1 f17 hlt h6 t8, hr]
      exact hQ
    · have h1 := r01 h0
      subst h1
      simp only [s66_23, s66_24, s66_25, s66_26, s66_27, s66_28, s66_29, s66_30, s66_31, s66_32, s66_33, s66_34, s66_35, s66_36, s66_37, s66_38, s66_39, s66_40, s66_41, s66_42, s66_43, s66_44, s66_45, s66_46, s66_47, s66_48, s66_49, s66_50, s66_51, Option.toList_some, Option.toList_none, List.cons_append, List.nil_append, Nat.le_refl, true_and, and_true, true_or, or_true, false_or, or_false, true_implies, false_implies, implies_true, not_true_eq_false, not_false_eq_true, eq_self, Nat.reduceLT, Nat.reduceLeDiff, Nat.reduceEqDiff, Nat.reduceAdd, Nat.reduceSub, Int.reduceLT, Int.reduceLE, Int.reduceEq, Int.reduceNeg, Int.reduceNe, Int.reduceAdd, Int.reduceSub, Int.reduceMul, Int.reduceToNat, Int.toNat_zero, Int.toNat_one, Int.toNat_natCast, am_cats, am_cat, am_st1, am_st2, am_clr, up2_na, up2_nj, up2_same, List.getElem?_cons_zero, List.getElem?_cons_succ, List.set_cons_zero, List.set_cons_succ, ne_eq, tk_0 hh1, tk_17 hh1, rk_0_7 hh1, f4, f0, f14, k69, k70 hh1 t8, k71 hh1 f17 hlt h6 t8, hr]
      exact hQ
  simp only [s66_0, s66_1, s66_2, s66_3, s66_4, s66_5, s66_6, s66_7, s66_8, s66_9, s66_10, s66_11, s66_12, s66_13, s66_14, s66_15, s66_16, s66_17, s66_18, s66_19, s66_20, s66_21, s66_22, e66, Option.toList_some, Option.toList_none, List.cons_append, List.nil_append, Nat.le_refl, true_and, and_true, true_or, or_true, false_or, or_false, true_implies, false_implies, implies_true, not_true_eq_false, not_false_eq_true, eq_self, Nat.reduceLT, Nat.reduceLeDiff, Nat.reduceEqDiff, Nat.reduceAdd, Nat.reduceSub, Int.reduceLT, Int.reduceLE, Int.reduceEq, Int.reduceNeg, Int.reduceNe, Int.reduceAdd, Int.reduceSub, Int.reduceMul, Int.reduceToNat, Int.toNat_zero, Int.toNat_one, Int.toNat_natCast, am_cats, am_cat, am_st1, am_st2, am_clr, up2_na, up2_nj, up2_same, List.getElem?_cons_zero, List.getElem?_cons_succ, List.set_cons_zero, List.set_cons_succ, ne_eq, tk_0 hh, tk_17 hh, tk_31 hh, rk_0_7 hh, rk_17_2 hh, k16 hh, k51 hh, k67 hh, i10, c1, c2, c3, hn]
  exact wpc_mono W tail
theorem x170 (hh : hp T R) {h t n : Nat} (h6 : h < 6) (t8 : t < 8) (hn : I 152 4 = n) (hlt : n < 200) (g1 : (h : Int) < I 152 2) (g2 : (t : Int) < I 152 3) (W : wpc codeT mX (d + 2) 171 [.inr (.inr (some 152)), .inl (h : Int), .inl (t : Int), .inl (n : Int), .inl (I 152 0)] (185, s, T, I, J, R) (fun v g1 => ∃ (z : Int) (I1 J1 : Nat → Nat → Int) (R1 : Nat → Nat → Option Nat), v = some (.inl z) ∧ g1 = (185, s, T, I1, J1, R1) ∧ hp T R1 ∧ (∀ a j, inM cn144.2.2.2.1 a j = false → I1 a j = I a j) ∧ Q (some (.inl (rtM (I 156 t) z (drw (I 152 6))))) (185, s, T, adR (up2 I1 152 6 (drw (I 152 6))) h t n (I 152 0) (rtM (I 156 t) z (drw (I 152 6))) z, J1, R1))) : wpc codeT mX (d + 3) 170 [.inr (.inr (some 152)), .inl (h : Int), .inl (t : Int)] (185, s, T, I, J, R) Q := by
  have c1 : 0 ≤ (h : Int) ∧ (h : Int) < I 152 2 := by omega
  have c2 : 0 ≤ (t : Int) ∧ (t : Int) < I 152 3 := by omega
  have c3 : ¬ (n : Int) = 200 := by omega
  have u1 : 0 ≤ (n : Int) ∧ (n : Int) < ((200 : Nat) : Int) := by omega
  have o3 : ((n + 1 : Nat) : Int) - 1 = (n : Int) := by omega
  have o4 : n ≤ 2000000000 := by omega
  have tail : ∀ v g1, (∃ (z : Int) (I1 J1 : Nat → Nat → Int) (R1 : Nat → Nat → Option Nat), v = some (.inl z) ∧ g1 = (185, s, T, I1, J1, R1) ∧ hp T R1 ∧ (∀ a j, inM cn144.2.2.2.1 a j = false → I1 a j = I a j) ∧ Q (some (.inl (rtM (I 156 t) z (drw (I 152 6))))) (185, s, T, adR (up2 I1 152 6 (drw (I 152 6))) h t n (I 152 0) (rtM (I 156 t) z (drw (I 152 6))) z, J1, R1)) → (185 ≤ g1.1 ∧ s ≤ g1.2.1) ∧ wp codeT mX (d + 3) 170 22 [some (.inr (.inr (some 152))), some (.inl (h : Int)), some (.inl (t : Int)), none] (v.toList ++ []) g1 Q := by
    rintro v g1 ⟨z, I1, J1, R1, rfl, rfl, hh1, hI, hQ⟩
    refine ⟨⟨Nat.le_refl _, Nat.le_refl _⟩, ?_⟩
    have f6 : I1 152 6 = I 152 6 := hI 152 6 (by decide +kernel)
    have f0 : I1 152 0 = I 152 0 := hI 152 0 (by decide +kernel)
    have f156 : I1 156 t = I 156 t := hI 156 t (by
      have : ∀ q, q < 8 → inM cn144.2.2.2.1 156 q = false := by decide +kernel
      exact this t t8)
    have f17 : up2 I1 152 6 (drw (I 152 6)) 152 4 = (n : Int) := by rw [up2_nj (by decide)]; exact (hI 152 4 (by decide +kernel)).trans hn
    have v2 := w32_c o3 o4
    simp only [s170_22, s170_23, s170_24, s170_25, s170_26, s170_27, s170_28, s170_29, s170_30, s170_31, s170_32, s170_33, s170_34, s170_35, s170_36, s170_37, s170_38, s170_39, s170_40, s170_41, Option.toList_some, Option.toList_none, List.cons_append, List.nil_append, Nat.le_refl, true_and, and_true, true_or, or_true, false_or, or_false, true_implies, false_implies, implies_true, not_true_eq_false, not_false_eq_true, eq_self, Nat.reduceLT, Nat.reduceLeDiff, Nat.reduceEqDiff, Nat.reduceAdd, Nat.reduceSub, Int.reduceLT, Int.reduceLE, Int.reduceEq, Int.reduceNeg, Int.reduceNe, Int.reduceAdd, Int.reduceSub, Int.reduceMul, Int.reduceToNat, Int.toNat_zero, Int.toNat_one, Int.toNat_natCast, am_cats, am_cat, am_st1, am_st2, am_clr, up2_na, up2_nj, up2_same, List.getElem?_cons_zero, List.getElem?_cons_succ, List.set_cons_zero, List.set_cons_succ, ne_eq, tk_152 hh1, tk_160 hh1, rk_152_14 hh1, f6, f0, f156, k172 hh1 t8, k173 hh1 f17 hlt, adR_4, adR_r, v2, u1]
    exact hQ
  simp only [s170_0, s170_1, s170_2, s170_3, s170_4, s170_5, s170_6, s170_7, s170_8, s170_9, s170_10, s170_11, s170_12, s170_13, s170_14, s170_15, s170_16, s170_17, s170_18, s170_19, s170_20, s170_21, e170, Option.toList_some, Option.toList_none, List.cons_append, List.nil_append, Nat.le_refl, true_and, and_true, true_or, or_true, false_or, or_false, true_implies, false_implies, implies_true, not_true_eq_false, not_false_eq_true, eq_self, Nat.reduceLT, Nat.reduceLeDiff, Nat.reduceEqDiff, Nat.reduceAdd, Nat.reduceSub, Int.reduceLT, Int.reduceLE, Int.reduceEq, Int.reduceNeg, Int.reduceNe, Int.reduceAdd, Int.reduceSub, Int.reduceMul, Int.reduceToNat, Int.toNat_zero, Int.toNat_one, Int.toNat_natCast, am_cats, am_cat, am_st1, am_st2, am_clr, up2_na, up2_nj, up2_same, List.getElem?_cons_zero, List.getElem?_cons_succ, List.set_cons_zero, List.set_cons_succ, ne_eq, tk_152 hh, k134 hh, k164 hh, i10, c1, c2, c3, hn]
  exact wpc_mono W tail
end
section
variable {L s d : Nat} {X : Nat → Int}
theorem pr_does (hL : L ≤ 3072) (hX : ∀ j, rg32 (X j)) (hd : 40 ≤ d) : pr L X s LKP d 66 170 2 false false := by
  refine pr_mk (cx := cn82) (cm := cn145) (nx := 2) (nm := 1) hL hX (cn_all 82 (by decide) cn82 rfl) (cn_all 145 (by decide) cn145 rfl) rfl hd (fun as g hl hr hH hs hP => ?_)
  obtain ⟨a, b, rfl⟩ := len2 hl
  obtain ⟨c, s, T, I, J, R⟩ := g
  obtain ⟨d, rfl⟩ : ∃ e, d = e + 3 := ⟨d - 3, by omega⟩
  have hc : c = 185 := hH.1
  subst hc
  have hh := hp_of (eH5_of hH)
  have hP : LK I := hP
  obtain ⟨l0, l1, l2, l3, l4, l5, l6, l7, l8, l9, l10, l11, l12, l13, l14, l15⟩ := hP
  have e0 : I 0 0 = I 152 0 := l0
  have e2 : I 0 2 = I 152 2 := l2
  have e3 : I 3 3 = I 152 3 := l5
  have e4 : I 17 3 = I 152 4 := l6
  have ex : I 0 4 = I 152 6 := l4
  have b0 : 0 ≤ I 0 0 ∧ I 0 0 ≤ 299 := ebd hH (by decide) (by decide) (by decide)
  have b2 : 0 ≤ I 0 2 ∧ I 0 2 ≤ 6 := ebd hH (by decide) (by decide) (by decide)
  have b3 : 0 ≤ I 3 3 ∧ I 3 3 ≤ 8 := ebd hH (by decide) (by decide) (by decide)
  have b4 : 0 ≤ I 17 3 ∧ I 17 3 ≤ 200 := ebd hH (by decide) (by decide) (by decide)
  obtain ⟨n, hn⟩ : ∃ n : Nat, I 17 3 = n := ⟨(I 17 3).toNat, by omega⟩
  have hm : I 152 4 = n := e4.symm.trans hn
  have n200 : n ≤ 200 := by omega
  show wpc codeT mX (d + 3) 66 [.inr (.inr (some 0)), .inl a, .inl b] _ _
  by_cases hg : (0 ≤ a ∧ a < I 0 2) ∧ (0 ≤ b ∧ b < I 3 3) ∧ n < 200
  · obtain ⟨g1, g2, g4⟩ := hg
    obtain ⟨h, rfl⟩ : ∃ n : Nat, a = n := ⟨a.toNat, by omega⟩
    obtain ⟨t, rfl⟩ : ∃ n : Nat, b = n := ⟨b.toNat, by omega⟩
    have h6 : h < 6 := by omega
    have t8 : t < 8 := by omega
    have h5' : (h : Int) ≤ 5 := by omega
    have t7' : (t : Int) ≤ 7 := by omega
    have n9' : (n : Int) ≤ 199 := by omega
    have b0m : 0 ≤ I 152 0 ∧ I 152 0 ≤ 299 := by omega
    have h0' : 0 ≤ (h : Int) := by omega
    have t0' : 0 ≤ (t : Int) := by omega
    have n0' : 0 ≤ (n : Int) := by omega
    refine x66 hh h6 t8 hn g4 g1.2 g2.2 ?_
    have hc80 := cn_all 80 (by decide) cn80 rfl
    refine wp_mono codeT mX (hc80 (185, s, T, I, J, R) [some (.inr (.inr (some 0))), some (.inl (h : Int)), some (.inl (t : Int)), some (.inr (.inr (some 31))), some (.inl (I 0 0)), none, none, none, none] hH hs ⟨⟨⟨rfl, List.mem_singleton.mpr rfl, by decide, by decide⟩, ⟨rfl, h0', h5'⟩, ⟨rfl, t0', t7'⟩, ⟨rfl, List.mem_cons_self .., by decide, by decide⟩, ⟨rfl, b0.1, b0.2⟩, trivial, trivial, trivial, trivial, trivial⟩, fun e he => (List.not_mem_nil he).elim, fun e he => (List.not_mem_nil he).elim, fun e he => (List.not_mem_nil he).elim⟩ (d + 2) (Nat.le_trans (show cn80.2.2.2.2.1 ≤ 39 by decide) (by omega))) ?_
    rintro v ⟨c1, sa, Ta, I1, J1, R1⟩ ⟨r1, r2, r3⟩
    obtain ⟨z, rfl⟩ : ∃ z : Int, v = some (.inl z) := ansB_r (lg := false) (c := cn80) rfl r1
    have ec : c1 = 185 := r2.1
    have es : sa = s := r3.2.1
    have eT : Ta = T := r3.2.2.1
    subst ec es eT
    refine ⟨z, I1, J1, R1, rfl, rfl, hp_of (eH5_of r2), fun x y hx => (r3.2.2.2 x y hx).1, ?_⟩
    intro _ hH1 m1 sc1
    refine ⟨_, rfl, ?_⟩
    have hh1 := hp_of (eH5_of hH1)
    generalize hI2 : adX (up2 I1 0 4 (drw (I 0 4))) h t n (I 0 0) (rtX (I 14 t) z (drw (I 0 4))) z = I2 at *
    have f2 : I2 152 2 = I 152 2 := (m1.2.2.2 152 2 (by decide +kernel)).1
    have f3 : I2 152 3 = I 152 3 := (m1.2.2.2 152 3 (by decide +kernel)).1
    have f4 : I2 152 4 = I 152 4 := (m1.2.2.2 152 4 (by decide +kernel)).1
    have f0 : I2 152 0 = I 152 0 := (m1.2.2.2 152 0 (by decide +kernel)).1
    have f6 : I2 152 6 = I 152 6 := (m1.2.2.2 152 6 (by decide +kernel)).1
    have fc : ∀ x j, (x = 157 ∨ x = 158 ∨ x = 159) → I2 x j = I x j := by
      intro x j hx
      refine (m1.2.2.2 x j ?_).1
      rcases hx with rfl | rfl | rfl <;> rfl
    have fX : ∀ x j, (x = 17 ∧ j = 3 ∨ (x = 19 ∨ x = 20 ∨ x = 21)) → I2 x j = adX I h t n (I 0 0) (rtX (I 14 t) z (drw (I 0 4))) z x j := by
      intro x j hx
      rw [← hI2]
      rcases hx with ⟨rfl, rfl⟩ | hx
      · rw [adX_3, adX_3]
      · by_cases hj : j = n
        · subst hj
          rcases hx with rfl | rfl | rfl
          · rw [adX_h h6, adX_h h6]
          · rw [adX_t h6, adX_t h6]
          · rw [adX_d h6, adX_d h6]
        · have e5 : up2 I1 0 4 (drw (I 0 4)) x j = I x j := by
            rw [up2_na (by omega)]
            refine (r3.2.2.2 x j ?_).1
            rcases hx with rfl | rfl | rfl <;> rfl
          rw [adX_o (by omega) h6, adX_o (by omega) h6]
          exact e5
    have fx : I2 0 4 = drw (I 0 4) := by
      rw [← hI2, adX_o (by omega) h6, up2_same]
    show wpc codeT mX (d + 3) 170 [.inr (.inr (some 152)), .inl (h : Int), .inl (t : Int)] (185, sa, Ta, I2, J1, R1) _
    refine x170 hh1 h6 t8 (f4.trans hm) g4 (by rw [f2]; omega) (by rw [f3]; omega) ?_
    have hc144 := cn_all 144 (by decide) cn144 rfl
    refine wp_mono codeT mX (hc144 (185, sa, Ta, I2, J1, R1) [some (.inr (.inr (some 152))), some (.inl (h : Int)), some (.inl (t : Int)), some (.inl (n : Int)), some (.inl (I2 152 0)), none, none, none] hH1 sc1 ⟨⟨⟨rfl, List.mem_singleton.mpr rfl, by decide, by decide⟩, ⟨rfl, h0', h5'⟩, ⟨rfl, t0', t7'⟩, ⟨rfl, n0', n9'⟩, ⟨rfl, by rw [f0]; exact b0m.1, by rw [f0]; exact b0m.2⟩, trivial, trivial, trivial, trivial⟩, fun e he => (List.not_mem_nil he).elim, fun e he => (List.not_mem_nil he).elim, fun e he => (List.not_mem_nil he).elim⟩ (d + 2) (Nat.le_trans (show cn144.2.2.2.2.1 ≤ 39 by decide) (by omega))) ?_
    rintro v ⟨c3, sb, Tb, I3, J3, R3⟩ ⟨t1, t2, t3⟩
    obtain ⟨z3, rfl⟩ : ∃ z : Int, v = some (.inl z) := ansB_r (lg := false) (c := cn144) rfl t1
    have ec : c3 = 185 := t2.1
    have es : sb = sa := t3.2.1
    have eT : Tb = Ta := t3.2.2.1
    subst ec es eT
    refine ⟨z3, I3, J3, R3, rfl, rfl, hp_of (eH5_of t2), fun x y hx => (t3.2.2.2 x y hx).1, ?_⟩
    intro _ hH2 m2
    refine ⟨_, rfl, fun z => (by cases z), ?_⟩
    have g3 : ∀ x j, (x = 17 ∨ x = 19 ∨ x = 20 ∨ x = 21 ∨ x = 157 ∨ x = 158 ∨ x = 159) → up2 I3 152 6 (drw (I2 152 6)) x j = I2 x j := by
      intro x j hx
      rw [up2_na (by omega)]
      refine (t3.2.2.2 x j ?_).1
      rcases hx with rfl | rfl | rfl | rfl | rfl | rfl | rfl <;> rfl
    have n4 : ∀ y r z : Int, twn 0 4 152 6 (adR (up2 I3 152 6 (drw (I2 152 6))) h t n y r z) := by
      intro y r z
      unfold twn
      rw [adR_o (by omega), adR_o (by omega), up2_same, up2_na (by decide), f6, ← ex]
      exact ((t3.2.2.2 0 4 (by decide +kernel)).1).trans fx
    have n6 : ∀ y r z : Int, twn 17 3 152 4 (adR (up2 I3 152 6 (drw (I2 152 6))) h t n y r z) := by
      intro y r z
      unfold twn
      rw [adR_o (by omega), adR_4, g3 17 3 (by omega), fX 17 3 (by omega), adX_3]
    have n12 : ∀ r z : Int, lkB (adR (up2 I3 152 6 (drw (I2 152 6))) h t n (I2 152 0) r z) := by
      intro r z'
      rw [f0, ← e0]
      exact lkB_ad (I := I) (r1 := rtX (I 14 t) z (drw (I 0 4))) (h1 := z) h6 hn (fun x j hx => (g3 x j (by omega)).trans (fc x j hx)) (fun x j hx => (g3 x j (by omega)).trans (fX x j hx)) l12
    refine ⟨rdS_2 (twn_S 0 0 152 0) (by decide +kernel : (disj cn82.2.2.2.1 _ && disj cn145.2.2.2.1 _) = true) m1 m2 l0, rdS_2 (twn_S 0 1 152 1) (by decide +kernel : (disj cn82.2.2.2.1 _ && disj cn145.2.2.2.1 _) = true) m1 m2 l1, rdS_2 (twn_S 0 2 152 2) (by decide +kernel : (disj cn82.2.2.2.1 _ && disj cn145.2.2.2.1 _) = true) m1 m2 l2, rdS_2 (twn_S 0 3 152 5) (by decide +kernel : (disj cn82.2.2.2.1 _ && disj cn145.2.2.2.1 _) = true) m1 m2 l3, ?_, rdS_2 (twn_S 3 3 152 3) (by decide +kernel : (disj cn82.2.2.2.1 _ && disj cn145.2.2.2.1 _) = true) m1 m2 l5, ?_, rdS_2 (twn_S 102 3 152 46) (by decide +kernel : (disj cn82.2.2.2.1 _ && disj cn145.2.2.2.1 _) = true) m1 m2 l7, rdS_2 (twn_S 1 1 152 17) (by decide +kernel : (disj cn82.2.2.2.1 _ && disj cn145.2.2.2.1 _) = true) m1 m2 l8, rdS_2 (lkY_S) (by decide +kernel : (disj cn82.2.2.2.1 _ && disj cn145.2.2.2.1 _) = true) m1 m2 l9, rdS_2 (lkS_S) (by decide +kernel : (disj cn82.2.2.2.1 _ && disj cn145.2.2.2.1 _) = true) m1 m2 l10, rdS_2 (lkT_S) (by decide +kernel : (disj cn82.2.2.2.1 _ && disj cn145.2.2.2.1 _) = true) m1 m2 l11, ?_, rdS_2 (lkO_S) (by decide +kernel : (disj cn82.2.2.2.1 _ && disj cn145.2.2.2.1 _) = true) m1 m2 l13, rdS_2 (lkC_S) (by decide +kernel : (disj cn82.2.2.2.1 _ && disj cn145.2.2.2.1 _) = true) m1 m2 l14, rdS_2 (lkQ_S) (by decide +kernel : (disj cn82.2.2.2.1 _ && disj cn145.2.2.2.1 _) = true) m1 m2 l15⟩
    · exact n4 _ _ _
    · exact n6 _ _ _
    · exact n12 _ _
  · have hg2 : ¬ ((0 ≤ a ∧ a < I 152 2) ∧ (0 ≤ b ∧ b < I 152 3) ∧ n < 200) := by rw [← e2, ← e3]; exact hg
    have fin : ∀ Q : Option AV → AH → Prop, Q (some (.inl (-1))) (185, s, T, I, J, R) → wpc codeT mX (d + 3) 170 [.inr (.inr (some 152)), .inl a, .inl b] (185, s, T, I, J, R) Q := by
      intro Q hQ
      simp only [s170_0, s170_1, s170_2, s170_3, s170_4, s170_5, s170_6, s170_7, s170_8, s170_9, s170_10, s170_11, s170_12, s170_13, e170, Option.toList_some, Option.toList_none, List.cons_append, List.nil_append, Nat.le_refl, true_and, and_true, true_or, or_true, false_or, or_false, true_implies, false_implies, implies_true, not_true_eq_false, not_false_eq_true, eq_self, Nat.reduceLT, Nat.reduceLeDiff, Nat.reduceEqDiff, Nat.reduceAdd, Nat.reduceSub, Int.reduceLT, Int.reduceLE, Int.reduceEq, Int.reduceNeg, Int.reduceNe, Int.reduceAdd, Int.reduceSub, Int.reduceMul, Int.reduceToNat, Int.toNat_zero, Int.toNat_one, Int.toNat_natCast, am_cats, am_cat, am_st1, am_st2, am_clr, up2_na, up2_nj, up2_same, List.getElem?_cons_zero, List.getElem?_cons_succ, List.set_cons_zero, List.set_cons_succ, ne_eq, tk_152 hh, k134 hh, k164 hh, i10, Classical.not_not, hm]
      exact ⟨fun _ => hQ, fun q1 => ⟨fun _ => hQ, fun q2 => ⟨fun _ => hQ, fun q3 => absurd ⟨q1, q2, by omega⟩ hg2⟩⟩⟩
    have go : ∀ Q : Option AV → AH → Prop, Q (some (.inl (-1))) (185, s, T, I, J, R) → wpc codeT mX (d + 3) 66 [.inr (.inr (some 0)), .inl a, .inl b] (185, s, T, I, J, R) Q := by
      intro Q hQ
      simp only [s66_0, s66_1, s66_2, s66_3, s66_4, s66_5, s66_6, s66_7, s66_8, s66_9, s66_10, s66_11, s66_12, s66_13, e66, Option.toList_some, Option.toList_none, List.cons_append, List.nil_append, Nat.le_refl, true_and, and_true, true_or, or_true, false_or, or_false, true_implies, false_implies, implies_true, not_true_eq_false, not_false_eq_true, eq_self, Nat.reduceLT, Nat.reduceLeDiff, Nat.reduceEqDiff, Nat.reduceAdd, Nat.reduceSub, Int.reduceLT, Int.reduceLE, Int.reduceEq, Int.reduceNeg, Int.reduceNe, Int.reduceAdd, Int.reduceSub, Int.reduceMul, Int.reduceToNat, Int.toNat_zero, Int.toNat_one, Int.toNat_natCast, am_cats, am_cat, am_st1, am_st2, am_clr, up2_na, up2_nj, up2_same, List.getElem?_cons_zero, List.getElem?_cons_succ, List.set_cons_zero, List.set_cons_succ, ne_eq, tk_0 hh, tk_17 hh, rk_0_7 hh, k16 hh, k51 hh, k67 hh, i10, Classical.not_not, hn]
      exact ⟨fun _ => hQ, fun q1 => ⟨fun _ => hQ, fun q2 => ⟨fun q3 => absurd ⟨q1, q2, by omega⟩ hg, fun _ => hQ⟩⟩⟩
    exact go _ (fun _ hH1 m1 s1 => ⟨-1, rfl, fin _ (fun _ hH2 m2 => ⟨-1, rfl, fun z => (by cases z), l0, l1, l2, l3, l4, l5, l6, l7, l8, l9, l10, l11, l12, l13, l14, l15⟩)⟩)
end
