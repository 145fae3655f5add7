/-! by hand, 11: the law's reader: readsSum -/
theorem w_sumSign (c : Int) : ∃ z, (z = -1 ∨ (2 ≤ z ∧ z ≤ 6 ∧ c ≠ -1)) ∧ ∀ (d : Nat) (h : AH), wpc codeT mX d 153 [.inl c] h (fun v g => g = h ∧ v = some (.inl z)) := by
  by_cases h1 : c = 43
  · subst h1
    exact ⟨2, Or.inr (by decide), fun d h => by simp only [e153, s153_0, s153_1, s153_2, s153_3, s153_4, s153_5, s153_6, s153_7, s153_8, s153_9, s153_10, s153_11, s153_12, s153_13, s153_14, s153_15, s153_16, s153_17, s153_18, s153_19, s153_20, s153_21, s153_22, s153_23, s153_24, s153_25, s153_26, Option.toList_some, Option.toList_none, List.cons_append, List.nil_append, Nat.le_refl, true_and, and_true, true_or, or_true, false_or, or_false, true_implies, false_implies, implies_true, not_true_eq_false, not_false_eq_true, eq_self, Nat.reduceLT, Nat.reduceLeDiff, Nat.reduceEqDiff, Nat.reduceAdd, Nat.reduceSub, Int.reduceLT, Int.reduceLE, Int.reduceEq, Int.reduceNeg, Int.reduceNe, Int.reduceAdd, Int.reduceSub, Int.reduceMul, Int.reduceToNat, Int.toNat_zero, Int.toNat_one, Int.toNat_natCast, am_cats, am_cat, am_st1, am_st2, am_clr, up2_na, up2_nj, up2_same, List.getElem?_cons_zero, List.getElem?_cons_succ, List.set_cons_zero, List.set_cons_succ, ne_eq]⟩
  by_cases h2 : c = 45
  · subst h2
    exact ⟨3, Or.inr (by decide), fun d h => by simp only [e153, s153_0, s153_1, s153_2, s153_3, s153_4, s153_5, s153_6, s153_7, s153_8, s153_9, s153_10, s153_11, s153_12, s153_13, s153_14, s153_15, s153_16, s153_17, s153_18, s153_19, s153_20, s153_21, s153_22, s153_23, s153_24, s153_25, s153_26, Option.toList_some, Option.toList_none, List.cons_append, List.nil_append, Nat.le_refl, true_and, and_true, true_or, or_true, false_or, or_false, true_implies, false_implies, implies_true, not_true_eq_false, not_false_eq_true, eq_self, Nat.reduceLT, Nat.reduceLeDiff, Nat.reduceEqDiff, Nat.reduceAdd, Nat.reduceSub, Int.reduceLT, Int.reduceLE, Int.reduceEq, Int.reduceNeg, Int.reduceNe, Int.reduceAdd, Int.reduceSub, Int.reduceMul, Int.reduceToNat, Int.toNat_zero, Int.toNat_one, Int.toNat_natCast, am_cats, am_cat, am_st1, am_st2, am_clr, up2_na, up2_nj, up2_same, List.getElem?_cons_zero, List.getElem?_cons_succ, List.set_cons_zero, List.set_cons_succ, ne_eq]⟩
  by_cases h3 : c = 42
  · subst h3
    exact ⟨4, Or.inr (by decide), fun d h => by simp only [e153, s153_0, s153_1, s153_2, s153_3, s153_4, s153_5, s153_6, s153_7, s153_8, s153_9, s153_10, s153_11, s153_12, s153_13, s153_14, s153_15, s153_16, s153_17, s153_18, s153_19, s153_20, s153_21, s153_22, s153_23, s153_24, s153_25, s153_26, Option.toList_some, Option.toList_none, List.cons_append, List.nil_append, Nat.le_refl, true_and, and_true, true_or, or_true, false_or, or_false, true_implies, false_implies, implies_true, not_true_eq_false, not_false_eq_true, eq_self, Nat.reduceLT, Nat.reduceLeDiff, Nat.reduceEqDiff, Nat.reduceAdd, Nat.reduceSub, Int.reduceLT, Int.reduceLE, Int.reduceEq, Int.reduceNeg, Int.reduceNe, Int.reduceAdd, Int.reduceSub, Int.reduceMul, Int.reduceToNat, Int.toNat_zero, Int.toNat_one, Int.toNat_natCast, am_cats, am_cat, am_st1, am_st2, am_clr, up2_na, up2_nj, up2_same, List.getElem?_cons_zero, List.getElem?_cons_succ, List.set_cons_zero, List.set_cons_succ, ne_eq]⟩
  by_cases h4 : c = 47
  · subst h4
    exact ⟨5, Or.inr (by decide), fun d h => by simp only [e153, s153_0, s153_1, s153_2, s153_3, s153_4, s153_5, s153_6, s153_7, s153_8, s153_9, s153_10, s153_11, s153_12, s153_13, s153_14, s153_15, s153_16, s153_17, s153_18, s153_19, s153_20, s153_21, s153_22, s153_23, s153_24, s153_25, s153_26, Option.toList_some, Option.toList_none, List.cons_append, List.nil_append, Nat.le_refl, true_and, and_true, true_or, or_true, false_or, or_false, true_implies, false_implies, implies_true, not_true_eq_false, not_false_eq_true, eq_self, Nat.reduceLT, Nat.reduceLeDiff, Nat.reduceEqDiff, Nat.reduceAdd, Nat.reduceSub, Int.reduceLT, Int.reduceLE, Int.reduceEq, Int.reduceNeg, Int.reduceNe, Int.reduceAdd, Int.reduceSub, Int.reduceMul, Int.reduceToNat, Int.toNat_zero, Int.toNat_one, Int.toNat_natCast, am_cats, am_cat, am_st1, am_st2, am_clr, up2_na, up2_nj, up2_same, List.getElem?_cons_zero, List.getElem?_cons_succ, List.set_cons_zero, List.set_cons_succ, ne_eq]⟩
  by_cases h5 : c = 37
  · subst h5
    exact ⟨6, Or.inr (by decide), fun d h => by simp only [e153, s153_0, s153_1, s153_2, s153_3, s153_4, s153_5, s153_6, s153_7, s153_8, s153_9, s153_10, s153_11, s153_12, s153_13, s153_14, s153_15, s153_16, s153_17, s153_18, s153_19, s153_20, s153_21, s153_22, s153_23, s153_24, s153_25, s153_26, Option.toList_some, Option.toList_none, List.cons_append, List.nil_append, Nat.le_refl, true_and, and_true, true_or, or_true, false_or, or_false, true_implies, false_implies, implies_true, not_true_eq_false, not_false_eq_true, eq_self, Nat.reduceLT, Nat.reduceLeDiff, Nat.reduceEqDiff, Nat.reduceAdd, Nat.reduceSub, Int.reduceLT, Int.reduceLE, Int.reduceEq, Int.reduceNeg, Int.reduceNe, Int.reduceAdd, Int.reduceSub, Int.reduceMul, Int.reduceToNat, Int.toNat_zero, Int.toNat_one, Int.toNat_natCast, am_cats, am_cat, am_st1, am_st2, am_clr, up2_na, up2_nj, up2_same, List.getElem?_cons_zero, List.getElem?_cons_succ, List.set_cons_zero, List.set_cons_succ, ne_eq]⟩
  exact ⟨-1, Or.inl rfl, fun d h => by simp only [e153, s153_0, s153_1, s153_2, s153_3, s153_4, s153_5, s153_6, s153_7, s153_8, s153_9, s153_10, s153_11, s153_12, s153_13, s153_14, s153_15, s153_16, s153_17, s153_18, s153_19, s153_20, s153_21, s153_22, s153_23, s153_24, s153_25, s153_26, Option.toList_some, Option.toList_none, List.cons_append, List.nil_append, Nat.le_refl, true_and, and_true, true_or, or_true, false_or, or_false, true_implies, false_implies, implies_true, not_true_eq_false, not_false_eq_true, eq_self, Nat.reduceLT, Nat.reduceLeDiff, Nat.reduceEqDiff, Nat.reduceAdd, Nat.reduceSub, Int.reduceLT, Int.reduceLE, Int.reduceEq, Int.reduceNeg, Int.reduceNe, Int.reduceAdd, Int.reduceSub, Int.reduceMul, Int.reduceToNat, Int.toNat_zero, Int.toNat_one, Int.toNat_natCast, am_cats, am_cat, am_st1, am_st2, am_clr, up2_na, up2_nj, up2_same, List.getElem?_cons_zero, List.getElem?_cons_succ, List.set_cons_zero, List.set_cons_succ, ne_eq, h1, h2, h3, h4, h5]⟩
section
variable {d s : Nat} {T : Nat → Nat × Nat} {I J : Nat → Nat → Int} {R : Nat → Nat → Option Nat} {Q : Option AV → AH → Prop} {L : Nat} {fa op sm nm : Int} {X W F H G X0 W0 : Nat → Int} {f n1 w0 n0 e n w p : Nat}
theorem w_hasOpen (hm : mdl T R) (hW : XB W) (hw : w ≤ 180) (h0 : w0 ≤ w) : ∃ z : Int, ((z = 1 ∧ ∃ i, w0 ≤ i ∧ i < w ∧ cOp (W i) = 14) ∨ (z = 0 ∧ ∀ i, w0 ≤ i → i < w → cOp (W i) ≠ 14)) ∧ ∀ (d : Nat) (p fa op cm sm nm : Int) (X : Nat → Int), wpc codeT mX d 156 [.inr (.inr (some 152)), .inl (w0 : Int)] (185, s, T, pI I p fa op cm (w : Int) sm nm X W F H G, J, R) (fun v g => g = (185, s, T, pI I p fa op cm (w : Int) sm nm X W F H G, J, R) ∧ v = some (.inl z)) := by
  have t152 : T 152 = (12, 53) := hm.1 152 (by decide)
  have t164 : T 164 = (100, 180) := hm.1 164 (by decide)
  have r2 : R 152 27 = some 164 := hm.2 27 164 (by decide +kernel) (by decide)
  have loop : ∀ r k, k + r = w → ∃ z : Int, ((z = 1 ∧ ∃ i, k ≤ i ∧ i < w ∧ cOp (W i) = 14) ∨ (z = 0 ∧ ∀ i, k ≤ i → i < w → cOp (W i) ≠ 14)) ∧ ∀ (d : Nat) (p fa op cm sm nm : Int) (X : Nat → Int), wp codeT mX d 156 2 [some (.inr (.inr (some 152))), some (.inl (w0 : Int)), some (.inl (k : Int))] [] (185, s, T, pI I p fa op cm (w : Int) sm nm X W F H G, J, R) (fun v g => g = (185, s, T, pI I p fa op cm (w : Int) sm nm X W F H G, J, R) ∧ v = some (.inl z)) := by
    intro r
    induction r with
    | zero =>
      intro k hk
      have k1 : ¬ (k : Int) < (w : Int) := by omega
      refine ⟨0, Or.inr ⟨rfl, fun i z1 z2 => absurd z2 (by omega)⟩, fun d p fa op cm sm nm X => ?_⟩
      refine s156_2.mpr ?_
      simp only [s156_0, s156_1, s156_3, s156_4, s156_5, s156_6, s156_7, s156_8, s156_9, s156_10, s156_11, s156_12, s156_13, s156_14, s156_15, s156_16, s156_17, s156_18, s156_19, Option.toList_some, Option.toList_none, List.cons_append, List.nil_append, Nat.le_refl, true_and, and_true, true_or, or_true, false_or, or_false, true_implies, false_implies, implies_true, not_true_eq_false, not_false_eq_true, eq_self, Nat.reduceLT, Nat.reduceLeDiff, Nat.reduceEqDiff, Nat.reduceAdd, Nat.reduceSub, Int.reduceLT, Int.reduceLE, Int.reduceEq, Int.reduceNeg, Int.reduceNe, Int.reduceAdd, Int.reduceSub, Int.reduceMul, Int.reduceToNat, Int.toNat_zero, Int.toNat_one, Int.toNat_natCast, am_cats, am_cat, am_st1, am_st2, am_clr, up2_na, up2_nj, up2_same, List.getElem?_cons_zero, List.getElem?_cons_succ, List.set_cons_zero, List.set_cons_succ, ne_eq, t152, t164, r2, pI_23, k1]
    | succ r ih =>
      intro k hk
      have k1 : (k : Int) < (w : Int) := by omega
      have b1 : 0 ≤ (k : Int) ∧ (k : Int) < ((180 : Nat) : Int) := by omega
      have ho := w32_op (k := k) hW (by omega)
      have kn : k ≤ 1080 := by omega
      by_cases h14 : cOp (W k) = 14
      · refine ⟨1, Or.inl ⟨rfl, k, Nat.le_refl k, by omega, h14⟩, fun d p fa op cm sm nm X => ?_⟩
        refine s156_2.mpr ?_
        simp only [s156_0, s156_1, s156_3, s156_4, s156_5, s156_6, s156_7, s156_8, s156_9, s156_10, s156_11, s156_12, s156_13, s156_14, s156_15, s156_16, s156_17, s156_18, s156_19, Option.toList_some, Option.toList_none, List.cons_append, List.nil_append, Nat.le_refl, true_and, and_true, true_or, or_true, false_or, or_false, true_implies, false_implies, implies_true, not_true_eq_false, not_false_eq_true, eq_self, Nat.reduceLT, Nat.reduceLeDiff, Nat.reduceEqDiff, Nat.reduceAdd, Nat.reduceSub, Int.reduceLT, Int.reduceLE, Int.reduceEq, Int.reduceNeg, Int.reduceNe, Int.reduceAdd, Int.reduceSub, Int.reduceMul, Int.reduceToNat, Int.toNat_zero, Int.toNat_one, Int.toNat_natCast, am_cats, am_cat, am_st1, am_st2, am_clr, up2_na, up2_nj, up2_same, List.getElem?_cons_zero, List.getElem?_cons_succ, List.set_cons_zero, List.set_cons_succ, ne_eq, t152, t164, r2, pI_23, pI_164, k1, b1, ho, h14]
      · obtain ⟨z, hz, hw⟩ := ih (k + 1) (by omega)
        refine ⟨z, ?_, fun d p fa op cm sm nm X => ?_⟩
        · rcases hz with ⟨z1, i, z2, z3, z4⟩ | ⟨z1, z2⟩
          · exact Or.inl ⟨z1, i, by omega, z3, z4⟩
          · refine Or.inr ⟨z1, fun i i1 i2 => ?_⟩
            by_cases e : i = k
            · rw [e]
              exact h14
            · exact z2 i (by omega) i2
        · have go := hw d p fa op cm sm nm X
          have w1 := w32_s kn
          refine s156_2.mpr ?_
          simp only [s156_0, s156_1, s156_3, s156_4, s156_5, s156_6, s156_7, s156_8, s156_9, s156_10, s156_11, s156_12, s156_13, s156_14, s156_15, s156_16, s156_17, s156_18, s156_19, Option.toList_some, Option.toList_none, List.cons_append, List.nil_append, Nat.le_refl, true_and, and_true, true_or, or_true, false_or, or_false, true_implies, false_implies, implies_true, not_true_eq_false, not_false_eq_true, eq_self, Nat.reduceLT, Nat.reduceLeDiff, Nat.reduceEqDiff, Nat.reduceAdd, Nat.reduceSub, Int.reduceLT, Int.reduceLE, Int.reduceEq, Int.reduceNeg, Int.reduceNe, Int.reduceAdd, Int.reduceSub, Int.reduceMul, Int.reduceToNat, Int.toNat_zero, Int.toNat_one, Int.toNat_natCast, am_cats, am_cat, am_st1, am_st2, am_clr, up2_na, up2_nj, up2_same, List.getElem?_cons_zero, List.getElem?_cons_succ, List.set_cons_zero, List.set_cons_succ, ne_eq, t152, t164, r2, pI_23, pI_164, k1, b1, ho, h14, w1]
          exact go
  obtain ⟨z, hz, hw⟩ := loop (w - w0) w0 (by omega)
  refine ⟨z, hz, fun d p fa op cm sm nm X => ?_⟩
  have go := hw d p fa op cm sm nm X
  simp only [e156, s156_0, s156_1, s156_3, s156_4, s156_5, s156_6, s156_7, s156_8, s156_9, s156_10, s156_11, s156_12, s156_13, s156_14, s156_15, s156_16, s156_17, s156_18, s156_19, Option.toList_some, Option.toList_none, List.cons_append, List.nil_append, Nat.le_refl, true_and, and_true, true_or, or_true, false_or, or_false, true_implies, false_implies, implies_true, not_true_eq_false, not_false_eq_true, eq_self, Nat.reduceLT, Nat.reduceLeDiff, Nat.reduceEqDiff, Nat.reduceAdd, Nat.reduceSub, Int.reduceLT, Int.reduceLE, Int.reduceEq, Int.reduceNeg, Int.reduceNe, Int.reduceAdd, Int.reduceSub, Int.reduceMul, Int.reduceToNat, Int.toNat_zero, Int.toNat_one, Int.toNat_natCast, am_cats, am_cat, am_st1, am_st2, am_clr, up2_na, up2_nj, up2_same, List.getElem?_cons_zero, List.getElem?_cons_succ, List.set_cons_zero, List.set_cons_succ, ne_eq]
  exact go
end
