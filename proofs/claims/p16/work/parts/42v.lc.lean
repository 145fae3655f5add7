/-! the law by hand, 2: its 29 cases -/
theorem lc_0 {L s d i : Nat} {X : Nat → Int} {P : AH → Prop} {g : AH} {Q : Option AV → AH → Prop} (hX : ∀ j, rg32 (X j)) (hi : i + 6 ≤ L) (hL : L ≤ 3072) (H : pr L X s P d 13 131 0 false false) (hI : Inv L X s P g) (hQ : ∀ g2, Inv L X s P g2 → wp codeT mX (d + 1) 0 855 [some (.inr (.inr (some 1000000))), some (.inr (.inr (some 0))), some (.inr (.inr (some 152))), some (.inl (i : Int))] [] g2 Q) : wp codeT mX (d + 1) 0 22 [some (.inr (.inr (some 1000000))), some (.inr (.inr (some 0))), some (.inr (.inr (some 152))), some (.inl (i : Int))] [] g Q := by
  have w := H [] g rfl (by
    intro z hz
    cases hz) hI
  obtain ⟨c, s', T, I, J, R⟩ := g
  obtain ⟨hH, z1, z2, z3, -⟩ := hI
  have hc : c = 185 := hH.1
  have h1 : s' = s := z1
  have h2 : T 1000000 = (100, L) := z2
  have h3 : I 1000000 = X := z3
  subst hc h1
  have hh := hp_of (eH5_of hH)
  refine s0_22.mpr ?_
  simp only [s0_23, Option.toList_some, Option.toList_none, List.cons_append, List.nil_append, Nat.le_refl, true_and, and_true, true_or, or_true, false_or, or_false, true_implies, false_implies, implies_true, not_true_eq_false, not_false_eq_true, eq_self, Nat.reduceLT, Nat.reduceLeDiff, Nat.reduceEqDiff, Nat.reduceAdd, Nat.reduceSub, Int.reduceLT, Int.reduceLE, Int.reduceEq, Int.reduceNeg, Int.reduceNe, Int.reduceAdd, Int.reduceSub, Int.reduceMul, Int.reduceToNat, Int.toNat_zero, Int.toNat_one, Int.toNat_natCast, am_cats, am_cat, am_st1, am_st2, am_clr, up2_na, up2_nj, up2_same, List.getElem?_cons_zero, List.getElem?_cons_succ, List.set_cons_zero, List.set_cons_succ, ne_eq, tk_0 hh, h2, h3]
  refine wpc_mono w (fun v g1 hq => ?_)
  obtain ⟨a, rfl, hI1, w2⟩ := hq
  obtain ⟨c1, s1, T1, I1, J1, R1⟩ := g1
  obtain ⟨hH1, z4, z5, z6, -⟩ := hI1
  have hc1 : c1 = 185 := hH1.1
  have k1 : s1 = s' := z4
  have k2 : T1 1000000 = (100, L) := z5
  have k3 : I1 1000000 = X := z6
  subst hc1 k1
  have hh1 := hp_of (eH5_of hH1)
  refine ⟨⟨Nat.le_refl _, Nat.le_refl _⟩, ?_⟩
  simp only [s0_24, s0_25, s0_26, Option.toList_some, Option.toList_none, List.cons_append, List.nil_append, Nat.le_refl, true_and, and_true, true_or, or_true, false_or, or_false, true_implies, false_implies, implies_true, not_true_eq_false, not_false_eq_true, eq_self, Nat.reduceLT, Nat.reduceLeDiff, Nat.reduceEqDiff, Nat.reduceAdd, Nat.reduceSub, Int.reduceLT, Int.reduceLE, Int.reduceEq, Int.reduceNeg, Int.reduceNe, Int.reduceAdd, Int.reduceSub, Int.reduceMul, Int.reduceToNat, Int.toNat_zero, Int.toNat_one, Int.toNat_natCast, am_cats, am_cat, am_st1, am_st2, am_clr, up2_na, up2_nj, up2_same, List.getElem?_cons_zero, List.getElem?_cons_succ, List.set_cons_zero, List.set_cons_succ, ne_eq, ansV, tk_152 hh1, k2, k3]
  refine wpc_mono w2 (fun v2 g2 hq => ?_)
  obtain ⟨b, rfl, hc2, hI2⟩ := hq
  have hz := hQ g2 hI2
  refine ⟨⟨Nat.le_of_eq hI2.1.1.symm, Nat.le_of_eq hI2.2.1.symm⟩, ?_⟩
  simp only [s0_27, s0_28, Option.toList_some, Option.toList_none, List.cons_append, List.nil_append, Nat.le_refl, true_and, and_true, true_or, or_true, false_or, or_false, true_implies, false_implies, implies_true, not_true_eq_false, not_false_eq_true, eq_self, Nat.reduceLT, Nat.reduceLeDiff, Nat.reduceEqDiff, Nat.reduceAdd, Nat.reduceSub, Int.reduceLT, Int.reduceLE, Int.reduceEq, Int.reduceNeg, Int.reduceNe, Int.reduceAdd, Int.reduceSub, Int.reduceMul, Int.reduceToNat, Int.toNat_zero, Int.toNat_one, Int.toNat_natCast, am_cats, am_cat, am_st1, am_st2, am_clr, up2_na, up2_nj, up2_same, List.getElem?_cons_zero, List.getElem?_cons_succ, List.set_cons_zero, List.set_cons_succ, ne_eq, ansV]
  exact hz
theorem lc_1 {L s d i : Nat} {X : Nat → Int} {P : AH → Prop} {g : AH} {Q : Option AV → AH → Prop} (hX : ∀ j, rg32 (X j)) (hi : i + 6 ≤ L) (hL : L ≤ 3072) (H : pr L X s P d 14 132 0 false false) (hI : Inv L X s P g) (hQ : ∀ g2, Inv L X s P g2 → wp codeT mX (d + 1) 0 855 [some (.inr (.inr (some 1000000))), some (.inr (.inr (some 0))), some (.inr (.inr (some 152))), some (.inl (i : Int))] [] g2 Q) : wp codeT mX (d + 1) 0 29 [some (.inr (.inr (some 1000000))), some (.inr (.inr (some 0))), some (.inr (.inr (some 152))), some (.inl (i : Int))] [] g Q := by
  have w := H [] g rfl (by
    intro z hz
    cases hz) hI
  obtain ⟨c, s', T, I, J, R⟩ := g
  obtain ⟨hH, z1, z2, z3, -⟩ := hI
  have hc : c = 185 := hH.1
  have h1 : s' = s := z1
  have h2 : T 1000000 = (100, L) := z2
  have h3 : I 1000000 = X := z3
  subst hc h1
  have hh := hp_of (eH5_of hH)
  refine s0_29.mpr ?_
  simp only [s0_30, Option.toList_some, Option.toList_none, List.cons_append, List.nil_append, Nat.le_refl, true_and, and_true, true_or, or_true, false_or, or_false, true_implies, false_implies, implies_true, not_true_eq_false, not_false_eq_true, eq_self, Nat.reduceLT, Nat.reduceLeDiff, Nat.reduceEqDiff, Nat.reduceAdd, Nat.reduceSub, Int.reduceLT, Int.reduceLE, Int.reduceEq, Int.reduceNeg, Int.reduceNe, Int.reduceAdd, Int.reduceSub, Int.reduceMul, Int.reduceToNat, Int.toNat_zero, Int.toNat_one, Int.toNat_natCast, am_cats, am_cat, am_st1, am_st2, am_clr, up2_na, up2_nj, up2_same, List.getElem?_cons_zero, List.getElem?_cons_succ, List.set_cons_zero, List.set_cons_succ, ne_eq, tk_0 hh, h2, h3]
  refine wpc_mono w (fun v g1 hq => ?_)
  obtain ⟨a, rfl, hI1, w2⟩ := hq
  obtain ⟨c1, s1, T1, I1, J1, R1⟩ := g1
  obtain ⟨hH1, z4, z5, z6, -⟩ := hI1
  have hc1 : c1 = 185 := hH1.1
  have k1 : s1 = s' := z4
  have k2 : T1 1000000 = (100, L) := z5
  have k3 : I1 1000000 = X := z6
  subst hc1 k1
  have hh1 := hp_of (eH5_of hH1)
  refine ⟨⟨Nat.le_refl _, Nat.le_refl _⟩, ?_⟩
  simp only [s0_31, s0_32, s0_33, Option.toList_some, Option.toList_none, List.cons_append, List.nil_append, Nat.le_refl, true_and, and_true, true_or, or_true, false_or, or_false, true_implies, false_implies, implies_true, not_true_eq_false, not_false_eq_true, eq_self, Nat.reduceLT, Nat.reduceLeDiff, Nat.reduceEqDiff, Nat.reduceAdd, Nat.reduceSub, Int.reduceLT, Int.reduceLE, Int.reduceEq, Int.reduceNeg, Int.reduceNe, Int.reduceAdd, Int.reduceSub, Int.reduceMul, Int.reduceToNat, Int.toNat_zero, Int.toNat_one, Int.toNat_natCast, am_cats, am_cat, am_st1, am_st2, am_clr, up2_na, up2_nj, up2_same, List.getElem?_cons_zero, List.getElem?_cons_succ, List.set_cons_zero, List.set_cons_succ, ne_eq, ansV, tk_152 hh1, k2, k3]
  refine wpc_mono w2 (fun v2 g2 hq => ?_)
  obtain ⟨b, rfl, hc2, hI2⟩ := hq
  have hz := hQ g2 hI2
  refine ⟨⟨Nat.le_of_eq hI2.1.1.symm, Nat.le_of_eq hI2.2.1.symm⟩, ?_⟩
  simp only [s0_34, s0_35, Option.toList_some, Option.toList_none, List.cons_append, List.nil_append, Nat.le_refl, true_and, and_true, true_or, or_true, false_or, or_false, true_implies, false_implies, implies_true, not_true_eq_false, not_false_eq_true, eq_self, Nat.reduceLT, Nat.reduceLeDiff, Nat.reduceEqDiff, Nat.reduceAdd, Nat.reduceSub, Int.reduceLT, Int.reduceLE, Int.reduceEq, Int.reduceNeg, Int.reduceNe, Int.reduceAdd, Int.reduceSub, Int.reduceMul, Int.reduceToNat, Int.toNat_zero, Int.toNat_one, Int.toNat_natCast, am_cats, am_cat, am_st1, am_st2, am_clr, up2_na, up2_nj, up2_same, List.getElem?_cons_zero, List.getElem?_cons_succ, List.set_cons_zero, List.set_cons_succ, ne_eq, ansV]
  exact hz
theorem lc_2 {L s d i : Nat} {X : Nat → Int} {P : AH → Prop} {g : AH} {Q : Option AV → AH → Prop} (hX : ∀ j, rg32 (X j)) (hi : i + 6 ≤ L) (hL : L ≤ 3072) (H : pr L X s P d 15 133 3 false false) (hI : Inv L X s P g) (hQ : ∀ g2, Inv L X s P g2 → wp codeT mX (d + 1) 0 855 [some (.inr (.inr (some 1000000))), some (.inr (.inr (some 0))), some (.inr (.inr (some 152))), some (.inl (i : Int))] [] g2 Q) : wp codeT mX (d + 1) 0 36 [some (.inr (.inr (some 1000000))), some (.inr (.inr (some 0))), some (.inr (.inr (some 152))), some (.inl (i : Int))] [] g Q := by
  have w := H [X (i + 1), X (i + 2), X (i + 3)] g rfl (by
    intro z hz
    simp only [List.mem_cons, List.not_mem_nil, or_false] at hz
    rcases hz with rfl | rfl | rfl <;> exact hX _) hI
  obtain ⟨c, s', T, I, J, R⟩ := g
  obtain ⟨hH, z1, z2, z3, -⟩ := hI
  have hc : c = 185 := hH.1
  have h1 : s' = s := z1
  have h2 : T 1000000 = (100, L) := z2
  have h3 : I 1000000 = X := z3
  subst hc h1
  have hh := hp_of (eH5_of hH)
  have v1 : w32 ((i : Int) + 1) = ((i + 1 : Nat) : Int) := (w32_eq (by omega) (by omega)).trans (by omega)
  have u1 : 0 ≤ ((i + 1 : Nat) : Int) ∧ ((i + 1 : Nat) : Int) < (L : Int) := by omega
  have v2 : w32 ((i : Int) + 2) = ((i + 2 : Nat) : Int) := (w32_eq (by omega) (by omega)).trans (by omega)
  have u2 : 0 ≤ ((i + 2 : Nat) : Int) ∧ ((i + 2 : Nat) : Int) < (L : Int) := by omega
  have v3 : w32 ((i : Int) + 3) = ((i + 3 : Nat) : Int) := (w32_eq (by omega) (by omega)).trans (by omega)
  have u3 : 0 ≤ ((i + 3 : Nat) : Int) ∧ ((i + 3 : Nat) : Int) < (L : Int) := by omega
  refine s0_36.mpr ?_
  simp only [s0_37, s0_38, s0_39, s0_40, s0_41, s0_42, s0_43, s0_44, s0_45, s0_46, s0_47, s0_48, s0_49, s0_50, s0_51, s0_52, Option.toList_some, Option.toList_none, List.cons_append, List.nil_append, Nat.le_refl, true_and, and_true, true_or, or_true, false_or, or_false, true_implies, false_implies, implies_true, not_true_eq_false, not_false_eq_true, eq_self, Nat.reduceLT, Nat.reduceLeDiff, Nat.reduceEqDiff, Nat.reduceAdd, Nat.reduceSub, Int.reduceLT, Int.reduceLE, Int.reduceEq, Int.reduceNeg, Int.reduceNe, Int.reduceAdd, Int.reduceSub, Int.reduceMul, Int.reduceToNat, Int.toNat_zero, Int.toNat_one, Int.toNat_natCast, am_cats, am_cat, am_st1, am_st2, am_clr, up2_na, up2_nj, up2_same, List.getElem?_cons_zero, List.getElem?_cons_succ, List.set_cons_zero, List.set_cons_succ, ne_eq, tk_0 hh, h2, h3, v1, u1, v2, u2, v3, u3]
  refine wpc_mono w (fun v g1 hq => ?_)
  obtain ⟨a, rfl, hI1, w2⟩ := hq
  obtain ⟨c1, s1, T1, I1, J1, R1⟩ := g1
  obtain ⟨hH1, z4, z5, z6, -⟩ := hI1
  have hc1 : c1 = 185 := hH1.1
  have k1 : s1 = s' := z4
  have k2 : T1 1000000 = (100, L) := z5
  have k3 : I1 1000000 = X := z6
  subst hc1 k1
  have hh1 := hp_of (eH5_of hH1)
  refine ⟨⟨Nat.le_refl _, Nat.le_refl _⟩, ?_⟩
  simp only [s0_53, s0_54, s0_55, s0_56, s0_57, s0_58, s0_59, s0_60, s0_61, s0_62, s0_63, s0_64, s0_65, s0_66, s0_67, s0_68, s0_69, s0_70, Option.toList_some, Option.toList_none, List.cons_append, List.nil_append, Nat.le_refl, true_and, and_true, true_or, or_true, false_or, or_false, true_implies, false_implies, implies_true, not_true_eq_false, not_false_eq_true, eq_self, Nat.reduceLT, Nat.reduceLeDiff, Nat.reduceEqDiff, Nat.reduceAdd, Nat.reduceSub, Int.reduceLT, Int.reduceLE, Int.reduceEq, Int.reduceNeg, Int.reduceNe, Int.reduceAdd, Int.reduceSub, Int.reduceMul, Int.reduceToNat, Int.toNat_zero, Int.toNat_one, Int.toNat_natCast, am_cats, am_cat, am_st1, am_st2, am_clr, up2_na, up2_nj, up2_same, List.getElem?_cons_zero, List.getElem?_cons_succ, List.set_cons_zero, List.set_cons_succ, ne_eq, ansV, tk_152 hh1, k2, k3, v1, u1, v2, u2, v3, u3]
  refine wpc_mono w2 (fun v2 g2 hq => ?_)
  obtain ⟨b, rfl, hc2, hI2⟩ := hq
  have hz := hQ g2 hI2
  refine ⟨⟨Nat.le_of_eq hI2.1.1.symm, Nat.le_of_eq hI2.2.1.symm⟩, ?_⟩
  simp only [s0_71, s0_72, Option.toList_some, Option.toList_none, List.cons_append, List.nil_append, Nat.le_refl, true_and, and_true, true_or, or_true, false_or, or_false, true_implies, false_implies, implies_true, not_true_eq_false, not_false_eq_true, eq_self, Nat.reduceLT, Nat.reduceLeDiff, Nat.reduceEqDiff, Nat.reduceAdd, Nat.reduceSub, Int.reduceLT, Int.reduceLE, Int.reduceEq, Int.reduceNeg, Int.reduceNe, Int.reduceAdd, Int.reduceSub, Int.reduceMul, Int.reduceToNat, Int.toNat_zero, Int.toNat_one, Int.toNat_natCast, am_cats, am_cat, am_st1, am_st2, am_clr, up2_na, up2_nj, up2_same, List.getElem?_cons_zero, List.getElem?_cons_succ, List.set_cons_zero, List.set_cons_succ, ne_eq, ansV]
  exact hz
theorem lc_3 {L s d i : Nat} {X : Nat → Int} {P : AH → Prop} {g : AH} {Q : Option AV → AH → Prop} (hX : ∀ j, rg32 (X j)) (hi : i + 6 ≤ L) (hL : L ≤ 3072) (H : pr L X s P d 19 137 3 false false) (hI : Inv L X s P g) (hQ : ∀ g2, Inv L X s P g2 → wp codeT mX (d + 1) 0 855 [some (.inr (.inr (some 1000000))), some (.inr (.inr (some 0))), some (.inr (.inr (some 152))), some (.inl (i : Int))] [] g2 Q) : wp codeT mX (d + 1) 0 73 [some (.inr (.inr (some 1000000))), some (.inr (.inr (some 0))), some (.inr (.inr (some 152))), some (.inl (i : Int))] [] g Q := by
  have w := H [X (i + 1), X (i + 2), X (i + 3)] g rfl (by
    intro z hz
    simp only [List.mem_cons, List.not_mem_nil, or_false] at hz
    rcases hz with rfl | rfl | rfl <;> exact hX _) hI
  obtain ⟨c, s', T, I, J, R⟩ := g
  obtain ⟨hH, z1, z2, z3, -⟩ := hI
  have hc : c = 185 := hH.1
  have h1 : s' = s := z1
  have h2 : T 1000000 = (100, L) := z2
  have h3 : I 1000000 = X := z3
  subst hc h1
  have hh := hp_of (eH5_of hH)
  have v1 : w32 ((i : Int) + 1) = ((i + 1 : Nat) : Int) := (w32_eq (by omega) (by omega)).trans (by omega)
  have u1 : 0 ≤ ((i + 1 : Nat) : Int) ∧ ((i + 1 : Nat) : Int) < (L : Int) := by omega
  have v2 : w32 ((i : Int) + 2) = ((i + 2 : Nat) : Int) := (w32_eq (by omega) (by omega)).trans (by omega)
  have u2 : 0 ≤ ((i + 2 : Nat) : Int) ∧ ((i + 2 : Nat) : Int) < (L : Int) := by omega
  have v3 : w32 ((i : Int) + 3) = ((i + 3 : Nat) : Int) := (w32_eq (by omega) (by omega)).trans (by omega)
  have u3 : 0 ≤ ((i + 3 : Nat) : Int) ∧ ((i + 3 : Nat) : Int) < (L : Int) := by omega
  refine s0_73.mpr ?_
  simp only [s0_74, s0_75, s0_76, s0_77, s0_78, s0_79, s0_80, s0_81, s0_82, s0_83, s0_84, s0_85, s0_86, s0_87, s0_88, s0_89, Option.toList_some, Option.toList_none, List.cons_append, List.nil_append, Nat.le_refl, true_and, and_true, true_or, or_true, false_or, or_false, true_implies, false_implies, implies_true, not_true_eq_false, not_false_eq_true, eq_self, Nat.reduceLT, Nat.reduceLeDiff, Nat.reduceEqDiff, Nat.reduceAdd, Nat.reduceSub, Int.reduceLT, Int.reduceLE, Int.reduceEq, Int.reduceNeg, Int.reduceNe, Int.reduceAdd, Int.reduceSub, Int.reduceMul, Int.reduceToNat, Int.toNat_zero, Int.toNat_one, Int.toNat_natCast, am_cats, am_cat, am_st1, am_st2, am_clr, up2_na, up2_nj, up2_same, List.getElem?_cons_zero, List.getElem?_cons_succ, List.set_cons_zero, List.set_cons_succ, ne_eq, tk_0 hh, h2, h3, v1, u1, v2, u2, v3, u3]
  refine wpc_mono w (fun v g1 hq => ?_)
  obtain ⟨a, rfl, hI1, w2⟩ := hq
  obtain ⟨c1, s1, T1, I1, J1, R1⟩ := g1
  obtain ⟨hH1, z4, z5, z6, -⟩ := hI1
  have hc1 : c1 = 185 := hH1.1
  have k1 : s1 = s' := z4
  have k2 : T1 1000000 = (100, L) := z5
  have k3 : I1 1000000 = X := z6
  subst hc1 k1
  have hh1 := hp_of (eH5_of hH1)
  refine ⟨⟨Nat.le_refl _, Nat.le_refl _⟩, ?_⟩
  simp only [s0_90, s0_91, s0_92, s0_93, s0_94, s0_95, s0_96, s0_97, s0_98, s0_99, s0_100, s0_101, s0_102, s0_103, s0_104, s0_105, s0_106, s0_107, Option.toList_some, Option.toList_none, List.cons_append, List.nil_append, Nat.le_refl, true_and, and_true, true_or, or_true, false_or, or_false, true_implies, false_implies, implies_true, not_true_eq_false, not_false_eq_true, eq_self, Nat.reduceLT, Nat.reduceLeDiff, Nat.reduceEqDiff, Nat.reduceAdd, Nat.reduceSub, Int.reduceLT, Int.reduceLE, Int.reduceEq, Int.reduceNeg, Int.reduceNe, Int.reduceAdd, Int.reduceSub, Int.reduceMul, Int.reduceToNat, Int.toNat_zero, Int.toNat_one, Int.toNat_natCast, am_cats, am_cat, am_st1, am_st2, am_clr, up2_na, up2_nj, up2_same, List.getElem?_cons_zero, List.getElem?_cons_succ, List.set_cons_zero, List.set_cons_succ, ne_eq, ansV, tk_152 hh1, k2, k3, v1, u1, v2, u2, v3, u3]
  refine wpc_mono w2 (fun v2 g2 hq => ?_)
  obtain ⟨b, rfl, hc2, hI2⟩ := hq
  have hz := hQ g2 hI2
  refine ⟨⟨Nat.le_of_eq hI2.1.1.symm, Nat.le_of_eq hI2.2.1.symm⟩, ?_⟩
  simp only [s0_108, s0_109, Option.toList_some, Option.toList_none, List.cons_append, List.nil_append, Nat.le_refl, true_and, and_true, true_or, or_true, false_or, or_false, true_implies, false_implies, implies_true, not_true_eq_false, not_false_eq_true, eq_self, Nat.reduceLT, Nat.reduceLeDiff, Nat.reduceEqDiff, Nat.reduceAdd, Nat.reduceSub, Int.reduceLT, Int.reduceLE, Int.reduceEq, Int.reduceNeg, Int.reduceNe, Int.reduceAdd, Int.reduceSub, Int.reduceMul, Int.reduceToNat, Int.toNat_zero, Int.toNat_one, Int.toNat_natCast, am_cats, am_cat, am_st1, am_st2, am_clr, up2_na, up2_nj, up2_same, List.getElem?_cons_zero, List.getElem?_cons_succ, List.set_cons_zero, List.set_cons_succ, ne_eq, ansV]
  exact hz
theorem lc_4 {L s d i : Nat} {X : Nat → Int} {P : AH → Prop} {g : AH} {Q : Option AV → AH → Prop} (hX : ∀ j, rg32 (X j)) (hi : i + 6 ≤ L) (hL : L ≤ 3072) (H : pr L X s P d 21 138 1 false false) (hI : Inv L X s P g) (hQ : ∀ g2, Inv L X s P g2 → wp codeT mX (d + 1) 0 855 [some (.inr (.inr (some 1000000))), some (.inr (.inr (some 0))), some (.inr (.inr (some 152))), some (.inl (i : Int))] [] g2 Q) : wp codeT mX (d + 1) 0 110 [some (.inr (.inr (some 1000000))), some (.inr (.inr (some 0))), some (.inr (.inr (some 152))), some (.inl (i : Int))] [] g Q := by
  have w := H [X (i + 1)] g rfl (by
    intro z hz
    simp only [List.mem_cons, List.not_mem_nil, or_false] at hz
    rcases hz with rfl <;> exact hX _) hI
  obtain ⟨c, s', T, I, J, R⟩ := g
  obtain ⟨hH, z1, z2, z3, -⟩ := hI
  have hc : c = 185 := hH.1
  have h1 : s' = s := z1
  have h2 : T 1000000 = (100, L) := z2
  have h3 : I 1000000 = X := z3
  subst hc h1
  have hh := hp_of (eH5_of hH)
  have v1 : w32 ((i : Int) + 1) = ((i + 1 : Nat) : Int) := (w32_eq (by omega) (by omega)).trans (by omega)
  have u1 : 0 ≤ ((i + 1 : Nat) : Int) ∧ ((i + 1 : Nat) : Int) < (L : Int) := by omega
  refine s0_110.mpr ?_
  simp only [s0_111, s0_112, s0_113, s0_114, s0_115, s0_116, Option.toList_some, Option.toList_none, List.cons_append, List.nil_append, Nat.le_refl, true_and, and_true, true_or, or_true, false_or, or_false, true_implies, false_implies, implies_true, not_true_eq_false, not_false_eq_true, eq_self, Nat.reduceLT, Nat.reduceLeDiff, Nat.reduceEqDiff, Nat.reduceAdd, Nat.reduceSub, Int.reduceLT, Int.reduceLE, Int.reduceEq, Int.reduceNeg, Int.reduceNe, Int.reduceAdd, Int.reduceSub, Int.reduceMul, Int.reduceToNat, Int.toNat_zero, Int.toNat_one, Int.toNat_natCast, am_cats, am_cat, am_st1, am_st2, am_clr, up2_na, up2_nj, up2_same, List.getElem?_cons_zero, List.getElem?_cons_succ, List.set_cons_zero, List.set_cons_succ, ne_eq, tk_0 hh, h2, h3, v1, u1]
  refine wpc_mono w (fun v g1 hq => ?_)
  obtain ⟨a, rfl, hI1, w2⟩ := hq
  obtain ⟨c1, s1, T1, I1, J1, R1⟩ := g1
  obtain ⟨hH1, z4, z5, z6, -⟩ := hI1
  have hc1 : c1 = 185 := hH1.1
  have k1 : s1 = s' := z4
  have k2 : T1 1000000 = (100, L) := z5
  have k3 : I1 1000000 = X := z6
  subst hc1 k1
  have hh1 := hp_of (eH5_of hH1)
  refine ⟨⟨Nat.le_refl _, Nat.le_refl _⟩, ?_⟩
  simp only [s0_117, s0_118, s0_119, s0_120, s0_121, s0_122, s0_123, s0_124, Option.toList_some, Option.toList_none, List.cons_append, List.nil_append, Nat.le_refl, true_and, and_true, true_or, or_true, false_or, or_false, true_implies, false_implies, implies_true, not_true_eq_false, not_false_eq_true, eq_self, Nat.reduceLT, Nat.reduceLeDiff, Nat.reduceEqDiff, Nat.reduceAdd, Nat.reduceSub, Int.reduceLT, Int.reduceLE, Int.reduceEq, Int.reduceNeg, Int.reduceNe, Int.reduceAdd, Int.reduceSub, Int.reduceMul, Int.reduceToNat, Int.toNat_zero, Int.toNat_one, Int.toNat_natCast, am_cats, am_cat, am_st1, am_st2, am_clr, up2_na, up2_nj, up2_same, List.getElem?_cons_zero, List.getElem?_cons_succ, List.set_cons_zero, List.set_cons_succ, ne_eq, ansV, tk_152 hh1, k2, k3, v1, u1]
  refine wpc_mono w2 (fun v2 g2 hq => ?_)
  obtain ⟨b, rfl, hc2, hI2⟩ := hq
  have hz := hQ g2 hI2
  refine ⟨⟨Nat.le_of_eq hI2.1.1.symm, Nat.le_of_eq hI2.2.1.symm⟩, ?_⟩
  simp only [s0_125, s0_126, Option.toList_some, Option.toList_none, List.cons_append, List.nil_append, Nat.le_refl, true_and, and_true, true_or, or_true, false_or, or_false, true_implies, false_implies, implies_true, not_true_eq_false, not_false_eq_true, eq_self, Nat.reduceLT, Nat.reduceLeDiff, Nat.reduceEqDiff, Nat.reduceAdd, Nat.reduceSub, Int.reduceLT, Int.reduceLE, Int.reduceEq, Int.reduceNeg, Int.reduceNe, Int.reduceAdd, Int.reduceSub, Int.reduceMul, Int.reduceToNat, Int.toNat_zero, Int.toNat_one, Int.toNat_natCast, am_cats, am_cat, am_st1, am_st2, am_clr, up2_na, up2_nj, up2_same, List.getElem?_cons_zero, List.getElem?_cons_succ, List.set_cons_zero, List.set_cons_succ, ne_eq, ansV]
  exact hz
theorem lc_5 {L s d i : Nat} {X : Nat → Int} {P : AH → Prop} {g : AH} {Q : Option AV → AH → Prop} (hX : ∀ j, rg32 (X j)) (hi : i + 6 ≤ L) (hL : L ≤ 3072) (H : pr L X s P d 22 139 1 false false) (hI : Inv L X s P g) (hQ : ∀ g2, Inv L X s P g2 → wp codeT mX (d + 1) 0 855 [some (.inr (.inr (some 1000000))), some (.inr (.inr (some 0))), some (.inr (.inr (some 152))), some (.inl (i : Int))] [] g2 Q) : wp codeT mX (d + 1) 0 127 [some (.inr (.inr (some 1000000))), some (.inr (.inr (some 0))), some (.inr (.inr (some 152))), some (.inl (i : Int))] [] g Q := by
  have w := H [X (i + 1)] g rfl (by
    intro z hz
    simp only [List.mem_cons, List.not_mem_nil, or_false] at hz
    rcases hz with rfl <;> exact hX _) hI
  obtain ⟨c, s', T, I, J, R⟩ := g
  obtain ⟨hH, z1, z2, z3, -⟩ := hI
  have hc : c = 185 := hH.1
  have h1 : s' = s := z1
  have h2 : T 1000000 = (100, L) := z2
  have h3 : I 1000000 = X := z3
  subst hc h1
  have hh := hp_of (eH5_of hH)
  have v1 : w32 ((i : Int) + 1) = ((i + 1 : Nat) : Int) := (w32_eq (by omega) (by omega)).trans (by omega)
  have u1 : 0 ≤ ((i + 1 : Nat) : Int) ∧ ((i + 1 : Nat) : Int) < (L : Int) := by omega
  refine s0_127.mpr ?_
  simp only [s0_128, s0_129, s0_130, s0_131, s0_132, s0_133, Option.toList_some, Option.toList_none, List.cons_append, List.nil_append, Nat.le_refl, true_and, and_true, true_or, or_true, false_or, or_false, true_implies, false_implies, implies_true, not_true_eq_false, not_false_eq_true, eq_self, Nat.reduceLT, Nat.reduceLeDiff, Nat.reduceEqDiff, Nat.reduceAdd, Nat.reduceSub, Int.reduceLT, Int.reduceLE, Int.reduceEq, Int.reduceNeg, Int.reduceNe, Int.reduceAdd, Int.reduceSub, Int.reduceMul, Int.reduceToNat, Int.toNat_zero, Int.toNat_one, Int.toNat_natCast, am_cats, am_cat, am_st1, am_st2, am_clr, up2_na, up2_nj, up2_same, List.getElem?_cons_zero, List.getElem?_cons_succ, List.set_cons_zero, List.set_cons_succ, ne_eq, tk_0 hh, h2, h3, v1, u1]
  refine wpc_mono w (fun v g1 hq => ?_)
  obtain ⟨a, rfl, hI1, w2⟩ := hq
  obtain ⟨c1, s1, T1, I1, J1, R1⟩ := g1
  obtain ⟨hH1, z4, z5, z6, -⟩ := hI1
  have hc1 : c1 = 185 := hH1.1
  have k1 : s1 = s' := z4
  have k2 : T1 1000000 = (100, L) := z5
  have k3 : I1 1000000 = X := z6
  subst hc1 k1
  have hh1 := hp_of (eH5_of hH1)
  refine ⟨⟨Nat.le_refl _, Nat.le_refl _⟩, ?_⟩
  simp only [s0_134, s0_135, s0_136, s0_137, s0_138, s0_139, s0_140, s0_141, Option.toList_some, Option.toList_none, List.cons_append, List.nil_append, Nat.le_refl, true_and, and_true, true_or, or_true, false_or, or_false, true_implies, false_implies, implies_true, not_true_eq_false, not_false_eq_true, eq_self, Nat.reduceLT, Nat.reduceLeDiff, Nat.reduceEqDiff, Nat.reduceAdd, Nat.reduceSub, Int.reduceLT, Int.reduceLE, Int.reduceEq, Int.reduceNeg, Int.reduceNe, Int.reduceAdd, Int.reduceSub, Int.reduceMul, Int.reduceToNat, Int.toNat_zero, Int.toNat_one, Int.toNat_natCast, am_cats, am_cat, am_st1, am_st2, am_clr, up2_na, up2_nj, up2_same, List.getElem?_cons_zero, List.getElem?_cons_succ, List.set_cons_zero, List.set_cons_succ, ne_eq, ansV, tk_152 hh1, k2, k3, v1, u1]
  refine wpc_mono w2 (fun v2 g2 hq => ?_)
  obtain ⟨b, rfl, hc2, hI2⟩ := hq
  have hz := hQ g2 hI2
  refine ⟨⟨Nat.le_of_eq hI2.1.1.symm, Nat.le_of_eq hI2.2.1.symm⟩, ?_⟩
  simp only [s0_142, s0_143, Option.toList_some, Option.toList_none, List.cons_append, List.nil_append, Nat.le_refl, true_and, and_true, true_or, or_true, false_or, or_false, true_implies, false_implies, implies_true, not_true_eq_false, not_false_eq_true, eq_self, Nat.reduceLT, Nat.reduceLeDiff, Nat.reduceEqDiff, Nat.reduceAdd, Nat.reduceSub, Int.reduceLT, Int.reduceLE, Int.reduceEq, Int.reduceNeg, Int.reduceNe, Int.reduceAdd, Int.reduceSub, Int.reduceMul, Int.reduceToNat, Int.toNat_zero, Int.toNat_one, Int.toNat_natCast, am_cats, am_cat, am_st1, am_st2, am_clr, up2_na, up2_nj, up2_same, List.getElem?_cons_zero, List.getElem?_cons_succ, List.set_cons_zero, List.set_cons_succ, ne_eq, ansV]
  exact hz
theorem lc_6 {L s d i : Nat} {X : Nat → Int} {P : AH → Prop} {g : AH} {Q : Option AV → AH → Prop} (hX : ∀ j, rg32 (X j)) (hi : i + 6 ≤ L) (hL : L ≤ 3072) (H : pr L X s P d 23 140 5 false false) (hI : Inv L X s P g) (hQ : ∀ g2, Inv L X s P g2 → wp codeT mX (d + 1) 0 855 [some (.inr (.inr (some 1000000))), some (.inr (.inr (some 0))), some (.inr (.inr (some 152))), some (.inl (i : Int))] [] g2 Q) : wp codeT mX (d + 1) 0 144 [some (.inr (.inr (some 1000000))), some (.inr (.inr (some 0))), some (.inr (.inr (some 152))), some (.inl (i : Int))] [] g Q := by
  have w := H [X (i + 1), X (i + 2), X (i + 3), X (i + 4), X (i + 5)] g rfl (by
    intro z hz
    simp only [List.mem_cons, List.not_mem_nil, or_false] at hz
    rcases hz with rfl | rfl | rfl | rfl | rfl <;> exact hX _) hI
  obtain ⟨c, s', T, I, J, R⟩ := g
  obtain ⟨hH, z1, z2, z3, -⟩ := hI
  have hc : c = 185 := hH.1
  have h1 : s' = s := z1
  have h2 : T 1000000 = (100, L) := z2
  have h3 : I 1000000 = X := z3
  subst hc h1
  have hh := hp_of (eH5_of hH)
  have v1 : w32 ((i : Int) + 1) = ((i + 1 : Nat) : Int) := (w32_eq (by omega) (by omega)).trans (by omega)
  have u1 : 0 ≤ ((i + 1 : Nat) : Int) ∧ ((i + 1 : Nat) : Int) < (L : Int) := by omega
  have v2 : w32 ((i : Int) + 2) = ((i + 2 : Nat) : Int) := (w32_eq (by omega) (by omega)).trans (by omega)
  have u2 : 0 ≤ ((i + 2 : Nat) : Int) ∧ ((i + 2 : Nat) : Int) < (L : Int) := by omega
  have v3 : w32 ((i : Int) + 3) = ((i + 3 : Nat) : Int) := (w32_eq (by omega) (by omega)).trans (by omega)
  have u3 : 0 ≤ ((i + 3 : Nat) : Int) ∧ ((i + 3 : Nat) : Int) < (L : Int) := by omega
  have v4 : w32 ((i : Int) + 4) = ((i + 4 : Nat) : Int) := (w32_eq (by omega) (by omega)).trans (by omega)
  have u4 : 0 ≤ ((i + 4 : Nat) : Int) ∧ ((i + 4 : Nat) : Int) < (L : Int) := by omega
  have v5 : w32 ((i : Int) + 5) = ((i + 5 : Nat) : Int) := (w32_eq (by omega) (by omega)).trans (by omega)
  have u5 : 0 ≤ ((i + 5 : Nat) : Int) ∧ ((i + 5 : Nat) : Int) < (L : Int) := by omega
  refine s0_144.mpr ?_
  simp only [s0_145, s0_146, s0_147, s0_148, s0_149, s0_150, s0_151, s0_152, s0_153, s0_154, s0_155, s0_156, s0_157, s0_158, s0_159, s0_160, s0_161, s0_162, s0_163, s0_164, s0_165, s0_166, s0_167, s0_168, s0_169, s0_170, Option.toList_some, Option.toList_none, List.cons_append, List.nil_append, Nat.le_refl, true_and, and_true, true_or, or_true, false_or, or_false, true_implies, false_implies, implies_true, not_true_eq_false, not_false_eq_true, eq_self, Nat.reduceLT, Nat.reduceLeDiff, Nat.reduceEqDiff, Nat.reduceAdd, Nat.reduceSub, Int.reduceLT, Int.reduceLE, Int.reduceEq, Int.reduceNeg, Int.reduceNe, Int.reduceAdd, Int.reduceSub, Int.reduceMul, Int.reduceToNat, Int.toNat_zero, Int.toNat_one, Int.toNat_natCast, am_cats, am_cat, am_st1, am_st2, am_clr, up2_na, up2_nj, up2_same, List.getElem?_cons_zero, List.getElem?_cons_succ, List.set_cons_zero, List.set_cons_succ, ne_eq, tk_0 hh, h2, h3, v1, u1, v2, u2, v3, u3, v4, u4, v5, u5]
  refine wpc_mono w (fun v g1 hq => ?_)
  obtain ⟨a, rfl, hI1, w2⟩ := hq
  obtain ⟨c1, s1, T1, I1, J1, R1⟩ := g1
  obtain ⟨hH1, z4, z5, z6, -⟩ := hI1
  have hc1 : c1 = 185 := hH1.1
  have k1 : s1 = s' := z4
  have k2 : T1 1000000 = (100, L) := z5
  have k3 : I1 1000000 = X := z6
  subst hc1 k1
  have hh1 := hp_of (eH5_of hH1)
  refine ⟨⟨Nat.le_refl _, Nat.le_refl _⟩, ?_⟩
  simp only [s0_171, s0_172, s0_173, s0_174, s0_175, s0_176, s0_177, s0_178, s0_179, s0_180, s0_181, s0_182, s0_183, s0_184, s0_185, s0_186, s0_187, s0_188, s0_189, s0_190, s0_191, s0_192, s0_193, s0_194, s0_195, s0_196, s0_197, s0_198, Option.toList_some, Option.toList_none, List.cons_append, List.nil_append, Nat.le_refl, true_and, and_true, true_or, or_true, false_or, or_false, true_implies, false_implies, implies_true, not_true_eq_false, not_false_eq_true, eq_self, Nat.reduceLT, Nat.reduceLeDiff, Nat.reduceEqDiff, Nat.reduceAdd, Nat.reduceSub, Int.reduceLT, Int.reduceLE, Int.reduceEq, Int.reduceNeg, Int.reduceNe, Int.reduceAdd, Int.reduceSub, Int.reduceMul, Int.reduceToNat, Int.toNat_zero, Int.toNat_one, Int.toNat_natCast, am_cats, am_cat, am_st1, am_st2, am_clr, up2_na, up2_nj, up2_same, List.getElem?_cons_zero, List.getElem?_cons_succ, List.set_cons_zero, List.set_cons_succ, ne_eq, ansV, tk_152 hh1, k2, k3, v1, u1, v2, u2, v3, u3, v4, u4, v5, u5]
  refine wpc_mono w2 (fun v2 g2 hq => ?_)
  obtain ⟨b, rfl, hc2, hI2⟩ := hq
  have hz := hQ g2 hI2
  refine ⟨⟨Nat.le_of_eq hI2.1.1.symm, Nat.le_of_eq hI2.2.1.symm⟩, ?_⟩
  simp only [s0_199, s0_200, Option.toList_some, Option.toList_none, List.cons_append, List.nil_append, Nat.le_refl, true_and, and_true, true_or, or_true, false_or, or_false, true_implies, false_implies, implies_true, not_true_eq_false, not_false_eq_true, eq_self, Nat.reduceLT, Nat.reduceLeDiff, Nat.reduceEqDiff, Nat.reduceAdd, Nat.reduceSub, Int.reduceLT, Int.reduceLE, Int.reduceEq, Int.reduceNeg, Int.reduceNe, Int.reduceAdd, Int.reduceSub, Int.reduceMul, Int.reduceToNat, Int.toNat_zero, Int.toNat_one, Int.toNat_natCast, am_cats, am_cat, am_st1, am_st2, am_clr, up2_na, up2_nj, up2_same, List.getElem?_cons_zero, List.getElem?_cons_succ, List.set_cons_zero, List.set_cons_succ, ne_eq, ansV]
  exact hz
theorem lc_7 {L s d i : Nat} {X : Nat → Int} {P : AH → Prop} {g : AH} {Q : Option AV → AH → Prop} (hX : ∀ j, rg32 (X j)) (hi : i + 6 ≤ L) (hL : L ≤ 3072) (H : pr L X s P d 26 142 2 false false) (hI : Inv L X s P g) (hQ : ∀ g2, Inv L X s P g2 → wp codeT mX (d + 1) 0 855 [some (.inr (.inr (some 1000000))), some (.inr (.inr (some 0))), some (.inr (.inr (some 152))), some (.inl (i : Int))] [] g2 Q) : wp codeT mX (d + 1) 0 201 [some (.inr (.inr (some 1000000))), some (.inr (.inr (some 0))), some (.inr (.inr (some 152))), some (.inl (i : Int))] [] g Q := by
  have w := H [X (i + 1), X (i + 2)] g rfl (by
    intro z hz
    simp only [List.mem_cons, List.not_mem_nil, or_false] at hz
    rcases hz with rfl | rfl <;> exact hX _) hI
  obtain ⟨c, s', T, I, J, R⟩ := g
  obtain ⟨hH, z1, z2, z3, -⟩ := hI
  have hc : c = 185 := hH.1
  have h1 : s' = s := z1
  have h2 : T 1000000 = (100, L) := z2
  have h3 : I 1000000 = X := z3
  subst hc h1
  have hh := hp_of (eH5_of hH)
  have v1 : w32 ((i : Int) + 1) = ((i + 1 : Nat) : Int) := (w32_eq (by omega) (by omega)).trans (by omega)
  have u1 : 0 ≤ ((i + 1 : Nat) : Int) ∧ ((i + 1 : Nat) : Int) < (L : Int) := by omega
  have v2 : w32 ((i : Int) + 2) = ((i + 2 : Nat) : Int) := (w32_eq (by omega) (by omega)).trans (by omega)
  have u2 : 0 ≤ ((i + 2 : Nat) : Int) ∧ ((i + 2 : Nat) : Int) < (L : Int) := by omega
  refine s0_201.mpr ?_
  simp only [s0_202, s0_203, s0_204, s0_205, s0_206, s0_207, s0_208, s0_209, s0_210, s0_211, s0_212, Option.toList_some, Option.toList_none, List.cons_append, List.nil_append, Nat.le_refl, true_and, and_true, true_or, or_true, false_or, or_false, true_implies, false_implies, implies_true, not_true_eq_false, not_false_eq_true, eq_self, Nat.reduceLT, Nat.reduceLeDiff, Nat.reduceEqDiff, Nat.reduceAdd, Nat.reduceSub, Int.reduceLT, Int.reduceLE, Int.reduceEq, Int.reduceNeg, Int.reduceNe, Int.reduceAdd, Int.reduceSub, Int.reduceMul, Int.reduceToNat, Int.toNat_zero, Int.toNat_one, Int.toNat_natCast, am_cats, am_cat, am_st1, am_st2, am_clr, up2_na, up2_nj, up2_same, List.getElem?_cons_zero, List.getElem?_cons_succ, List.set_cons_zero, List.set_cons_succ, ne_eq, tk_0 hh, h2, h3, v1, u1, v2, u2]
  refine wpc_mono w (fun v g1 hq => ?_)
  obtain ⟨a, rfl, hI1, w2⟩ := hq
  obtain ⟨c1, s1, T1, I1, J1, R1⟩ := g1
  obtain ⟨hH1, z4, z5, z6, -⟩ := hI1
  have hc1 : c1 = 185 := hH1.1
  have k1 : s1 = s' := z4
  have k2 : T1 1000000 = (100, L) := z5
  have k3 : I1 1000000 = X := z6
  subst hc1 k1
  have hh1 := hp_of (eH5_of hH1)
  refine ⟨⟨Nat.le_refl _, Nat.le_refl _⟩, ?_⟩
  simp only [s0_213, s0_214, s0_215, s0_216, s0_217, s0_218, s0_219, s0_220, s0_221, s0_222, s0_223, s0_224, s0_225, Option.toList_some, Option.toList_none, List.cons_append, List.nil_append, Nat.le_refl, true_and, and_true, true_or, or_true, false_or, or_false, true_implies, false_implies, implies_true, not_true_eq_false, not_false_eq_true, eq_self, Nat.reduceLT, Nat.reduceLeDiff, Nat.reduceEqDiff, Nat.reduceAdd, Nat.reduceSub, Int.reduceLT, Int.reduceLE, Int.reduceEq, Int.reduceNeg, Int.reduceNe, Int.reduceAdd, Int.reduceSub, Int.reduceMul, Int.reduceToNat, Int.toNat_zero, Int.toNat_one, Int.toNat_natCast, am_cats, am_cat, am_st1, am_st2, am_clr, up2_na, up2_nj, up2_same, List.getElem?_cons_zero, List.getElem?_cons_succ, List.set_cons_zero, List.set_cons_succ, ne_eq, ansV, tk_152 hh1, k2, k3, v1, u1, v2, u2]
  refine wpc_mono w2 (fun v2 g2 hq => ?_)
  obtain ⟨b, rfl, hc2, hI2⟩ := hq
  have hz := hQ g2 hI2
  refine ⟨⟨Nat.le_of_eq hI2.1.1.symm, Nat.le_of_eq hI2.2.1.symm⟩, ?_⟩
  simp only [s0_226, s0_227, Option.toList_some, Option.toList_none, List.cons_append, List.nil_append, Nat.le_refl, true_and, and_true, true_or, or_true, false_or, or_false, true_implies, false_implies, implies_true, not_true_eq_false, not_false_eq_true, eq_self, Nat.reduceLT, Nat.reduceLeDiff, Nat.reduceEqDiff, Nat.reduceAdd, Nat.reduceSub, Int.reduceLT, Int.reduceLE, Int.reduceEq, Int.reduceNeg, Int.reduceNe, Int.reduceAdd, Int.reduceSub, Int.reduceMul, Int.reduceToNat, Int.toNat_zero, Int.toNat_one, Int.toNat_natCast, am_cats, am_cat, am_st1, am_st2, am_clr, up2_na, up2_nj, up2_same, List.getElem?_cons_zero, List.getElem?_cons_succ, List.set_cons_zero, List.set_cons_succ, ne_eq, ansV]
  exact hz
theorem lc_8 {L s d i : Nat} {X : Nat → Int} {P : AH → Prop} {g : AH} {Q : Option AV → AH → Prop} (hX : ∀ j, rg32 (X j)) (hi : i + 6 ≤ L) (hL : L ≤ 3072) (H : pr L X s P d 50 163 3 false false) (hI : Inv L X s P g) (hQ : ∀ g2, Inv L X s P g2 → wp codeT mX (d + 1) 0 855 [some (.inr (.inr (some 1000000))), some (.inr (.inr (some 0))), some (.inr (.inr (some 152))), some (.inl (i : Int))] [] g2 Q) : wp codeT mX (d + 1) 0 228 [some (.inr (.inr (some 1000000))), some (.inr (.inr (some 0))), some (.inr (.inr (some 152))), some (.inl (i : Int))] [] g Q := by
  have w := H [X (i + 1), X (i + 2), X (i + 3)] g rfl (by
    intro z hz
    simp only [List.mem_cons, List.not_mem_nil, or_false] at hz
    rcases hz with rfl | rfl | rfl <;> exact hX _) hI
  obtain ⟨c, s', T, I, J, R⟩ := g
  obtain ⟨hH, z1, z2, z3, -⟩ := hI
  have hc : c = 185 := hH.1
  have h1 : s' = s := z1
  have h2 : T 1000000 = (100, L) := z2
  have h3 : I 1000000 = X := z3
  subst hc h1
  have hh := hp_of (eH5_of hH)
  have v1 : w32 ((i : Int) + 1) = ((i + 1 : Nat) : Int) := (w32_eq (by omega) (by omega)).trans (by omega)
  have u1 : 0 ≤ ((i + 1 : Nat) : Int) ∧ ((i + 1 : Nat) : Int) < (L : Int) := by omega
  have v2 : w32 ((i : Int) + 2) = ((i + 2 : Nat) : Int) := (w32_eq (by omega) (by omega)).trans (by omega)
  have u2 : 0 ≤ ((i + 2 : Nat) : Int) ∧ ((i + 2 : Nat) : Int) < (L : Int) := by omega
  have v3 : w32 ((i : Int) + 3) = ((i + 3 : Nat) : Int) := (w32_eq (by omega) (by omega)).trans (by omega)
  have u3 : 0 ≤ ((i + 3 : Nat) : Int) ∧ ((i + 3 : Nat) : Int) < (L : Int) := by omega
  refine s0_228.mpr ?_
  simp only [s0_229, s0_230, s0_231, s0_232, s0_233, s0_234, s0_235, s0_236, s0_237, s0_238, s0_239, s0_240, s0_241, s0_242, s0_243, s0_244, Option.toList_some, Option.toList_none, List.cons_append, List.nil_append, Nat.le_refl, true_and, and_true, true_or, or_true, false_or, or_false, true_implies, false_implies, implies_true, not_true_eq_false, not_false_eq_true, eq_self, Nat.reduceLT, Nat.reduceLeDiff, Nat.reduceEqDiff, Nat.reduceAdd, Nat.reduceSub, Int.reduceLT, Int.reduceLE, Int.reduceEq, Int.reduceNeg, Int.reduceNe, Int.reduceAdd, Int.reduceSub, Int.reduceMul, Int.reduceToNat, Int.toNat_zero, Int.toNat_one, Int.toNat_natCast, am_cats, am_cat, am_st1, am_st2, am_clr, up2_na, up2_nj, up2_same, List.getElem?_cons_zero, List.getElem?_cons_succ, List.set_cons_zero, List.set_cons_succ, ne_eq, tk_0 hh, h2, h3, v1, u1, v2, u2, v3, u3]
  refine wpc_mono w (fun v g1 hq => ?_)
  obtain ⟨a, rfl, hI1, w2⟩ := hq
  obtain ⟨c1, s1, T1, I1, J1, R1⟩ := g1
  obtain ⟨hH1, z4, z5, z6, -⟩ := hI1
  have hc1 : c1 = 185 := hH1.1
  have k1 : s1 = s' := z4
  have k2 : T1 1000000 = (100, L) := z5
  have k3 : I1 1000000 = X := z6
  subst hc1 k1
  have hh1 := hp_of (eH5_of hH1)
  refine ⟨⟨Nat.le_refl _, Nat.le_refl _⟩, ?_⟩
  simp only [s0_245, s0_246, s0_247, s0_248, s0_249, s0_250, s0_251, s0_252, s0_253, s0_254, s0_255, s0_256, s0_257, s0_258, s0_259, s0_260, s0_261, s0_262, Option.toList_some, Option.toList_none, List.cons_append, List.nil_append, Nat.le_refl, true_and, and_true, true_or, or_true, false_or, or_false, true_implies, false_implies, implies_true, not_true_eq_false, not_false_eq_true, eq_self, Nat.reduceLT, Nat.reduceLeDiff, Nat.reduceEqDiff, Nat.reduceAdd, Nat.reduceSub, Int.reduceLT, Int.reduceLE, Int.reduceEq, Int.reduceNeg, Int.reduceNe, Int.reduceAdd, Int.reduceSub, Int.reduceMul, Int.reduceToNat, Int.toNat_zero, Int.toNat_one, Int.toNat_natCast, am_cats, am_cat, am_st1, am_st2, am_clr, up2_na, up2_nj, up2_same, List.getElem?_cons_zero, List.getElem?_cons_succ, List.set_cons_zero, List.set_cons_succ, ne_eq, ansV, tk_152 hh1, k2, k3, v1, u1, v2, u2, v3, u3]
  refine wpc_mono w2 (fun v2 g2 hq => ?_)
  obtain ⟨b, rfl, hc2, hI2⟩ := hq
  have hz := hQ g2 hI2
  refine ⟨⟨Nat.le_of_eq hI2.1.1.symm, Nat.le_of_eq hI2.2.1.symm⟩, ?_⟩
  simp only [s0_263, s0_264, Option.toList_some, Option.toList_none, List.cons_append, List.nil_append, Nat.le_refl, true_and, and_true, true_or, or_true, false_or, or_false, true_implies, false_implies, implies_true, not_true_eq_false, not_false_eq_true, eq_self, Nat.reduceLT, Nat.reduceLeDiff, Nat.reduceEqDiff, Nat.reduceAdd, Nat.reduceSub, Int.reduceLT, Int.reduceLE, Int.reduceEq, Int.reduceNeg, Int.reduceNe, Int.reduceAdd, Int.reduceSub, Int.reduceMul, Int.reduceToNat, Int.toNat_zero, Int.toNat_one, Int.toNat_natCast, am_cats, am_cat, am_st1, am_st2, am_clr, up2_na, up2_nj, up2_same, List.getElem?_cons_zero, List.getElem?_cons_succ, List.set_cons_zero, List.set_cons_succ, ne_eq, ansV]
  exact hz
theorem lc_9 {L s d i : Nat} {X : Nat → Int} {P : AH → Prop} {g : AH} {Q : Option AV → AH → Prop} (hX : ∀ j, rg32 (X j)) (hi : i + 6 ≤ L) (hL : L ≤ 3072) (H : pr L X s P d 66 170 2 false false) (hI : Inv L X s P g) (hQ : ∀ g2, Inv L X s P g2 → wp codeT mX (d + 1) 0 855 [some (.inr (.inr (some 1000000))), some (.inr (.inr (some 0))), some (.inr (.inr (some 152))), some (.inl (i : Int))] [] g2 Q) : wp codeT mX (d + 1) 0 265 [some (.inr (.inr (some 1000000))), some (.inr (.inr (some 0))), some (.inr (.inr (some 152))), some (.inl (i : Int))] [] g Q := by
  have w := H [X (i + 1), X (i + 2)] g rfl (by
    intro z hz
    simp only [List.mem_cons, List.not_mem_nil, or_false] at hz
    rcases hz with rfl | rfl <;> exact hX _) hI
  obtain ⟨c, s', T, I, J, R⟩ := g
  obtain ⟨hH, z1, z2, z3, -⟩ := hI
  have hc : c = 185 := hH.1
  have h1 : s' = s := z1
  have h2 : T 1000000 = (100, L) := z2
  have h3 : I 1000000 = X := z3
  subst hc h1
  have hh := hp_of (eH5_of hH)
  have v1 : w32 ((i : Int) + 1) = ((i + 1 : Nat) : Int) := (w32_eq (by omega) (by omega)).trans (by omega)
  have u1 : 0 ≤ ((i + 1 : Nat) : Int) ∧ ((i + 1 : Nat) : Int) < (L : Int) := by omega
  have v2 : w32 ((i : Int) + 2) = ((i + 2 : Nat) : Int) := (w32_eq (by omega) (by omega)).trans (by omega)
  have u2 : 0 ≤ ((i + 2 : Nat) : Int) ∧ ((i + 2 : Nat) : Int) < (L : Int) := by omega
  refine s0_265.mpr ?_
  simp only [s0_266, s0_267, s0_268, s0_269, s0_270, s0_271, s0_272, s0_273, s0_274, s0_275, s0_276, Option.toList_some, Option.toList_none, List.cons_append, List.nil_append, Nat.le_refl, true_and, and_true, true_or, or_true, false_or, or_false, true_implies, false_implies, implies_true, not_true_eq_false, not_false_eq_true, eq_self, Nat.reduceLT, Nat.reduceLeDiff, Nat.reduceEqDiff, Nat.reduceAdd, Nat.reduceSub, Int.reduceLT, Int.reduceLE, Int.reduceEq, Int.reduceNeg, Int.reduceNe, Int.reduceAdd, Int.reduceSub, Int.reduceMul, Int.reduceToNat, Int.toNat_zero, Int.toNat_one, Int.toNat_natCast, am_cats, am_cat, am_st1, am_st2, am_clr, up2_na, up2_nj, up2_same, List.getElem?_cons_zero, List.getElem?_cons_succ, List.set_cons_zero, List.set_cons_succ, ne_eq, tk_0 hh, h2, h3, v1, u1, v2, u2]
  refine wpc_mono w (fun v g1 hq => ?_)
  obtain ⟨a, rfl, hI1, w2⟩ := hq
  obtain ⟨c1, s1, T1, I1, J1, R1⟩ := g1
  obtain ⟨hH1, z4, z5, z6, -⟩ := hI1
  have hc1 : c1 = 185 := hH1.1
  have k1 : s1 = s' := z4
  have k2 : T1 1000000 = (100, L) := z5
  have k3 : I1 1000000 = X := z6
  subst hc1 k1
  have hh1 := hp_of (eH5_of hH1)
  refine ⟨⟨Nat.le_refl _, Nat.le_refl _⟩, ?_⟩
  simp only [s0_277, s0_278, s0_279, s0_280, s0_281, s0_282, s0_283, s0_284, s0_285, s0_286, s0_287, s0_288, s0_289, Option.toList_some, Option.toList_none, List.cons_append, List.nil_append, Nat.le_refl, true_and, and_true, true_or, or_true, false_or, or_false, true_implies, false_implies, implies_true, not_true_eq_false, not_false_eq_true, eq_self, Nat.reduceLT, Nat.reduceLeDiff, Nat.reduceEqDiff, Nat.reduceAdd, Nat.reduceSub, Int.reduceLT, Int.reduceLE, Int.reduceEq, Int.reduceNeg, Int.reduceNe, Int.reduceAdd, Int.reduceSub, Int.reduceMul, Int.reduceToNat, Int.toNat_zero, Int.toNat_one, Int.toNat_natCast, am_cats, am_cat, am_st1, am_st2, am_clr, up2_na, up2_nj, up2_same, List.getElem?_cons_zero, List.getElem?_cons_succ, List.set_cons_zero, List.set_cons_succ, ne_eq, ansV, tk_152 hh1, k2, k3, v1, u1, v2, u2]
  refine wpc_mono w2 (fun v2 g2 hq => ?_)
  obtain ⟨b, rfl, hc2, hI2⟩ := hq
  have hz := hQ g2 hI2
  refine ⟨⟨Nat.le_of_eq hI2.1.1.symm, Nat.le_of_eq hI2.2.1.symm⟩, ?_⟩
  simp only [s0_290, s0_291, Option.toList_some, Option.toList_none, List.cons_append, List.nil_append, Nat.le_refl, true_and, and_true, true_or, or_true, false_or, or_false, true_implies, false_implies, implies_true, not_true_eq_false, not_false_eq_true, eq_self, Nat.reduceLT, Nat.reduceLeDiff, Nat.reduceEqDiff, Nat.reduceAdd, Nat.reduceSub, Int.reduceLT, Int.reduceLE, Int.reduceEq, Int.reduceNeg, Int.reduceNe, Int.reduceAdd, Int.reduceSub, Int.reduceMul, Int.reduceToNat, Int.toNat_zero, Int.toNat_one, Int.toNat_natCast, am_cats, am_cat, am_st1, am_st2, am_clr, up2_na, up2_nj, up2_same, List.getElem?_cons_zero, List.getElem?_cons_succ, List.set_cons_zero, List.set_cons_succ, ne_eq, ansV]
  exact hz
theorem lc_10 {L s d i : Nat} {X : Nat → Int} {P : AH → Prop} {g : AH} {Q : Option AV → AH → Prop} (hX : ∀ j, rg32 (X j)) (hi : i + 6 ≤ L) (hL : L ≤ 3072) (H : pr L X s P d 73 174 4 false false) (hI : Inv L X s P g) (hQ : ∀ g2, Inv L X s P g2 → wp codeT mX (d + 1) 0 855 [some (.inr (.inr (some 1000000))), some (.inr (.inr (some 0))), some (.inr (.inr (some 152))), some (.inl (i : Int))] [] g2 Q) : wp codeT mX (d + 1) 0 292 [some (.inr (.inr (some 1000000))), some (.inr (.inr (some 0))), some (.inr (.inr (some 152))), some (.inl (i : Int))] [] g Q := by
  have w := H [X (i + 1), X (i + 2), X (i + 3), X (i + 4)] g rfl (by
    intro z hz
    simp only [List.mem_cons, List.not_mem_nil, or_false] at hz
    rcases hz with rfl | rfl | rfl | rfl <;> exact hX _) hI
  obtain ⟨c, s', T, I, J, R⟩ := g
  obtain ⟨hH, z1, z2, z3, -⟩ := hI
  have hc : c = 185 := hH.1
  have h1 : s' = s := z1
  have h2 : T 1000000 = (100, L) := z2
  have h3 : I 1000000 = X := z3
  subst hc h1
  have hh := hp_of (eH5_of hH)
  have v1 : w32 ((i : Int) + 1) = ((i + 1 : Nat) : Int) := (w32_eq (by omega) (by omega)).trans (by omega)
  have u1 : 0 ≤ ((i + 1 : Nat) : Int) ∧ ((i + 1 : Nat) : Int) < (L : Int) := by omega
  have v2 : w32 ((i : Int) + 2) = ((i + 2 : Nat) : Int) := (w32_eq (by omega) (by omega)).trans (by omega)
  have u2 : 0 ≤ ((i + 2 : Nat) : Int) ∧ ((i + 2 : Nat) : Int) < (L : Int) := by omega
  have v3 : w32 ((i : Int) + 3) = ((i + 3 : Nat) : Int) := (w32_eq (by omega) (by omega)).trans (by omega)
  have u3 : 0 ≤ ((i + 3 : Nat) : Int) ∧ ((i + 3 : Nat) : Int) < (L : Int) := by omega
  have v4 : w32 ((i : Int) + 4) = ((i + 4 : Nat) : Int) := (w32_eq (by omega) (by omega)).trans (by omega)
  have u4 : 0 ≤ ((i + 4 : Nat) : Int) ∧ ((i + 4 : Nat) : Int) < (L : Int) := by omega
  refine s0_292.mpr ?_
  simp only [s0_293, s0_294, s0_295, s0_296, s0_297, s0_298, s0_299, s0_300, s0_301, s0_302, s0_303, s0_304, s0_305, s0_306, s0_307, s0_308, s0_309, s0_310, s0_311, s0_312, s0_313, Option.toList_some, Option.toList_none, List.cons_append, List.nil_append, Nat.le_refl, true_and, and_true, true_or, or_true, false_or, or_false, true_implies, false_implies, implies_true, not_true_eq_false, not_false_eq_true, eq_self, Nat.reduceLT, Nat.reduceLeDiff, Nat.reduceEqDiff, Nat.reduceAdd, Nat.reduceSub, Int.reduceLT, Int.reduceLE, Int.reduceEq, Int.reduceNeg, Int.reduceNe, Int.reduceAdd, Int.reduceSub, Int.reduceMul, Int.reduceToNat, Int.toNat_zero, Int.toNat_one, Int.toNat_natCast, am_cats, am_cat, am_st1, am_st2, am_clr, up2_na, up2_nj, up2_same, List.getElem?_cons_zero, List.getElem?_cons_succ, List.set_cons_zero, List.set_cons_succ, ne_eq, tk_0 hh, h2, h3, v1, u1, v2, u2, v3, u3, v4, u4]
  refine wpc_mono w (fun v g1 hq => ?_)
  obtain ⟨a, rfl, hI1, w2⟩ := hq
  obtain ⟨c1, s1, T1, I1, J1, R1⟩ := g1
  obtain ⟨hH1, z4, z5, z6, -⟩ := hI1
  have hc1 : c1 = 185 := hH1.1
  have k1 : s1 = s' := z4
  have k2 : T1 1000000 = (100, L) := z5
  have k3 : I1 1000000 = X := z6
  subst hc1 k1
  have hh1 := hp_of (eH5_of hH1)
  refine ⟨⟨Nat.le_refl _, Nat.le_refl _⟩, ?_⟩
  simp only [s0_314, s0_315, s0_316, s0_317, s0_318, s0_319, s0_320, s0_321, s0_322, s0_323, s0_324, s0_325, s0_326, s0_327, s0_328, s0_329, s0_330, s0_331, s0_332, s0_333, s0_334, s0_335, s0_336, Option.toList_some, Option.toList_none, List.cons_append, List.nil_append, Nat.le_refl, true_and, and_true, true_or, or_true, false_or, or_false, true_implies, false_implies, implies_true, not_true_eq_false, not_false_eq_true, eq_self, Nat.reduceLT, Nat.reduceLeDiff, Nat.reduceEqDiff, Nat.reduceAdd, Nat.reduceSub, Int.reduceLT, Int.reduceLE, Int.reduceEq, Int.reduceNeg, Int.reduceNe, Int.reduceAdd, Int.reduceSub, Int.reduceMul, Int.reduceToNat, Int.toNat_zero, Int.toNat_one, Int.toNat_natCast, am_cats, am_cat, am_st1, am_st2, am_clr, up2_na, up2_nj, up2_same, List.getElem?_cons_zero, List.getElem?_cons_succ, List.set_cons_zero, List.set_cons_succ, ne_eq, ansV, tk_152 hh1, k2, k3, v1, u1, v2, u2, v3, u3, v4, u4]
  refine wpc_mono w2 (fun v2 g2 hq => ?_)
  obtain ⟨b, rfl, hc2, hI2⟩ := hq
  have hz := hQ g2 hI2
  refine ⟨⟨Nat.le_of_eq hI2.1.1.symm, Nat.le_of_eq hI2.2.1.symm⟩, ?_⟩
  simp only [s0_337, s0_338, Option.toList_some, Option.toList_none, List.cons_append, List.nil_append, Nat.le_refl, true_and, and_true, true_or, or_true, false_or, or_false, true_implies, false_implies, implies_true, not_true_eq_false, not_false_eq_true, eq_self, Nat.reduceLT, Nat.reduceLeDiff, Nat.reduceEqDiff, Nat.reduceAdd, Nat.reduceSub, Int.reduceLT, Int.reduceLE, Int.reduceEq, Int.reduceNeg, Int.reduceNe, Int.reduceAdd, Int.reduceSub, Int.reduceMul, Int.reduceToNat, Int.toNat_zero, Int.toNat_one, Int.toNat_natCast, am_cats, am_cat, am_st1, am_st2, am_clr, up2_na, up2_nj, up2_same, List.getElem?_cons_zero, List.getElem?_cons_succ, List.set_cons_zero, List.set_cons_succ, ne_eq, ansV]
  exact hz
theorem lc_11 {L s d i : Nat} {X : Nat → Int} {P : AH → Prop} {g : AH} {Q : Option AV → AH → Prop} (hX : ∀ j, rg32 (X j)) (hi : i + 6 ≤ L) (hL : L ≤ 3072) (H : pr L X s P d 75 175 2 false false) (hI : Inv L X s P g) (hQ : ∀ g2, Inv L X s P g2 → wp codeT mX (d + 1) 0 855 [some (.inr (.inr (some 1000000))), some (.inr (.inr (some 0))), some (.inr (.inr (some 152))), some (.inl (i : Int))] [] g2 Q) : wp codeT mX (d + 1) 0 339 [some (.inr (.inr (some 1000000))), some (.inr (.inr (some 0))), some (.inr (.inr (some 152))), some (.inl (i : Int))] [] g Q := by
  have w := H [X (i + 1), X (i + 2)] g rfl (by
    intro z hz
    simp only [List.mem_cons, List.not_mem_nil, or_false] at hz
    rcases hz with rfl | rfl <;> exact hX _) hI
  obtain ⟨c, s', T, I, J, R⟩ := g
  obtain ⟨hH, z1, z2, z3, -⟩ := hI
  have hc : c = 185 := hH.1
  have h1 : s' = s := z1
  have h2 : T 1000000 = (100, L) := z2
  have h3 : I 1000000 = X := z3
  subst hc h1
  have hh := hp_of (eH5_of hH)
  have v1 : w32 ((i : Int) + 1) = ((i + 1 : Nat) : Int) := (w32_eq (by omega) (by omega)).trans (by omega)
  have u1 : 0 ≤ ((i + 1 : Nat) : Int) ∧ ((i + 1 : Nat) : Int) < (L : Int) := by omega
  have v2 : w32 ((i : Int) + 2) = ((i + 2 : Nat) : Int) := (w32_eq (by omega) (by omega)).trans (by omega)
  have u2 : 0 ≤ ((i + 2 : Nat) : Int) ∧ ((i + 2 : Nat) : Int) < (L : Int) := by omega
  refine s0_339.mpr ?_
  simp only [s0_340, s0_341, s0_342, s0_343, s0_344, s0_345, s0_346, s0_347, s0_348, s0_349, s0_350, Option.toList_some, Option.toList_none, List.cons_append, List.nil_append, Nat.le_refl, true_and, and_true, true_or, or_true, false_or, or_false, true_implies, false_implies, implies_true, not_true_eq_false, not_false_eq_true, eq_self, Nat.reduceLT, Nat.reduceLeDiff, Nat.reduceEqDiff, Nat.reduceAdd, Nat.reduceSub, Int.reduceLT, Int.reduceLE, Int.reduceEq, Int.reduceNeg, Int.reduceNe, Int.reduceAdd, Int.reduceSub, Int.reduceMul, Int.reduceToNat, Int.toNat_zero, Int.toNat_one, Int.toNat_natCast, am_cats, am_cat, am_st1, am_st2, am_clr, up2_na, up2_nj, up2_same, List.getElem?_cons_zero, List.getElem?_cons_succ, List.set_cons_zero, List.set_cons_succ, ne_eq, tk_0 hh, h2, h3, v1, u1, v2, u2]
  refine wpc_mono w (fun v g1 hq => ?_)
  obtain ⟨a, rfl, hI1, w2⟩ := hq
  obtain ⟨c1, s1, T1, I1, J1, R1⟩ := g1
  obtain ⟨hH1, z4, z5, z6, -⟩ := hI1
  have hc1 : c1 = 185 := hH1.1
  have k1 : s1 = s' := z4
  have k2 : T1 1000000 = (100, L) := z5
  have k3 : I1 1000000 = X := z6
  subst hc1 k1
  have hh1 := hp_of (eH5_of hH1)
  refine ⟨⟨Nat.le_refl _, Nat.le_refl _⟩, ?_⟩
  simp only [s0_351, s0_352, s0_353, s0_354, s0_355, s0_356, s0_357, s0_358, s0_359, s0_360, s0_361, s0_362, s0_363, Option.toList_some, Option.toList_none, List.cons_append, List.nil_append, Nat.le_refl, true_and, and_true, true_or, or_true, false_or, or_false, true_implies, false_implies, implies_true, not_true_eq_false, not_false_eq_true, eq_self, Nat.reduceLT, Nat.reduceLeDiff, Nat.reduceEqDiff, Nat.reduceAdd, Nat.reduceSub, Int.reduceLT, Int.reduceLE, Int.reduceEq, Int.reduceNeg, Int.reduceNe, Int.reduceAdd, Int.reduceSub, Int.reduceMul, Int.reduceToNat, Int.toNat_zero, Int.toNat_one, Int.toNat_natCast, am_cats, am_cat, am_st1, am_st2, am_clr, up2_na, up2_nj, up2_same, List.getElem?_cons_zero, List.getElem?_cons_succ, List.set_cons_zero, List.set_cons_succ, ne_eq, ansV, tk_152 hh1, k2, k3, v1, u1, v2, u2]
  refine wpc_mono w2 (fun v2 g2 hq => ?_)
  obtain ⟨b, rfl, hc2, hI2⟩ := hq
  have hz := hQ g2 hI2
  refine ⟨⟨Nat.le_of_eq hI2.1.1.symm, Nat.le_of_eq hI2.2.1.symm⟩, ?_⟩
  simp only [s0_364, s0_365, Option.toList_some, Option.toList_none, List.cons_append, List.nil_append, Nat.le_refl, true_and, and_true, true_or, or_true, false_or, or_false, true_implies, false_implies, implies_true, not_true_eq_false, not_false_eq_true, eq_self, Nat.reduceLT, Nat.reduceLeDiff, Nat.reduceEqDiff, Nat.reduceAdd, Nat.reduceSub, Int.reduceLT, Int.reduceLE, Int.reduceEq, Int.reduceNeg, Int.reduceNe, Int.reduceAdd, Int.reduceSub, Int.reduceMul, Int.reduceToNat, Int.toNat_zero, Int.toNat_one, Int.toNat_natCast, am_cats, am_cat, am_st1, am_st2, am_clr, up2_na, up2_nj, up2_same, List.getElem?_cons_zero, List.getElem?_cons_succ, List.set_cons_zero, List.set_cons_succ, ne_eq, ansV]
  exact hz
theorem lc_12 {L s d i : Nat} {X : Nat → Int} {P : AH → Prop} {g : AH} {Q : Option AV → AH → Prop} (hX : ∀ j, rg32 (X j)) (hi : i + 6 ≤ L) (hL : L ≤ 3072) (H : pr L X s P d 76 176 3 false false) (hI : Inv L X s P g) (hQ : ∀ g2, Inv L X s P g2 → wp codeT mX (d + 1) 0 855 [some (.inr (.inr (some 1000000))), some (.inr (.inr (some 0))), some (.inr (.inr (some 152))), some (.inl (i : Int))] [] g2 Q) : wp codeT mX (d + 1) 0 366 [some (.inr (.inr (some 1000000))), some (.inr (.inr (some 0))), some (.inr (.inr (some 152))), some (.inl (i : Int))] [] g Q := by
  have w := H [X (i + 1), X (i + 2), X (i + 3)] g rfl (by
    intro z hz
    simp only [List.mem_cons, List.not_mem_nil, or_false] at hz
    rcases hz with rfl | rfl | rfl <;> exact hX _) hI
  obtain ⟨c, s', T, I, J, R⟩ := g
  obtain ⟨hH, z1, z2, z3, -⟩ := hI
  have hc : c = 185 := hH.1
  have h1 : s' = s := z1
  have h2 : T 1000000 = (100, L) := z2
  have h3 : I 1000000 = X := z3
  subst hc h1
  have hh := hp_of (eH5_of hH)
  have v1 : w32 ((i : Int) + 1) = ((i + 1 : Nat) : Int) := (w32_eq (by omega) (by omega)).trans (by omega)
  have u1 : 0 ≤ ((i + 1 : Nat) : Int) ∧ ((i + 1 : Nat) : Int) < (L : Int) := by omega
  have v2 : w32 ((i : Int) + 2) = ((i + 2 : Nat) : Int) := (w32_eq (by omega) (by omega)).trans (by omega)
  have u2 : 0 ≤ ((i + 2 : Nat) : Int) ∧ ((i + 2 : Nat) : Int) < (L : Int) := by omega
  have v3 : w32 ((i : Int) + 3) = ((i + 3 : Nat) : Int) := (w32_eq (by omega) (by omega)).trans (by omega)
  have u3 : 0 ≤ ((i + 3 : Nat) : Int) ∧ ((i + 3 : Nat) : Int) < (L : Int) := by omega
  refine s0_366.mpr ?_
  simp only [s0_367, s0_368, s0_369, s0_370, s0_371, s0_372, s0_373, s0_374, s0_375, s0_376, s0_377, s0_378, s0_379, s0_380, s0_381, s0_382, Option.toList_some, Option.toList_none, List.cons_append, List.nil_append, Nat.le_refl, true_and, and_true, true_or, or_true, false_or, or_false, true_implies, false_implies, implies_true, not_true_eq_false, not_false_eq_true, eq_self, Nat.reduceLT, Nat.reduceLeDiff, Nat.reduceEqDiff, Nat.reduceAdd, Nat.reduceSub, Int.reduceLT, Int.reduceLE, Int.reduceEq, Int.reduceNeg, Int.reduceNe, Int.reduceAdd, Int.reduceSub, Int.reduceMul, Int.reduceToNat, Int.toNat_zero, Int.toNat_one, Int.toNat_natCast, am_cats, am_cat, am_st1, am_st2, am_clr, up2_na, up2_nj, up2_same, List.getElem?_cons_zero, List.getElem?_cons_succ, List.set_cons_zero, List.set_cons_succ, ne_eq, tk_0 hh, h2, h3, v1, u1, v2, u2, v3, u3]
  refine wpc_mono w (fun v g1 hq => ?_)
  obtain ⟨a, rfl, hI1, w2⟩ := hq
  obtain ⟨c1, s1, T1, I1, J1, R1⟩ := g1
  obtain ⟨hH1, z4, z5, z6, -⟩ := hI1
  have hc1 : c1 = 185 := hH1.1
  have k1 : s1 = s' := z4
  have k2 : T1 1000000 = (100, L) := z5
  have k3 : I1 1000000 = X := z6
  subst hc1 k1
  have hh1 := hp_of (eH5_of hH1)
  refine ⟨⟨Nat.le_refl _, Nat.le_refl _⟩, ?_⟩
  simp only [s0_383, s0_384, s0_385, s0_386, s0_387, s0_388, s0_389, s0_390, s0_391, s0_392, s0_393, s0_394, s0_395, s0_396, s0_397, s0_398, s0_399, s0_400, Option.toList_some, Option.toList_none, List.cons_append, List.nil_append, Nat.le_refl, true_and, and_true, true_or, or_true, false_or, or_false, true_implies, false_implies, implies_true, not_true_eq_false, not_false_eq_true, eq_self, Nat.reduceLT, Nat.reduceLeDiff, Nat.reduceEqDiff, Nat.reduceAdd, Nat.reduceSub, Int.reduceLT, Int.reduceLE, Int.reduceEq, Int.reduceNeg, Int.reduceNe, Int.reduceAdd, Int.reduceSub, Int.reduceMul, Int.reduceToNat, Int.toNat_zero, Int.toNat_one, Int.toNat_natCast, am_cats, am_cat, am_st1, am_st2, am_clr, up2_na, up2_nj, up2_same, List.getElem?_cons_zero, List.getElem?_cons_succ, List.set_cons_zero, List.set_cons_succ, ne_eq, ansV, tk_152 hh1, k2, k3, v1, u1, v2, u2, v3, u3]
  refine wpc_mono w2 (fun v2 g2 hq => ?_)
  obtain ⟨b, rfl, hc2, hI2⟩ := hq
  have hz := hQ g2 hI2
  refine ⟨⟨Nat.le_of_eq hI2.1.1.symm, Nat.le_of_eq hI2.2.1.symm⟩, ?_⟩
  simp only [s0_401, s0_402, Option.toList_some, Option.toList_none, List.cons_append, List.nil_append, Nat.le_refl, true_and, and_true, true_or, or_true, false_or, or_false, true_implies, false_implies, implies_true, not_true_eq_false, not_false_eq_true, eq_self, Nat.reduceLT, Nat.reduceLeDiff, Nat.reduceEqDiff, Nat.reduceAdd, Nat.reduceSub, Int.reduceLT, Int.reduceLE, Int.reduceEq, Int.reduceNeg, Int.reduceNe, Int.reduceAdd, Int.reduceSub, Int.reduceMul, Int.reduceToNat, Int.toNat_zero, Int.toNat_one, Int.toNat_natCast, am_cats, am_cat, am_st1, am_st2, am_clr, up2_na, up2_nj, up2_same, List.getElem?_cons_zero, List.getElem?_cons_succ, List.set_cons_zero, List.set_cons_succ, ne_eq, ansV]
  exact hz
theorem lc_13 {L s d i : Nat} {X : Nat → Int} {P : AH → Prop} {g : AH} {Q : Option AV → AH → Prop} (hX : ∀ j, rg32 (X j)) (hi : i + 6 ≤ L) (hL : L ≤ 3072) (H : pr L X s P d 79 180 4 true false) (hI : Inv L X s P g) (hQ : ∀ g2, Inv L X s P g2 → wp codeT mX (d + 1) 0 855 [some (.inr (.inr (some 1000000))), some (.inr (.inr (some 0))), some (.inr (.inr (some 152))), some (.inl (i : Int))] [] g2 Q) : wp codeT mX (d + 1) 0 403 [some (.inr (.inr (some 1000000))), some (.inr (.inr (some 0))), some (.inr (.inr (some 152))), some (.inl (i : Int))] [] g Q := by
  have w := H [X (i + 1), X (i + 2), X (i + 3), X (i + 4)] g rfl (by
    intro z hz
    simp only [List.mem_cons, List.not_mem_nil, or_false] at hz
    rcases hz with rfl | rfl | rfl | rfl <;> exact hX _) hI
  obtain ⟨c, s', T, I, J, R⟩ := g
  obtain ⟨hH, z1, z2, z3, -⟩ := hI
  have hc : c = 185 := hH.1
  have h1 : s' = s := z1
  have h2 : T 1000000 = (100, L) := z2
  have h3 : I 1000000 = X := z3
  subst hc h1
  have hh := hp_of (eH5_of hH)
  have v1 : w32 ((i : Int) + 1) = ((i + 1 : Nat) : Int) := (w32_eq (by omega) (by omega)).trans (by omega)
  have u1 : 0 ≤ ((i + 1 : Nat) : Int) ∧ ((i + 1 : Nat) : Int) < (L : Int) := by omega
  have v2 : w32 ((i : Int) + 2) = ((i + 2 : Nat) : Int) := (w32_eq (by omega) (by omega)).trans (by omega)
  have u2 : 0 ≤ ((i + 2 : Nat) : Int) ∧ ((i + 2 : Nat) : Int) < (L : Int) := by omega
  have v3 : w32 ((i : Int) + 3) = ((i + 3 : Nat) : Int) := (w32_eq (by omega) (by omega)).trans (by omega)
  have u3 : 0 ≤ ((i + 3 : Nat) : Int) ∧ ((i + 3 : Nat) : Int) < (L : Int) := by omega
  have v4 : w32 ((i : Int) + 4) = ((i + 4 : Nat) : Int) := (w32_eq (by omega) (by omega)).trans (by omega)
  have u4 : 0 ≤ ((i + 4 : Nat) : Int) ∧ ((i + 4 : Nat) : Int) < (L : Int) := by omega
  refine s0_403.mpr ?_
  simp only [s0_404, s0_405, s0_406, s0_407, s0_408, s0_409, s0_410, s0_411, s0_412, s0_413, s0_414, s0_415, s0_416, s0_417, s0_418, s0_419, s0_420, s0_421, s0_422, s0_423, s0_424, Option.toList_some, Option.toList_none, List.cons_append, List.nil_append, Nat.le_refl, true_and, and_true, true_or, or_true, false_or, or_false, true_implies, false_implies, implies_true, not_true_eq_false, not_false_eq_true, eq_self, Nat.reduceLT, Nat.reduceLeDiff, Nat.reduceEqDiff, Nat.reduceAdd, Nat.reduceSub, Int.reduceLT, Int.reduceLE, Int.reduceEq, Int.reduceNeg, Int.reduceNe, Int.reduceAdd, Int.reduceSub, Int.reduceMul, Int.reduceToNat, Int.toNat_zero, Int.toNat_one, Int.toNat_natCast, am_cats, am_cat, am_st1, am_st2, am_clr, up2_na, up2_nj, up2_same, List.getElem?_cons_zero, List.getElem?_cons_succ, List.set_cons_zero, List.set_cons_succ, ne_eq, tk_0 hh, h2, h3, v1, u1, v2, u2, v3, u3, v4, u4]
  refine wpc_mono w (fun v g1 hq => ?_)
  obtain ⟨a, rfl, hI1, w2⟩ := hq
  obtain ⟨c1, s1, T1, I1, J1, R1⟩ := g1
  obtain ⟨hH1, z4, z5, z6, -⟩ := hI1
  have hc1 : c1 = 185 := hH1.1
  have k1 : s1 = s' := z4
  have k2 : T1 1000000 = (100, L) := z5
  have k3 : I1 1000000 = X := z6
  subst hc1 k1
  have hh1 := hp_of (eH5_of hH1)
  refine ⟨⟨Nat.le_refl _, Nat.le_refl _⟩, ?_⟩
  simp only [s0_425, s0_426, s0_427, s0_428, s0_429, s0_430, s0_431, s0_432, s0_433, s0_434, s0_435, s0_436, s0_437, s0_438, s0_439, s0_440, s0_441, s0_442, s0_443, s0_444, s0_445, s0_446, s0_447, Option.toList_some, Option.toList_none, List.cons_append, List.nil_append, Nat.le_refl, true_and, and_true, true_or, or_true, false_or, or_false, true_implies, false_implies, implies_true, not_true_eq_false, not_false_eq_true, eq_self, Nat.reduceLT, Nat.reduceLeDiff, Nat.reduceEqDiff, Nat.reduceAdd, Nat.reduceSub, Int.reduceLT, Int.reduceLE, Int.reduceEq, Int.reduceNeg, Int.reduceNe, Int.reduceAdd, Int.reduceSub, Int.reduceMul, Int.reduceToNat, Int.toNat_zero, Int.toNat_one, Int.toNat_natCast, am_cats, am_cat, am_st1, am_st2, am_clr, up2_na, up2_nj, up2_same, List.getElem?_cons_zero, List.getElem?_cons_succ, List.set_cons_zero, List.set_cons_succ, ne_eq, ansV, tk_152 hh1, k2, k3, v1, u1, v2, u2, v3, u3, v4, u4]
  refine wpc_mono w2 (fun v2 g2 hq => ?_)
  obtain ⟨b, rfl, hc2, hI2⟩ := hq
  have hz := hQ g2 hI2
  refine ⟨⟨Nat.le_of_eq hI2.1.1.symm, Nat.le_of_eq hI2.2.1.symm⟩, ?_⟩
  simp only [s0_448, s0_449, Option.toList_some, Option.toList_none, List.cons_append, List.nil_append, Nat.le_refl, true_and, and_true, true_or, or_true, false_or, or_false, true_implies, false_implies, implies_true, not_true_eq_false, not_false_eq_true, eq_self, Nat.reduceLT, Nat.reduceLeDiff, Nat.reduceEqDiff, Nat.reduceAdd, Nat.reduceSub, Int.reduceLT, Int.reduceLE, Int.reduceEq, Int.reduceNeg, Int.reduceNe, Int.reduceAdd, Int.reduceSub, Int.reduceMul, Int.reduceToNat, Int.toNat_zero, Int.toNat_one, Int.toNat_natCast, am_cats, am_cat, am_st1, am_st2, am_clr, up2_na, up2_nj, up2_same, List.getElem?_cons_zero, List.getElem?_cons_succ, List.set_cons_zero, List.set_cons_succ, ne_eq, ansV]
  exact hz
theorem lc_14 {L s d i : Nat} {X : Nat → Int} {P : AH → Prop} {g : AH} {Q : Option AV → AH → Prop} (hX : ∀ j, rg32 (X j)) (hi : i + 6 ≤ L) (hL : L ≤ 3072) (H : pr L X s P d 85 184 5 false true) (hI : Inv L X s P g) (hQ : ∀ g2, Inv L X s P g2 → wp codeT mX (d + 1) 0 855 [some (.inr (.inr (some 1000000))), some (.inr (.inr (some 0))), some (.inr (.inr (some 152))), some (.inl (i : Int))] [] g2 Q) : wp codeT mX (d + 1) 0 450 [some (.inr (.inr (some 1000000))), some (.inr (.inr (some 0))), some (.inr (.inr (some 152))), some (.inl (i : Int))] [] g Q := by
  have w := H [X (i + 1), X (i + 2), X (i + 3), X (i + 4), X (i + 5)] g rfl (by
    intro z hz
    simp only [List.mem_cons, List.not_mem_nil, or_false] at hz
    rcases hz with rfl | rfl | rfl | rfl | rfl <;> exact hX _) hI
  obtain ⟨c, s', T, I, J, R⟩ := g
  obtain ⟨hH, z1, z2, z3, -⟩ := hI
  have hc : c = 185 := hH.1
  have h1 : s' = s := z1
  have h2 : T 1000000 = (100, L) := z2
  have h3 : I 1000000 = X := z3
  subst hc h1
  have hh := hp_of (eH5_of hH)
  have v1 : w32 ((i : Int) + 1) = ((i + 1 : Nat) : Int) := (w32_eq (by omega) (by omega)).trans (by omega)
  have u1 : 0 ≤ ((i + 1 : Nat) : Int) ∧ ((i + 1 : Nat) : Int) < (L : Int) := by omega
  have v2 : w32 ((i : Int) + 2) = ((i + 2 : Nat) : Int) := (w32_eq (by omega) (by omega)).trans (by omega)
  have u2 : 0 ≤ ((i + 2 : Nat) : Int) ∧ ((i + 2 : Nat) : Int) < (L : Int) := by omega
  have v3 : w32 ((i : Int) + 3) = ((i + 3 : Nat) : Int) := (w32_eq (by omega) (by omega)).trans (by omega)
  have u3 : 0 ≤ ((i + 3 : Nat) : Int) ∧ ((i + 3 : Nat) : Int) < (L : Int) := by omega
  have v4 : w32 ((i : Int) + 4) = ((i + 4 : Nat) : Int) := (w32_eq (by omega) (by omega)).trans (by omega)
  have u4 : 0 ≤ ((i + 4 : Nat) : Int) ∧ ((i + 4 : Nat) : Int) < (L : Int) := by omega
  have v5 : w32 ((i : Int) + 5) = ((i + 5 : Nat) : Int) := (w32_eq (by omega) (by omega)).trans (by omega)
  have u5 : 0 ≤ ((i + 5 : Nat) : Int) ∧ ((i + 5 : Nat) : Int) < (L : Int) := by omega
  refine s0_450.mpr ?_
  simp only [s0_451, s0_452, s0_453, s0_454, s0_455, s0_456, s0_457, s0_458, s0_459, s0_460, s0_461, s0_462, s0_463, s0_464, s0_465, s0_466, s0_467, s0_468, s0_469, s0_470, s0_471, s0_472, s0_473, s0_474, s0_475, s0_476, Option.toList_some, Option.toList_none, List.cons_append, List.nil_append, Nat.le_refl, true_and, and_true, true_or, or_true, false_or, or_false, true_implies, false_implies, implies_true, not_true_eq_false, not_false_eq_true, eq_self, Nat.reduceLT, Nat.reduceLeDiff, Nat.reduceEqDiff, Nat.reduceAdd, Nat.reduceSub, Int.reduceLT, Int.reduceLE, Int.reduceEq, Int.reduceNeg, Int.reduceNe, Int.reduceAdd, Int.reduceSub, Int.reduceMul, Int.reduceToNat, Int.toNat_zero, Int.toNat_one, Int.toNat_natCast, am_cats, am_cat, am_st1, am_st2, am_clr, up2_na, up2_nj, up2_same, List.getElem?_cons_zero, List.getElem?_cons_succ, List.set_cons_zero, List.set_cons_succ, ne_eq, tk_0 hh, h2, h3, v1, u1, v2, u2, v3, u3, v4, u4, v5, u5]
  refine wpc_mono w (fun v g1 hq => ?_)
  obtain ⟨a, rfl, hI1, w2⟩ := hq
  obtain ⟨c1, s1, T1, I1, J1, R1⟩ := g1
  obtain ⟨hH1, z4, z5, z6, -⟩ := hI1
  have hc1 : c1 = 185 := hH1.1
  have k1 : s1 = s' := z4
  have k2 : T1 1000000 = (100, L) := z5
  have k3 : I1 1000000 = X := z6
  subst hc1 k1
  have hh1 := hp_of (eH5_of hH1)
  refine ⟨⟨Nat.le_refl _, Nat.le_refl _⟩, ?_⟩
  simp only [s0_477, s0_478, s0_479, s0_480, s0_481, s0_482, s0_483, s0_484, s0_485, s0_486, s0_487, s0_488, s0_489, s0_490, s0_491, s0_492, s0_493, s0_494, s0_495, s0_496, s0_497, s0_498, s0_499, s0_500, s0_501, s0_502, s0_503, Option.toList_some, Option.toList_none, List.cons_append, List.nil_append, Nat.le_refl, true_and, and_true, true_or, or_true, false_or, or_false, true_implies, false_implies, implies_true, not_true_eq_false, not_false_eq_true, eq_self, Nat.reduceLT, Nat.reduceLeDiff, Nat.reduceEqDiff, Nat.reduceAdd, Nat.reduceSub, Int.reduceLT, Int.reduceLE, Int.reduceEq, Int.reduceNeg, Int.reduceNe, Int.reduceAdd, Int.reduceSub, Int.reduceMul, Int.reduceToNat, Int.toNat_zero, Int.toNat_one, Int.toNat_natCast, am_cats, am_cat, am_st1, am_st2, am_clr, up2_na, up2_nj, up2_same, List.getElem?_cons_zero, List.getElem?_cons_succ, List.set_cons_zero, List.set_cons_succ, ne_eq, ansV, tk_152 hh1, k2, k3, v1, u1, v2, u2, v3, u3, v4, u4, v5, u5]
  refine wpc_mono w2 (fun v2 g2 hq => ?_)
  obtain ⟨b, rfl, hc2, hI2⟩ := hq
  have hz := hQ g2 hI2
  refine ⟨⟨Nat.le_of_eq hI2.1.1.symm, Nat.le_of_eq hI2.2.1.symm⟩, ?_⟩
  have hc2 : a = b := hc2 rfl
  subst hc2
  simp only [s0_504, s0_505, s0_506, Option.toList_some, Option.toList_none, List.cons_append, List.nil_append, Nat.le_refl, true_and, and_true, true_or, or_true, false_or, or_false, true_implies, false_implies, implies_true, not_true_eq_false, not_false_eq_true, eq_self, Nat.reduceLT, Nat.reduceLeDiff, Nat.reduceEqDiff, Nat.reduceAdd, Nat.reduceSub, Int.reduceLT, Int.reduceLE, Int.reduceEq, Int.reduceNeg, Int.reduceNe, Int.reduceAdd, Int.reduceSub, Int.reduceMul, Int.reduceToNat, Int.toNat_zero, Int.toNat_one, Int.toNat_natCast, am_cats, am_cat, am_st1, am_st2, am_clr, up2_na, up2_nj, up2_same, List.getElem?_cons_zero, List.getElem?_cons_succ, List.set_cons_zero, List.set_cons_succ, ne_eq, ansV, Int.lt_irrefl, if_false, reduceIte]
  exact hz
theorem lc_15 {L s d i : Nat} {X : Nat → Int} {P : AH → Prop} {g : AH} {Q : Option AV → AH → Prop} (hX : ∀ j, rg32 (X j)) (hi : i + 6 ≤ L) (hL : L ≤ 3072) (H : pr L X s P d 88 187 1 false false) (hI : Inv L X s P g) (hQ : ∀ g2, Inv L X s P g2 → wp codeT mX (d + 1) 0 855 [some (.inr (.inr (some 1000000))), some (.inr (.inr (some 0))), some (.inr (.inr (some 152))), some (.inl (i : Int))] [] g2 Q) : wp codeT mX (d + 1) 0 507 [some (.inr (.inr (some 1000000))), some (.inr (.inr (some 0))), some (.inr (.inr (some 152))), some (.inl (i : Int))] [] g Q := by
  have w := H [X (i + 1)] g rfl (by
    intro z hz
    simp only [List.mem_cons, List.not_mem_nil, or_false] at hz
    rcases hz with rfl <;> exact hX _) hI
  obtain ⟨c, s', T, I, J, R⟩ := g
  obtain ⟨hH, z1, z2, z3, -⟩ := hI
  have hc : c = 185 := hH.1
  have h1 : s' = s := z1
  have h2 : T 1000000 = (100, L) := z2
  have h3 : I 1000000 = X := z3
  subst hc h1
  have hh := hp_of (eH5_of hH)
  have v1 : w32 ((i : Int) + 1) = ((i + 1 : Nat) : Int) := (w32_eq (by omega) (by omega)).trans (by omega)
  have u1 : 0 ≤ ((i + 1 : Nat) : Int) ∧ ((i + 1 : Nat) : Int) < (L : Int) := by omega
  refine s0_507.mpr ?_
  simp only [s0_508, s0_509, s0_510, s0_511, s0_512, s0_513, Option.toList_some, Option.toList_none, List.cons_append, List.nil_append, Nat.le_refl, true_and, and_true, true_or, or_true, false_or, or_false, true_implies, false_implies, implies_true, not_true_eq_false, not_false_eq_true, eq_self, Nat.reduceLT, Nat.reduceLeDiff, Nat.reduceEqDiff, Nat.reduceAdd, Nat.reduceSub, Int.reduceLT, Int.reduceLE, Int.reduceEq, Int.reduceNeg, Int.reduceNe, Int.reduceAdd, Int.reduceSub, Int.reduceMul, Int.reduceToNat, Int.toNat_zero, Int.toNat_one, Int.toNat_natCast, am_cats, am_cat, am_st1, am_st2, am_clr, up2_na, up2_nj, up2_same, List.getElem?_cons_zero, List.getElem?_cons_succ, List.set_cons_zero, List.set_cons_succ, ne_eq, tk_0 hh, h2, h3, v1, u1]
  refine wpc_mono w (fun v g1 hq => ?_)
  obtain ⟨a, rfl, hI1, w2⟩ := hq
  obtain ⟨c1, s1, T1, I1, J1, R1⟩ := g1
  obtain ⟨hH1, z4, z5, z6, -⟩ := hI1
  have hc1 : c1 = 185 := hH1.1
  have k1 : s1 = s' := z4
  have k2 : T1 1000000 = (100, L) := z5
  have k3 : I1 1000000 = X := z6
  subst hc1 k1
  have hh1 := hp_of (eH5_of hH1)
  refine ⟨⟨Nat.le_refl _, Nat.le_refl _⟩, ?_⟩
  simp only [s0_514, s0_515, s0_516, s0_517, s0_518, s0_519, s0_520, s0_521, Option.toList_some, Option.toList_none, List.cons_append, List.nil_append, Nat.le_refl, true_and, and_true, true_or, or_true, false_or, or_false, true_implies, false_implies, implies_true, not_true_eq_false, not_false_eq_true, eq_self, Nat.reduceLT, Nat.reduceLeDiff, Nat.reduceEqDiff, Nat.reduceAdd, Nat.reduceSub, Int.reduceLT, Int.reduceLE, Int.reduceEq, Int.reduceNeg, Int.reduceNe, Int.reduceAdd, Int.reduceSub, Int.reduceMul, Int.reduceToNat, Int.toNat_zero, Int.toNat_one, Int.toNat_natCast, am_cats, am_cat, am_st1, am_st2, am_clr, up2_na, up2_nj, up2_same, List.getElem?_cons_zero, List.getElem?_cons_succ, List.set_cons_zero, List.set_cons_succ, ne_eq, ansV, tk_152 hh1, k2, k3, v1, u1]
  refine wpc_mono w2 (fun v2 g2 hq => ?_)
  obtain ⟨b, rfl, hc2, hI2⟩ := hq
  have hz := hQ g2 hI2
  refine ⟨⟨Nat.le_of_eq hI2.1.1.symm, Nat.le_of_eq hI2.2.1.symm⟩, ?_⟩
  simp only [s0_522, s0_523, Option.toList_some, Option.toList_none, List.cons_append, List.nil_append, Nat.le_refl, true_and, and_true, true_or, or_true, false_or, or_false, true_implies, false_implies, implies_true, not_true_eq_false, not_false_eq_true, eq_self, Nat.reduceLT, Nat.reduceLeDiff, Nat.reduceEqDiff, Nat.reduceAdd, Nat.reduceSub, Int.reduceLT, Int.reduceLE, Int.reduceEq, Int.reduceNeg, Int.reduceNe, Int.reduceAdd, Int.reduceSub, Int.reduceMul, Int.reduceToNat, Int.toNat_zero, Int.toNat_one, Int.toNat_natCast, am_cats, am_cat, am_st1, am_st2, am_clr, up2_na, up2_nj, up2_same, List.getElem?_cons_zero, List.getElem?_cons_succ, List.set_cons_zero, List.set_cons_succ, ne_eq, ansV]
  exact hz
theorem lc_16 {L s d i : Nat} {X : Nat → Int} {P : AH → Prop} {g : AH} {Q : Option AV → AH → Prop} (hX : ∀ j, rg32 (X j)) (hi : i + 6 ≤ L) (hL : L ≤ 3072) (H : pr L X s P d 100 190 2 false false) (hI : Inv L X s P g) (hQ : ∀ g2, Inv L X s P g2 → wp codeT mX (d + 1) 0 855 [some (.inr (.inr (some 1000000))), some (.inr (.inr (some 0))), some (.inr (.inr (some 152))), some (.inl (i : Int))] [] g2 Q) : wp codeT mX (d + 1) 0 524 [some (.inr (.inr (some 1000000))), some (.inr (.inr (some 0))), some (.inr (.inr (some 152))), some (.inl (i : Int))] [] g Q := by
  have w := H [X (i + 1), X (i + 2)] g rfl (by
    intro z hz
    simp only [List.mem_cons, List.not_mem_nil, or_false] at hz
    rcases hz with rfl | rfl <;> exact hX _) hI
  obtain ⟨c, s', T, I, J, R⟩ := g
  obtain ⟨hH, z1, z2, z3, -⟩ := hI
  have hc : c = 185 := hH.1
  have h1 : s' = s := z1
  have h2 : T 1000000 = (100, L) := z2
  have h3 : I 1000000 = X := z3
  subst hc h1
  have hh := hp_of (eH5_of hH)
  have v1 : w32 ((i : Int) + 1) = ((i + 1 : Nat) : Int) := (w32_eq (by omega) (by omega)).trans (by omega)
  have u1 : 0 ≤ ((i + 1 : Nat) : Int) ∧ ((i + 1 : Nat) : Int) < (L : Int) := by omega
  have v2 : w32 ((i : Int) + 2) = ((i + 2 : Nat) : Int) := (w32_eq (by omega) (by omega)).trans (by omega)
  have u2 : 0 ≤ ((i + 2 : Nat) : Int) ∧ ((i + 2 : Nat) : Int) < (L : Int) := by omega
  refine s0_524.mpr ?_
  simp only [s0_525, s0_526, s0_527, s0_528, s0_529, s0_530, s0_531, s0_532, s0_533, s0_534, s0_535, Option.toList_some, Option.toList_none, List.cons_append, List.nil_append, Nat.le_refl, true_and, and_true, true_or, or_true, false_or, or_false, true_implies, false_implies, implies_true, not_true_eq_false, not_false_eq_true, eq_self, Nat.reduceLT, Nat.reduceLeDiff, Nat.reduceEqDiff, Nat.reduceAdd, Nat.reduceSub, Int.reduceLT, Int.reduceLE, Int.reduceEq, Int.reduceNeg, Int.reduceNe, Int.reduceAdd, Int.reduceSub, Int.reduceMul, Int.reduceToNat, Int.toNat_zero, Int.toNat_one, Int.toNat_natCast, am_cats, am_cat, am_st1, am_st2, am_clr, up2_na, up2_nj, up2_same, List.getElem?_cons_zero, List.getElem?_cons_succ, List.set_cons_zero, List.set_cons_succ, ne_eq, tk_0 hh, h2, h3, v1, u1, v2, u2]
  refine wpc_mono w (fun v g1 hq => ?_)
  obtain ⟨a, rfl, hI1, w2⟩ := hq
  obtain ⟨c1, s1, T1, I1, J1, R1⟩ := g1
  obtain ⟨hH1, z4, z5, z6, -⟩ := hI1
  have hc1 : c1 = 185 := hH1.1
  have k1 : s1 = s' := z4
  have k2 : T1 1000000 = (100, L) := z5
  have k3 : I1 1000000 = X := z6
  subst hc1 k1
  have hh1 := hp_of (eH5_of hH1)
  refine ⟨⟨Nat.le_refl _, Nat.le_refl _⟩, ?_⟩
  simp only [s0_536, s0_537, s0_538, s0_539, s0_540, s0_541, s0_542, s0_543, s0_544, s0_545, s0_546, s0_547, s0_548, Option.toList_some, Option.toList_none, List.cons_append, List.nil_append, Nat.le_refl, true_and, and_true, true_or, or_true, false_or, or_false, true_implies, false_implies, implies_true, not_true_eq_false, not_false_eq_true, eq_self, Nat.reduceLT, Nat.reduceLeDiff, Nat.reduceEqDiff, Nat.reduceAdd, Nat.reduceSub, Int.reduceLT, Int.reduceLE, Int.reduceEq, Int.reduceNeg, Int.reduceNe, Int.reduceAdd, Int.reduceSub, Int.reduceMul, Int.reduceToNat, Int.toNat_zero, Int.toNat_one, Int.toNat_natCast, am_cats, am_cat, am_st1, am_st2, am_clr, up2_na, up2_nj, up2_same, List.getElem?_cons_zero, List.getElem?_cons_succ, List.set_cons_zero, List.set_cons_succ, ne_eq, ansV, tk_152 hh1, k2, k3, v1, u1, v2, u2]
  refine wpc_mono w2 (fun v2 g2 hq => ?_)
  obtain ⟨b, rfl, hc2, hI2⟩ := hq
  have hz := hQ g2 hI2
  refine ⟨⟨Nat.le_of_eq hI2.1.1.symm, Nat.le_of_eq hI2.2.1.symm⟩, ?_⟩
  simp only [s0_549, s0_550, Option.toList_some, Option.toList_none, List.cons_append, List.nil_append, Nat.le_refl, true_and, and_true, true_or, or_true, false_or, or_false, true_implies, false_implies, implies_true, not_true_eq_false, not_false_eq_true, eq_self, Nat.reduceLT, Nat.reduceLeDiff, Nat.reduceEqDiff, Nat.reduceAdd, Nat.reduceSub, Int.reduceLT, Int.reduceLE, Int.reduceEq, Int.reduceNeg, Int.reduceNe, Int.reduceAdd, Int.reduceSub, Int.reduceMul, Int.reduceToNat, Int.toNat_zero, Int.toNat_one, Int.toNat_natCast, am_cats, am_cat, am_st1, am_st2, am_clr, up2_na, up2_nj, up2_same, List.getElem?_cons_zero, List.getElem?_cons_succ, List.set_cons_zero, List.set_cons_succ, ne_eq, ansV]
  exact hz
theorem lc_17 {L s d i : Nat} {X : Nat → Int} {P : AH → Prop} {g : AH} {Q : Option AV → AH → Prop} (hX : ∀ j, rg32 (X j)) (hi : i + 6 ≤ L) (hL : L ≤ 3072) (H : pr L X s P d 103 194 2 false false) (hI : Inv L X s P g) (hQ : ∀ g2, Inv L X s P g2 → wp codeT mX (d + 1) 0 855 [some (.inr (.inr (some 1000000))), some (.inr (.inr (some 0))), some (.inr (.inr (some 152))), some (.inl (i : Int))] [] g2 Q) : wp codeT mX (d + 1) 0 551 [some (.inr (.inr (some 1000000))), some (.inr (.inr (some 0))), some (.inr (.inr (some 152))), some (.inl (i : Int))] [] g Q := by
  have w := H [X (i + 1), X (i + 2)] g rfl (by
    intro z hz
    simp only [List.mem_cons, List.not_mem_nil, or_false] at hz
    rcases hz with rfl | rfl <;> exact hX _) hI
  obtain ⟨c, s', T, I, J, R⟩ := g
  obtain ⟨hH, z1, z2, z3, -⟩ := hI
  have hc : c = 185 := hH.1
  have h1 : s' = s := z1
  have h2 : T 1000000 = (100, L) := z2
  have h3 : I 1000000 = X := z3
  subst hc h1
  have hh := hp_of (eH5_of hH)
  have v1 : w32 ((i : Int) + 1) = ((i + 1 : Nat) : Int) := (w32_eq (by omega) (by omega)).trans (by omega)
  have u1 : 0 ≤ ((i + 1 : Nat) : Int) ∧ ((i + 1 : Nat) : Int) < (L : Int) := by omega
  have v2 : w32 ((i : Int) + 2) = ((i + 2 : Nat) : Int) := (w32_eq (by omega) (by omega)).trans (by omega)
  have u2 : 0 ≤ ((i + 2 : Nat) : Int) ∧ ((i + 2 : Nat) : Int) < (L : Int) := by omega
  refine s0_551.mpr ?_
  simp only [s0_552, s0_553, s0_554, s0_555, s0_556, s0_557, s0_558, s0_559, s0_560, s0_561, s0_562, Option.toList_some, Option.toList_none, List.cons_append, List.nil_append, Nat.le_refl, true_and, and_true, true_or, or_true, false_or, or_false, true_implies, false_implies, implies_true, not_true_eq_false, not_false_eq_true, eq_self, Nat.reduceLT, Nat.reduceLeDiff, Nat.reduceEqDiff, Nat.reduceAdd, Nat.reduceSub, Int.reduceLT, Int.reduceLE, Int.reduceEq, Int.reduceNeg, Int.reduceNe, Int.reduceAdd, Int.reduceSub, Int.reduceMul, Int.reduceToNat, Int.toNat_zero, Int.toNat_one, Int.toNat_natCast, am_cats, am_cat, am_st1, am_st2, am_clr, up2_na, up2_nj, up2_same, List.getElem?_cons_zero, List.getElem?_cons_succ, List.set_cons_zero, List.set_cons_succ, ne_eq, tk_0 hh, h2, h3, v1, u1, v2, u2]
  refine wpc_mono w (fun v g1 hq => ?_)
  obtain ⟨a, rfl, hI1, w2⟩ := hq
  obtain ⟨c1, s1, T1, I1, J1, R1⟩ := g1
  obtain ⟨hH1, z4, z5, z6, -⟩ := hI1
  have hc1 : c1 = 185 := hH1.1
  have k1 : s1 = s' := z4
  have k2 : T1 1000000 = (100, L) := z5
  have k3 : I1 1000000 = X := z6
  subst hc1 k1
  have hh1 := hp_of (eH5_of hH1)
  refine ⟨⟨Nat.le_refl _, Nat.le_refl _⟩, ?_⟩
  simp only [s0_563, s0_564, s0_565, s0_566, s0_567, s0_568, s0_569, s0_570, s0_571, s0_572, s0_573, s0_574, s0_575, Option.toList_some, Option.toList_none, List.cons_append, List.nil_append, Nat.le_refl, true_and, and_true, true_or, or_true, false_or, or_false, true_implies, false_implies, implies_true, not_true_eq_false, not_false_eq_true, eq_self, Nat.reduceLT, Nat.reduceLeDiff, Nat.reduceEqDiff, Nat.reduceAdd, Nat.reduceSub, Int.reduceLT, Int.reduceLE, Int.reduceEq, Int.reduceNeg, Int.reduceNe, Int.reduceAdd, Int.reduceSub, Int.reduceMul, Int.reduceToNat, Int.toNat_zero, Int.toNat_one, Int.toNat_natCast, am_cats, am_cat, am_st1, am_st2, am_clr, up2_na, up2_nj, up2_same, List.getElem?_cons_zero, List.getElem?_cons_succ, List.set_cons_zero, List.set_cons_succ, ne_eq, ansV, tk_152 hh1, k2, k3, v1, u1, v2, u2]
  refine wpc_mono w2 (fun v2 g2 hq => ?_)
  obtain ⟨b, rfl, hc2, hI2⟩ := hq
  have hz := hQ g2 hI2
  refine ⟨⟨Nat.le_of_eq hI2.1.1.symm, Nat.le_of_eq hI2.2.1.symm⟩, ?_⟩
  simp only [s0_576, s0_577, Option.toList_some, Option.toList_none, List.cons_append, List.nil_append, Nat.le_refl, true_and, and_true, true_or, or_true, false_or, or_false, true_implies, false_implies, implies_true, not_true_eq_false, not_false_eq_true, eq_self, Nat.reduceLT, Nat.reduceLeDiff, Nat.reduceEqDiff, Nat.reduceAdd, Nat.reduceSub, Int.reduceLT, Int.reduceLE, Int.reduceEq, Int.reduceNeg, Int.reduceNe, Int.reduceAdd, Int.reduceSub, Int.reduceMul, Int.reduceToNat, Int.toNat_zero, Int.toNat_one, Int.toNat_natCast, am_cats, am_cat, am_st1, am_st2, am_clr, up2_na, up2_nj, up2_same, List.getElem?_cons_zero, List.getElem?_cons_succ, List.set_cons_zero, List.set_cons_succ, ne_eq, ansV]
  exact hz
theorem lc_18 {L s d i : Nat} {X : Nat → Int} {P : AH → Prop} {g : AH} {Q : Option AV → AH → Prop} (hX : ∀ j, rg32 (X j)) (hi : i + 6 ≤ L) (hL : L ≤ 3072) (H : pr L X s P d 106 195 1 false false) (hI : Inv L X s P g) (hQ : ∀ g2, Inv L X s P g2 → wp codeT mX (d + 1) 0 855 [some (.inr (.inr (some 1000000))), some (.inr (.inr (some 0))), some (.inr (.inr (some 152))), some (.inl (i : Int))] [] g2 Q) : wp codeT mX (d + 1) 0 578 [some (.inr (.inr (some 1000000))), some (.inr (.inr (some 0))), some (.inr (.inr (some 152))), some (.inl (i : Int))] [] g Q := by
  have w := H [X (i + 1)] g rfl (by
    intro z hz
    simp only [List.mem_cons, List.not_mem_nil, or_false] at hz
    rcases hz with rfl <;> exact hX _) hI
  obtain ⟨c, s', T, I, J, R⟩ := g
  obtain ⟨hH, z1, z2, z3, -⟩ := hI
  have hc : c = 185 := hH.1
  have h1 : s' = s := z1
  have h2 : T 1000000 = (100, L) := z2
  have h3 : I 1000000 = X := z3
  subst hc h1
  have hh := hp_of (eH5_of hH)
  have v1 : w32 ((i : Int) + 1) = ((i + 1 : Nat) : Int) := (w32_eq (by omega) (by omega)).trans (by omega)
  have u1 : 0 ≤ ((i + 1 : Nat) : Int) ∧ ((i + 1 : Nat) : Int) < (L : Int) := by omega
  refine s0_578.mpr ?_
  simp only [s0_579, s0_580, s0_581, s0_582, s0_583, s0_584, Option.toList_some, Option.toList_none, List.cons_append, List.nil_append, Nat.le_refl, true_and, and_true, true_or, or_true, false_or, or_false, true_implies, false_implies, implies_true, not_true_eq_false, not_false_eq_true, eq_self, Nat.reduceLT, Nat.reduceLeDiff, Nat.reduceEqDiff, Nat.reduceAdd, Nat.reduceSub, Int.reduceLT, Int.reduceLE, Int.reduceEq, Int.reduceNeg, Int.reduceNe, Int.reduceAdd, Int.reduceSub, Int.reduceMul, Int.reduceToNat, Int.toNat_zero, Int.toNat_one, Int.toNat_natCast, am_cats, am_cat, am_st1, am_st2, am_clr, up2_na, up2_nj, up2_same, List.getElem?_cons_zero, List.getElem?_cons_succ, List.set_cons_zero, List.set_cons_succ, ne_eq, tk_0 hh, h2, h3, v1, u1]
  refine wpc_mono w (fun v g1 hq => ?_)
  obtain ⟨a, rfl, hI1, w2⟩ := hq
  obtain ⟨c1, s1, T1, I1, J1, R1⟩ := g1
  obtain ⟨hH1, z4, z5, z6, -⟩ := hI1
  have hc1 : c1 = 185 := hH1.1
  have k1 : s1 = s' := z4
  have k2 : T1 1000000 = (100, L) := z5
  have k3 : I1 1000000 = X := z6
  subst hc1 k1
  have hh1 := hp_of (eH5_of hH1)
  refine ⟨⟨Nat.le_refl _, Nat.le_refl _⟩, ?_⟩
  simp only [s0_585, s0_586, s0_587, s0_588, s0_589, s0_590, s0_591, s0_592, Option.toList_some, Option.toList_none, List.cons_append, List.nil_append, Nat.le_refl, true_and, and_true, true_or, or_true, false_or, or_false, true_implies, false_implies, implies_true, not_true_eq_false, not_false_eq_true, eq_self, Nat.reduceLT, Nat.reduceLeDiff, Nat.reduceEqDiff, Nat.reduceAdd, Nat.reduceSub, Int.reduceLT, Int.reduceLE, Int.reduceEq, Int.reduceNeg, Int.reduceNe, Int.reduceAdd, Int.reduceSub, Int.reduceMul, Int.reduceToNat, Int.toNat_zero, Int.toNat_one, Int.toNat_natCast, am_cats, am_cat, am_st1, am_st2, am_clr, up2_na, up2_nj, up2_same, List.getElem?_cons_zero, List.getElem?_cons_succ, List.set_cons_zero, List.set_cons_succ, ne_eq, ansV, tk_152 hh1, k2, k3, v1, u1]
  refine wpc_mono w2 (fun v2 g2 hq => ?_)
  obtain ⟨b, rfl, hc2, hI2⟩ := hq
  have hz := hQ g2 hI2
  refine ⟨⟨Nat.le_of_eq hI2.1.1.symm, Nat.le_of_eq hI2.2.1.symm⟩, ?_⟩
  simp only [s0_593, s0_594, Option.toList_some, Option.toList_none, List.cons_append, List.nil_append, Nat.le_refl, true_and, and_true, true_or, or_true, false_or, or_false, true_implies, false_implies, implies_true, not_true_eq_false, not_false_eq_true, eq_self, Nat.reduceLT, Nat.reduceLeDiff, Nat.reduceEqDiff, Nat.reduceAdd, Nat.reduceSub, Int.reduceLT, Int.reduceLE, Int.reduceEq, Int.reduceNeg, Int.reduceNe, Int.reduceAdd, Int.reduceSub, Int.reduceMul, Int.reduceToNat, Int.toNat_zero, Int.toNat_one, Int.toNat_natCast, am_cats, am_cat, am_st1, am_st2, am_clr, up2_na, up2_nj, up2_same, List.getElem?_cons_zero, List.getElem?_cons_succ, List.set_cons_zero, List.set_cons_succ, ne_eq, ansV]
  exact hz
theorem lc_19 {L s d i : Nat} {X : Nat → Int} {P : AH → Prop} {g : AH} {Q : Option AV → AH → Prop} (hX : ∀ j, rg32 (X j)) (hi : i + 6 ≤ L) (hL : L ≤ 3072) (H : pr L X s P d 108 197 3 false false) (hI : Inv L X s P g) (hQ : ∀ g2, Inv L X s P g2 → wp codeT mX (d + 1) 0 855 [some (.inr (.inr (some 1000000))), some (.inr (.inr (some 0))), some (.inr (.inr (some 152))), some (.inl (i : Int))] [] g2 Q) : wp codeT mX (d + 1) 0 595 [some (.inr (.inr (some 1000000))), some (.inr (.inr (some 0))), some (.inr (.inr (some 152))), some (.inl (i : Int))] [] g Q := by
  have w := H [X (i + 1), X (i + 2), X (i + 3)] g rfl (by
    intro z hz
    simp only [List.mem_cons, List.not_mem_nil, or_false] at hz
    rcases hz with rfl | rfl | rfl <;> exact hX _) hI
  obtain ⟨c, s', T, I, J, R⟩ := g
  obtain ⟨hH, z1, z2, z3, -⟩ := hI
  have hc : c = 185 := hH.1
  have h1 : s' = s := z1
  have h2 : T 1000000 = (100, L) := z2
  have h3 : I 1000000 = X := z3
  subst hc h1
  have hh := hp_of (eH5_of hH)
  have v1 : w32 ((i : Int) + 1) = ((i + 1 : Nat) : Int) := (w32_eq (by omega) (by omega)).trans (by omega)
  have u1 : 0 ≤ ((i + 1 : Nat) : Int) ∧ ((i + 1 : Nat) : Int) < (L : Int) := by omega
  have v2 : w32 ((i : Int) + 2) = ((i + 2 : Nat) : Int) := (w32_eq (by omega) (by omega)).trans (by omega)
  have u2 : 0 ≤ ((i + 2 : Nat) : Int) ∧ ((i + 2 : Nat) : Int) < (L : Int) := by omega
  have v3 : w32 ((i : Int) + 3) = ((i + 3 : Nat) : Int) := (w32_eq (by omega) (by omega)).trans (by omega)
  have u3 : 0 ≤ ((i + 3 : Nat) : Int) ∧ ((i + 3 : Nat) : Int) < (L : Int) := by omega
  refine s0_595.mpr ?_
  simp only [s0_596, s0_597, s0_598, s0_599, s0_600, s0_601, s0_602, s0_603, s0_604, s0_605, s0_606, s0_607, s0_608, s0_609, s0_610, s0_611, Option.toList_some, Option.toList_none, List.cons_append, List.nil_append, Nat.le_refl, true_and, and_true, true_or, or_true, false_or, or_false, true_implies, false_implies, implies_true, not_true_eq_false, not_false_eq_true, eq_self, Nat.reduceLT, Nat.reduceLeDiff, Nat.reduceEqDiff, Nat.reduceAdd, Nat.reduceSub, Int.reduceLT, Int.reduceLE, Int.reduceEq, Int.reduceNeg, Int.reduceNe, Int.reduceAdd, Int.reduceSub, Int.reduceMul, Int.reduceToNat, Int.toNat_zero, Int.toNat_one, Int.toNat_natCast, am_cats, am_cat, am_st1, am_st2, am_clr, up2_na, up2_nj, up2_same, List.getElem?_cons_zero, List.getElem?_cons_succ, List.set_cons_zero, List.set_cons_succ, ne_eq, tk_0 hh, h2, h3, v1, u1, v2, u2, v3, u3]
  refine wpc_mono w (fun v g1 hq => ?_)
  obtain ⟨a, rfl, hI1, w2⟩ := hq
  obtain ⟨c1, s1, T1, I1, J1, R1⟩ := g1
  obtain ⟨hH1, z4, z5, z6, -⟩ := hI1
  have hc1 : c1 = 185 := hH1.1
  have k1 : s1 = s' := z4
  have k2 : T1 1000000 = (100, L) := z5
  have k3 : I1 1000000 = X := z6
  subst hc1 k1
  have hh1 := hp_of (eH5_of hH1)
  refine ⟨⟨Nat.le_refl _, Nat.le_refl _⟩, ?_⟩
  simp only [s0_612, s0_613, s0_614, s0_615, s0_616, s0_617, s0_618, s0_619, s0_620, s0_621, s0_622, s0_623, s0_624, s0_625, s0_626, s0_627, s0_628, s0_629, Option.toList_some, Option.toList_none, List.cons_append, List.nil_append, Nat.le_refl, true_and, and_true, true_or, or_true, false_or, or_false, true_implies, false_implies, implies_true, not_true_eq_false, not_false_eq_true, eq_self, Nat.reduceLT, Nat.reduceLeDiff, Nat.reduceEqDiff, Nat.reduceAdd, Nat.reduceSub, Int.reduceLT, Int.reduceLE, Int.reduceEq, Int.reduceNeg, Int.reduceNe, Int.reduceAdd, Int.reduceSub, Int.reduceMul, Int.reduceToNat, Int.toNat_zero, Int.toNat_one, Int.toNat_natCast, am_cats, am_cat, am_st1, am_st2, am_clr, up2_na, up2_nj, up2_same, List.getElem?_cons_zero, List.getElem?_cons_succ, List.set_cons_zero, List.set_cons_succ, ne_eq, ansV, tk_152 hh1, k2, k3, v1, u1, v2, u2, v3, u3]
  refine wpc_mono w2 (fun v2 g2 hq => ?_)
  obtain ⟨b, rfl, hc2, hI2⟩ := hq
  have hz := hQ g2 hI2
  refine ⟨⟨Nat.le_of_eq hI2.1.1.symm, Nat.le_of_eq hI2.2.1.symm⟩, ?_⟩
  simp only [s0_630, s0_631, Option.toList_some, Option.toList_none, List.cons_append, List.nil_append, Nat.le_refl, true_and, and_true, true_or, or_true, false_or, or_false, true_implies, false_implies, implies_true, not_true_eq_false, not_false_eq_true, eq_self, Nat.reduceLT, Nat.reduceLeDiff, Nat.reduceEqDiff, Nat.reduceAdd, Nat.reduceSub, Int.reduceLT, Int.reduceLE, Int.reduceEq, Int.reduceNeg, Int.reduceNe, Int.reduceAdd, Int.reduceSub, Int.reduceMul, Int.reduceToNat, Int.toNat_zero, Int.toNat_one, Int.toNat_natCast, am_cats, am_cat, am_st1, am_st2, am_clr, up2_na, up2_nj, up2_same, List.getElem?_cons_zero, List.getElem?_cons_succ, List.set_cons_zero, List.set_cons_succ, ne_eq, ansV]
  exact hz
theorem lc_20 {L s d i : Nat} {X : Nat → Int} {P : AH → Prop} {g : AH} {Q : Option AV → AH → Prop} (hX : ∀ j, rg32 (X j)) (hi : i + 6 ≤ L) (hL : L ≤ 3072) (H : pr L X s P d 110 198 1 false false) (hI : Inv L X s P g) (hQ : ∀ g2, Inv L X s P g2 → wp codeT mX (d + 1) 0 855 [some (.inr (.inr (some 1000000))), some (.inr (.inr (some 0))), some (.inr (.inr (some 152))), some (.inl (i : Int))] [] g2 Q) : wp codeT mX (d + 1) 0 632 [some (.inr (.inr (some 1000000))), some (.inr (.inr (some 0))), some (.inr (.inr (some 152))), some (.inl (i : Int))] [] g Q := by
  have w := H [X (i + 1)] g rfl (by
    intro z hz
    simp only [List.mem_cons, List.not_mem_nil, or_false] at hz
    rcases hz with rfl <;> exact hX _) hI
  obtain ⟨c, s', T, I, J, R⟩ := g
  obtain ⟨hH, z1, z2, z3, -⟩ := hI
  have hc : c = 185 := hH.1
  have h1 : s' = s := z1
  have h2 : T 1000000 = (100, L) := z2
  have h3 : I 1000000 = X := z3
  subst hc h1
  have hh := hp_of (eH5_of hH)
  have v1 : w32 ((i : Int) + 1) = ((i + 1 : Nat) : Int) := (w32_eq (by omega) (by omega)).trans (by omega)
  have u1 : 0 ≤ ((i + 1 : Nat) : Int) ∧ ((i + 1 : Nat) : Int) < (L : Int) := by omega
  refine s0_632.mpr ?_
  simp only [s0_633, s0_634, s0_635, s0_636, s0_637, s0_638, Option.toList_some, Option.toList_none, List.cons_append, List.nil_append, Nat.le_refl, true_and, and_true, true_or, or_true, false_or, or_false, true_implies, false_implies, implies_true, not_true_eq_false, not_false_eq_true, eq_self, Nat.reduceLT, Nat.reduceLeDiff, Nat.reduceEqDiff, Nat.reduceAdd, Nat.reduceSub, Int.reduceLT, Int.reduceLE, Int.reduceEq, Int.reduceNeg, Int.reduceNe, Int.reduceAdd, Int.reduceSub, Int.reduceMul, Int.reduceToNat, Int.toNat_zero, Int.toNat_one, Int.toNat_natCast, am_cats, am_cat, am_st1, am_st2, am_clr, up2_na, up2_nj, up2_same, List.getElem?_cons_zero, List.getElem?_cons_succ, List.set_cons_zero, List.set_cons_succ, ne_eq, tk_0 hh, h2, h3, v1, u1]
  refine wpc_mono w (fun v g1 hq => ?_)
  obtain ⟨a, rfl, hI1, w2⟩ := hq
  obtain ⟨c1, s1, T1, I1, J1, R1⟩ := g1
  obtain ⟨hH1, z4, z5, z6, -⟩ := hI1
  have hc1 : c1 = 185 := hH1.1
  have k1 : s1 = s' := z4
  have k2 : T1 1000000 = (100, L) := z5
  have k3 : I1 1000000 = X := z6
  subst hc1 k1
  have hh1 := hp_of (eH5_of hH1)
  refine ⟨⟨Nat.le_refl _, Nat.le_refl _⟩, ?_⟩
  simp only [s0_639, s0_640, s0_641, s0_642, s0_643, s0_644, s0_645, s0_646, Option.toList_some, Option.toList_none, List.cons_append, List.nil_append, Nat.le_refl, true_and, and_true, true_or, or_true, false_or, or_false, true_implies, false_implies, implies_true, not_true_eq_false, not_false_eq_true, eq_self, Nat.reduceLT, Nat.reduceLeDiff, Nat.reduceEqDiff, Nat.reduceAdd, Nat.reduceSub, Int.reduceLT, Int.reduceLE, Int.reduceEq, Int.reduceNeg, Int.reduceNe, Int.reduceAdd, Int.reduceSub, Int.reduceMul, Int.reduceToNat, Int.toNat_zero, Int.toNat_one, Int.toNat_natCast, am_cats, am_cat, am_st1, am_st2, am_clr, up2_na, up2_nj, up2_same, List.getElem?_cons_zero, List.getElem?_cons_succ, List.set_cons_zero, List.set_cons_succ, ne_eq, ansV, tk_152 hh1, k2, k3, v1, u1]
  refine wpc_mono w2 (fun v2 g2 hq => ?_)
  obtain ⟨b, rfl, hc2, hI2⟩ := hq
  have hz := hQ g2 hI2
  refine ⟨⟨Nat.le_of_eq hI2.1.1.symm, Nat.le_of_eq hI2.2.1.symm⟩, ?_⟩
  simp only [s0_647, s0_648, Option.toList_some, Option.toList_none, List.cons_append, List.nil_append, Nat.le_refl, true_and, and_true, true_or, or_true, false_or, or_false, true_implies, false_implies, implies_true, not_true_eq_false, not_false_eq_true, eq_self, Nat.reduceLT, Nat.reduceLeDiff, Nat.reduceEqDiff, Nat.reduceAdd, Nat.reduceSub, Int.reduceLT, Int.reduceLE, Int.reduceEq, Int.reduceNeg, Int.reduceNe, Int.reduceAdd, Int.reduceSub, Int.reduceMul, Int.reduceToNat, Int.toNat_zero, Int.toNat_one, Int.toNat_natCast, am_cats, am_cat, am_st1, am_st2, am_clr, up2_na, up2_nj, up2_same, List.getElem?_cons_zero, List.getElem?_cons_succ, List.set_cons_zero, List.set_cons_succ, ne_eq, ansV]
  exact hz
theorem lc_21 {L s d i : Nat} {X : Nat → Int} {P : AH → Prop} {g : AH} {Q : Option AV → AH → Prop} (hX : ∀ j, rg32 (X j)) (hi : i + 6 ≤ L) (hL : L ≤ 3072) (H : pr L X s P d 113 200 4 false false) (hI : Inv L X s P g) (hQ : ∀ g2, Inv L X s P g2 → wp codeT mX (d + 1) 0 855 [some (.inr (.inr (some 1000000))), some (.inr (.inr (some 0))), some (.inr (.inr (some 152))), some (.inl (i : Int))] [] g2 Q) : wp codeT mX (d + 1) 0 649 [some (.inr (.inr (some 1000000))), some (.inr (.inr (some 0))), some (.inr (.inr (some 152))), some (.inl (i : Int))] [] g Q := by
  have w := H [X (i + 1), X (i + 2), X (i + 3), X (i + 4)] g rfl (by
    intro z hz
    simp only [List.mem_cons, List.not_mem_nil, or_false] at hz
    rcases hz with rfl | rfl | rfl | rfl <;> exact hX _) hI
  obtain ⟨c, s', T, I, J, R⟩ := g
  obtain ⟨hH, z1, z2, z3, -⟩ := hI
  have hc : c = 185 := hH.1
  have h1 : s' = s := z1
  have h2 : T 1000000 = (100, L) := z2
  have h3 : I 1000000 = X := z3
  subst hc h1
  have hh := hp_of (eH5_of hH)
  have v1 : w32 ((i : Int) + 1) = ((i + 1 : Nat) : Int) := (w32_eq (by omega) (by omega)).trans (by omega)
  have u1 : 0 ≤ ((i + 1 : Nat) : Int) ∧ ((i + 1 : Nat) : Int) < (L : Int) := by omega
  have v2 : w32 ((i : Int) + 2) = ((i + 2 : Nat) : Int) := (w32_eq (by omega) (by omega)).trans (by omega)
  have u2 : 0 ≤ ((i + 2 : Nat) : Int) ∧ ((i + 2 : Nat) : Int) < (L : Int) := by omega
  have v3 : w32 ((i : Int) + 3) = ((i + 3 : Nat) : Int) := (w32_eq (by omega) (by omega)).trans (by omega)
  have u3 : 0 ≤ ((i + 3 : Nat) : Int) ∧ ((i + 3 : Nat) : Int) < (L : Int) := by omega
  have v4 : w32 ((i : Int) + 4) = ((i + 4 : Nat) : Int) := (w32_eq (by omega) (by omega)).trans (by omega)
  have u4 : 0 ≤ ((i + 4 : Nat) : Int) ∧ ((i + 4 : Nat) : Int) < (L : Int) := by omega
  refine s0_649.mpr ?_
  simp only [s0_650, s0_651, s0_652, s0_653, s0_654, s0_655, s0_656, s0_657, s0_658, s0_659, s0_660, s0_661, s0_662, s0_663, s0_664, s0_665, s0_666, s0_667, s0_668, s0_669, s0_670, Option.toList_some, Option.toList_none, List.cons_append, List.nil_append, Nat.le_refl, true_and, and_true, true_or, or_true, false_or, or_false, true_implies, false_implies, implies_true, not_true_eq_false, not_false_eq_true, eq_self, Nat.reduceLT, Nat.reduceLeDiff, Nat.reduceEqDiff, Nat.reduceAdd, Nat.reduceSub, Int.reduceLT, Int.reduceLE, Int.reduceEq, Int.reduceNeg, Int.reduceNe, Int.reduceAdd, Int.reduceSub, Int.reduceMul, Int.reduceToNat, Int.toNat_zero, Int.toNat_one, Int.toNat_natCast, am_cats, am_cat, am_st1, am_st2, am_clr, up2_na, up2_nj, up2_same, List.getElem?_cons_zero, List.getElem?_cons_succ, List.set_cons_zero, List.set_cons_succ, ne_eq, tk_0 hh, h2, h3, v1, u1, v2, u2, v3, u3, v4, u4]
  refine wpc_mono w (fun v g1 hq => ?_)
  obtain ⟨a, rfl, hI1, w2⟩ := hq
  obtain ⟨c1, s1, T1, I1, J1, R1⟩ := g1
  obtain ⟨hH1, z4, z5, z6, -⟩ := hI1
  have hc1 : c1 = 185 := hH1.1
  have k1 : s1 = s' := z4
  have k2 : T1 1000000 = (100, L) := z5
  have k3 : I1 1000000 = X := z6
  subst hc1 k1
  have hh1 := hp_of (eH5_of hH1)
  refine ⟨⟨Nat.le_refl _, Nat.le_refl _⟩, ?_⟩
  simp only [s0_671, s0_672, s0_673, s0_674, s0_675, s0_676, s0_677, s0_678, s0_679, s0_680, s0_681, s0_682, s0_683, s0_684, s0_685, s0_686, s0_687, s0_688, s0_689, s0_690, s0_691, s0_692, s0_693, Option.toList_some, Option.toList_none, List.cons_append, List.nil_append, Nat.le_refl, true_and, and_true, true_or, or_true, false_or, or_false, true_implies, false_implies, implies_true, not_true_eq_false, not_false_eq_true, eq_self, Nat.reduceLT, Nat.reduceLeDiff, Nat.reduceEqDiff, Nat.reduceAdd, Nat.reduceSub, Int.reduceLT, Int.reduceLE, Int.reduceEq, Int.reduceNeg, Int.reduceNe, Int.reduceAdd, Int.reduceSub, Int.reduceMul, Int.reduceToNat, Int.toNat_zero, Int.toNat_one, Int.toNat_natCast, am_cats, am_cat, am_st1, am_st2, am_clr, up2_na, up2_nj, up2_same, List.getElem?_cons_zero, List.getElem?_cons_succ, List.set_cons_zero, List.set_cons_succ, ne_eq, ansV, tk_152 hh1, k2, k3, v1, u1, v2, u2, v3, u3, v4, u4]
  refine wpc_mono w2 (fun v2 g2 hq => ?_)
  obtain ⟨b, rfl, hc2, hI2⟩ := hq
  have hz := hQ g2 hI2
  refine ⟨⟨Nat.le_of_eq hI2.1.1.symm, Nat.le_of_eq hI2.2.1.symm⟩, ?_⟩
  simp only [s0_694, s0_695, Option.toList_some, Option.toList_none, List.cons_append, List.nil_append, Nat.le_refl, true_and, and_true, true_or, or_true, false_or, or_false, true_implies, false_implies, implies_true, not_true_eq_false, not_false_eq_true, eq_self, Nat.reduceLT, Nat.reduceLeDiff, Nat.reduceEqDiff, Nat.reduceAdd, Nat.reduceSub, Int.reduceLT, Int.reduceLE, Int.reduceEq, Int.reduceNeg, Int.reduceNe, Int.reduceAdd, Int.reduceSub, Int.reduceMul, Int.reduceToNat, Int.toNat_zero, Int.toNat_one, Int.toNat_natCast, am_cats, am_cat, am_st1, am_st2, am_clr, up2_na, up2_nj, up2_same, List.getElem?_cons_zero, List.getElem?_cons_succ, List.set_cons_zero, List.set_cons_succ, ne_eq, ansV]
  exact hz
theorem lc_22 {L s d i : Nat} {X : Nat → Int} {P : AH → Prop} {g : AH} {Q : Option AV → AH → Prop} (hX : ∀ j, rg32 (X j)) (hi : i + 6 ≤ L) (hL : L ≤ 3072) (H : pr L X s P d 114 201 3 false false) (hI : Inv L X s P g) (hQ : ∀ g2, Inv L X s P g2 → wp codeT mX (d + 1) 0 855 [some (.inr (.inr (some 1000000))), some (.inr (.inr (some 0))), some (.inr (.inr (some 152))), some (.inl (i : Int))] [] g2 Q) : wp codeT mX (d + 1) 0 696 [some (.inr (.inr (some 1000000))), some (.inr (.inr (some 0))), some (.inr (.inr (some 152))), some (.inl (i : Int))] [] g Q := by
  have w := H [X (i + 1), X (i + 2), X (i + 3)] g rfl (by
    intro z hz
    simp only [List.mem_cons, List.not_mem_nil, or_false] at hz
    rcases hz with rfl | rfl | rfl <;> exact hX _) hI
  obtain ⟨c, s', T, I, J, R⟩ := g
  obtain ⟨hH, z1, z2, z3, -⟩ := hI
  have hc : c = 185 := hH.1
  have h1 : s' = s := z1
  have h2 : T 1000000 = (100, L) := z2
  have h3 : I 1000000 = X := z3
  subst hc h1
  have hh := hp_of (eH5_of hH)
  have v1 : w32 ((i : Int) + 1) = ((i + 1 : Nat) : Int) := (w32_eq (by omega) (by omega)).trans (by omega)
  have u1 : 0 ≤ ((i + 1 : Nat) : Int) ∧ ((i + 1 : Nat) : Int) < (L : Int) := by omega
  have v2 : w32 ((i : Int) + 2) = ((i + 2 : Nat) : Int) := (w32_eq (by omega) (by omega)).trans (by omega)
  have u2 : 0 ≤ ((i + 2 : Nat) : Int) ∧ ((i + 2 : Nat) : Int) < (L : Int) := by omega
  have v3 : w32 ((i : Int) + 3) = ((i + 3 : Nat) : Int) := (w32_eq (by omega) (by omega)).trans (by omega)
  have u3 : 0 ≤ ((i + 3 : Nat) : Int) ∧ ((i + 3 : Nat) : Int) < (L : Int) := by omega
  refine s0_696.mpr ?_
  simp only [s0_697, s0_698, s0_699, s0_700, s0_701, s0_702, s0_703, s0_704, s0_705, s0_706, s0_707, s0_708, s0_709, s0_710, s0_711, s0_712, Option.toList_some, Option.toList_none, List.cons_append, List.nil_append, Nat.le_refl, true_and, and_true, true_or, or_true, false_or, or_false, true_implies, false_implies, implies_true, not_true_eq_false, not_false_eq_true, eq_self, Nat.reduceLT, Nat.reduceLeDiff, Nat.reduceEqDiff, Nat.reduceAdd, Nat.reduceSub, Int.reduceLT, Int.reduceLE, Int.reduceEq, Int.reduceNeg, Int.reduceNe, Int.reduceAdd, Int.reduceSub, Int.reduceMul, Int.reduceToNat, Int.toNat_zero, Int.toNat_one, Int.toNat_natCast, am_cats, am_cat, am_st1, am_st2, am_clr, up2_na, up2_nj, up2_same, List.getElem?_cons_zero, List.getElem?_cons_succ, List.set_cons_zero, List.set_cons_succ, ne_eq, tk_0 hh, h2, h3, v1, u1, v2, u2, v3, u3]
  refine wpc_mono w (fun v g1 hq => ?_)
  obtain ⟨a, rfl, hI1, w2⟩ := hq
  obtain ⟨c1, s1, T1, I1, J1, R1⟩ := g1
  obtain ⟨hH1, z4, z5, z6, -⟩ := hI1
  have hc1 : c1 = 185 := hH1.1
  have k1 : s1 = s' := z4
  have k2 : T1 1000000 = (100, L) := z5
  have k3 : I1 1000000 = X := z6
  subst hc1 k1
  have hh1 := hp_of (eH5_of hH1)
  refine ⟨⟨Nat.le_refl _, Nat.le_refl _⟩, ?_⟩
  simp only [s0_713, s0_714, s0_715, s0_716, s0_717, s0_718, s0_719, s0_720, s0_721, s0_722, s0_723, s0_724, s0_725, s0_726, s0_727, s0_728, s0_729, s0_730, Option.toList_some, Option.toList_none, List.cons_append, List.nil_append, Nat.le_refl, true_and, and_true, true_or, or_true, false_or, or_false, true_implies, false_implies, implies_true, not_true_eq_false, not_false_eq_true, eq_self, Nat.reduceLT, Nat.reduceLeDiff, Nat.reduceEqDiff, Nat.reduceAdd, Nat.reduceSub, Int.reduceLT, Int.reduceLE, Int.reduceEq, Int.reduceNeg, Int.reduceNe, Int.reduceAdd, Int.reduceSub, Int.reduceMul, Int.reduceToNat, Int.toNat_zero, Int.toNat_one, Int.toNat_natCast, am_cats, am_cat, am_st1, am_st2, am_clr, up2_na, up2_nj, up2_same, List.getElem?_cons_zero, List.getElem?_cons_succ, List.set_cons_zero, List.set_cons_succ, ne_eq, ansV, tk_152 hh1, k2, k3, v1, u1, v2, u2, v3, u3]
  refine wpc_mono w2 (fun v2 g2 hq => ?_)
  obtain ⟨b, rfl, hc2, hI2⟩ := hq
  have hz := hQ g2 hI2
  refine ⟨⟨Nat.le_of_eq hI2.1.1.symm, Nat.le_of_eq hI2.2.1.symm⟩, ?_⟩
  simp only [s0_731, s0_732, Option.toList_some, Option.toList_none, List.cons_append, List.nil_append, Nat.le_refl, true_and, and_true, true_or, or_true, false_or, or_false, true_implies, false_implies, implies_true, not_true_eq_false, not_false_eq_true, eq_self, Nat.reduceLT, Nat.reduceLeDiff, Nat.reduceEqDiff, Nat.reduceAdd, Nat.reduceSub, Int.reduceLT, Int.reduceLE, Int.reduceEq, Int.reduceNeg, Int.reduceNe, Int.reduceAdd, Int.reduceSub, Int.reduceMul, Int.reduceToNat, Int.toNat_zero, Int.toNat_one, Int.toNat_natCast, am_cats, am_cat, am_st1, am_st2, am_clr, up2_na, up2_nj, up2_same, List.getElem?_cons_zero, List.getElem?_cons_succ, List.set_cons_zero, List.set_cons_succ, ne_eq, ansV]
  exact hz
theorem lc_23 {L s d i : Nat} {X : Nat → Int} {P : AH → Prop} {g : AH} {Q : Option AV → AH → Prop} (hX : ∀ j, rg32 (X j)) (hi : i + 6 ≤ L) (hL : L ≤ 3072) (H : pr L X s P d 117 202 3 false false) (hI : Inv L X s P g) (hQ : ∀ g2, Inv L X s P g2 → wp codeT mX (d + 1) 0 855 [some (.inr (.inr (some 1000000))), some (.inr (.inr (some 0))), some (.inr (.inr (some 152))), some (.inl (i : Int))] [] g2 Q) : wp codeT mX (d + 1) 0 733 [some (.inr (.inr (some 1000000))), some (.inr (.inr (some 0))), some (.inr (.inr (some 152))), some (.inl (i : Int))] [] g Q := by
  have w := H [X (i + 1), X (i + 2), X (i + 3)] g rfl (by
    intro z hz
    simp only [List.mem_cons, List.not_mem_nil, or_false] at hz
    rcases hz with rfl | rfl | rfl <;> exact hX _) hI
  obtain ⟨c, s', T, I, J, R⟩ := g
  obtain ⟨hH, z1, z2, z3, -⟩ := hI
  have hc : c = 185 := hH.1
  have h1 : s' = s := z1
  have h2 : T 1000000 = (100, L) := z2
  have h3 : I 1000000 = X := z3
  subst hc h1
  have hh := hp_of (eH5_of hH)
  have v1 : w32 ((i : Int) + 1) = ((i + 1 : Nat) : Int) := (w32_eq (by omega) (by omega)).trans (by omega)
  have u1 : 0 ≤ ((i + 1 : Nat) : Int) ∧ ((i + 1 : Nat) : Int) < (L : Int) := by omega
  have v2 : w32 ((i : Int) + 2) = ((i + 2 : Nat) : Int) := (w32_eq (by omega) (by omega)).trans (by omega)
  have u2 : 0 ≤ ((i + 2 : Nat) : Int) ∧ ((i + 2 : Nat) : Int) < (L : Int) := by omega
  have v3 : w32 ((i : Int) + 3) = ((i + 3 : Nat) : Int) := (w32_eq (by omega) (by omega)).trans (by omega)
  have u3 : 0 ≤ ((i + 3 : Nat) : Int) ∧ ((i + 3 : Nat) : Int) < (L : Int) := by omega
  refine s0_733.mpr ?_
  simp only [s0_734, s0_735, s0_736, s0_737, s0_738, s0_739, s0_740, s0_741, s0_742, s0_743, s0_744, s0_745, s0_746, s0_747, s0_748, s0_749, Option.toList_some, Option.toList_none, List.cons_append, List.nil_append, Nat.le_refl, true_and, and_true, true_or, or_true, false_or, or_false, true_implies, false_implies, implies_true, not_true_eq_false, not_false_eq_true, eq_self, Nat.reduceLT, Nat.reduceLeDiff, Nat.reduceEqDiff, Nat.reduceAdd, Nat.reduceSub, Int.reduceLT, Int.reduceLE, Int.reduceEq, Int.reduceNeg, Int.reduceNe, Int.reduceAdd, Int.reduceSub, Int.reduceMul, Int.reduceToNat, Int.toNat_zero, Int.toNat_one, Int.toNat_natCast, am_cats, am_cat, am_st1, am_st2, am_clr, up2_na, up2_nj, up2_same, List.getElem?_cons_zero, List.getElem?_cons_succ, List.set_cons_zero, List.set_cons_succ, ne_eq, tk_0 hh, h2, h3, v1, u1, v2, u2, v3, u3]
  refine wpc_mono w (fun v g1 hq => ?_)
  obtain ⟨a, rfl, hI1, w2⟩ := hq
  obtain ⟨c1, s1, T1, I1, J1, R1⟩ := g1
  obtain ⟨hH1, z4, z5, z6, -⟩ := hI1
  have hc1 : c1 = 185 := hH1.1
  have k1 : s1 = s' := z4
  have k2 : T1 1000000 = (100, L) := z5
  have k3 : I1 1000000 = X := z6
  subst hc1 k1
  have hh1 := hp_of (eH5_of hH1)
  refine ⟨⟨Nat.le_refl _, Nat.le_refl _⟩, ?_⟩
  simp only [s0_750, s0_751, s0_752, s0_753, s0_754, s0_755, s0_756, s0_757, s0_758, s0_759, s0_760, s0_761, s0_762, s0_763, s0_764, s0_765, s0_766, s0_767, Option.toList_some, Option.toList_none, List.cons_append, List.nil_append, Nat.le_refl, true_and, and_true, true_or, or_true, false_or, or_false, true_implies, false_implies, implies_true, not_true_eq_false, not_false_eq_true, eq_self, Nat.reduceLT, Nat.reduceLeDiff, Nat.reduceEqDiff, Nat.reduceAdd, Nat.reduceSub, Int.reduceLT, Int.reduceLE, Int.reduceEq, Int.reduceNeg, Int.reduceNe, Int.reduceAdd, Int.reduceSub, Int.reduceMul, Int.reduceToNat, Int.toNat_zero, Int.toNat_one, Int.toNat_natCast, am_cats, am_cat, am_st1, am_st2, am_clr, up2_na, up2_nj, up2_same, List.getElem?_cons_zero, List.getElem?_cons_succ, List.set_cons_zero, List.set_cons_succ, ne_eq, ansV, tk_152 hh1, k2, k3, v1, u1, v2, u2, v3, u3]
  refine wpc_mono w2 (fun v2 g2 hq => ?_)
  obtain ⟨b, rfl, hc2, hI2⟩ := hq
  have hz := hQ g2 hI2
  refine ⟨⟨Nat.le_of_eq hI2.1.1.symm, Nat.le_of_eq hI2.2.1.symm⟩, ?_⟩
  simp only [s0_768, s0_769, Option.toList_some, Option.toList_none, List.cons_append, List.nil_append, Nat.le_refl, true_and, and_true, true_or, or_true, false_or, or_false, true_implies, false_implies, implies_true, not_true_eq_false, not_false_eq_true, eq_self, Nat.reduceLT, Nat.reduceLeDiff, Nat.reduceEqDiff, Nat.reduceAdd, Nat.reduceSub, Int.reduceLT, Int.reduceLE, Int.reduceEq, Int.reduceNeg, Int.reduceNe, Int.reduceAdd, Int.reduceSub, Int.reduceMul, Int.reduceToNat, Int.toNat_zero, Int.toNat_one, Int.toNat_natCast, am_cats, am_cat, am_st1, am_st2, am_clr, up2_na, up2_nj, up2_same, List.getElem?_cons_zero, List.getElem?_cons_succ, List.set_cons_zero, List.set_cons_succ, ne_eq, ansV]
  exact hz
theorem lc_24 {L s d i : Nat} {X : Nat → Int} {P : AH → Prop} {g : AH} {Q : Option AV → AH → Prop} (hX : ∀ j, rg32 (X j)) (hi : i + 6 ≤ L) (hL : L ≤ 3072) (H : pr L X s P d 122 205 2 false false) (hI : Inv L X s P g) (hQ : ∀ g2, Inv L X s P g2 → wp codeT mX (d + 1) 0 855 [some (.inr (.inr (some 1000000))), some (.inr (.inr (some 0))), some (.inr (.inr (some 152))), some (.inl (i : Int))] [] g2 Q) : wp codeT mX (d + 1) 0 770 [some (.inr (.inr (some 1000000))), some (.inr (.inr (some 0))), some (.inr (.inr (some 152))), some (.inl (i : Int))] [] g Q := by
  have w := H [X (i + 1), X (i + 2)] g rfl (by
    intro z hz
    simp only [List.mem_cons, List.not_mem_nil, or_false] at hz
    rcases hz with rfl | rfl <;> exact hX _) hI
  obtain ⟨c, s', T, I, J, R⟩ := g
  obtain ⟨hH, z1, z2, z3, -⟩ := hI
  have hc : c = 185 := hH.1
  have h1 : s' = s := z1
  have h2 : T 1000000 = (100, L) := z2
  have h3 : I 1000000 = X := z3
  subst hc h1
  have hh := hp_of (eH5_of hH)
  have v1 : w32 ((i : Int) + 1) = ((i + 1 : Nat) : Int) := (w32_eq (by omega) (by omega)).trans (by omega)
  have u1 : 0 ≤ ((i + 1 : Nat) : Int) ∧ ((i + 1 : Nat) : Int) < (L : Int) := by omega
  have v2 : w32 ((i : Int) + 2) = ((i + 2 : Nat) : Int) := (w32_eq (by omega) (by omega)).trans (by omega)
  have u2 : 0 ≤ ((i + 2 : Nat) : Int) ∧ ((i + 2 : Nat) : Int) < (L : Int) := by omega
  refine s0_770.mpr ?_
  simp only [s0_771, s0_772, s0_773, s0_774, s0_775, s0_776, s0_777, s0_778, s0_779, s0_780, s0_781, Option.toList_some, Option.toList_none, List.cons_append, List.nil_append, Nat.le_refl, true_and, and_true, true_or, or_true, false_or, or_false, true_implies, false_implies, implies_true, not_true_eq_false, not_false_eq_true, eq_self, Nat.reduceLT, Nat.reduceLeDiff, Nat.reduceEqDiff, Nat.reduceAdd, Nat.reduceSub, Int.reduceLT, Int.reduceLE, Int.reduceEq, Int.reduceNeg, Int.reduceNe, Int.reduceAdd, Int.reduceSub, Int.reduceMul, Int.reduceToNat, Int.toNat_zero, Int.toNat_one, Int.toNat_natCast, am_cats, am_cat, am_st1, am_st2, am_clr, up2_na, up2_nj, up2_same, List.getElem?_cons_zero, List.getElem?_cons_succ, List.set_cons_zero, List.set_cons_succ, ne_eq, tk_0 hh, h2, h3, v1, u1, v2, u2]
  refine wpc_mono w (fun v g1 hq => ?_)
  obtain ⟨a, rfl, hI1, w2⟩ := hq
  obtain ⟨c1, s1, T1, I1, J1, R1⟩ := g1
  obtain ⟨hH1, z4, z5, z6, -⟩ := hI1
  have hc1 : c1 = 185 := hH1.1
  have k1 : s1 = s' := z4
  have k2 : T1 1000000 = (100, L) := z5
  have k3 : I1 1000000 = X := z6
  subst hc1 k1
  have hh1 := hp_of (eH5_of hH1)
  refine ⟨⟨Nat.le_refl _, Nat.le_refl _⟩, ?_⟩
  simp only [s0_782, s0_783, s0_784, s0_785, s0_786, s0_787, s0_788, s0_789, s0_790, s0_791, s0_792, s0_793, s0_794, Option.toList_some, Option.toList_none, List.cons_append, List.nil_append, Nat.le_refl, true_and, and_true, true_or, or_true, false_or, or_false, true_implies, false_implies, implies_true, not_true_eq_false, not_false_eq_true, eq_self, Nat.reduceLT, Nat.reduceLeDiff, Nat.reduceEqDiff, Nat.reduceAdd, Nat.reduceSub, Int.reduceLT, Int.reduceLE, Int.reduceEq, Int.reduceNeg, Int.reduceNe, Int.reduceAdd, Int.reduceSub, Int.reduceMul, Int.reduceToNat, Int.toNat_zero, Int.toNat_one, Int.toNat_natCast, am_cats, am_cat, am_st1, am_st2, am_clr, up2_na, up2_nj, up2_same, List.getElem?_cons_zero, List.getElem?_cons_succ, List.set_cons_zero, List.set_cons_succ, ne_eq, ansV, tk_152 hh1, k2, k3, v1, u1, v2, u2]
  refine wpc_mono w2 (fun v2 g2 hq => ?_)
  obtain ⟨b, rfl, hc2, hI2⟩ := hq
  have hz := hQ g2 hI2
  refine ⟨⟨Nat.le_of_eq hI2.1.1.symm, Nat.le_of_eq hI2.2.1.symm⟩, ?_⟩
  simp only [s0_795, s0_796, Option.toList_some, Option.toList_none, List.cons_append, List.nil_append, Nat.le_refl, true_and, and_true, true_or, or_true, false_or, or_false, true_implies, false_implies, implies_true, not_true_eq_false, not_false_eq_true, eq_self, Nat.reduceLT, Nat.reduceLeDiff, Nat.reduceEqDiff, Nat.reduceAdd, Nat.reduceSub, Int.reduceLT, Int.reduceLE, Int.reduceEq, Int.reduceNeg, Int.reduceNe, Int.reduceAdd, Int.reduceSub, Int.reduceMul, Int.reduceToNat, Int.toNat_zero, Int.toNat_one, Int.toNat_natCast, am_cats, am_cat, am_st1, am_st2, am_clr, up2_na, up2_nj, up2_same, List.getElem?_cons_zero, List.getElem?_cons_succ, List.set_cons_zero, List.set_cons_succ, ne_eq, ansV]
  exact hz
theorem lc_25 {L s d i : Nat} {X : Nat → Int} {P : AH → Prop} {g : AH} {Q : Option AV → AH → Prop} (hX : ∀ j, rg32 (X j)) (hi : i + 6 ≤ L) (hL : L ≤ 3072) (H : pr L X s P d 124 206 1 false false) (hI : Inv L X s P g) (hQ : ∀ g2, Inv L X s P g2 → wp codeT mX (d + 1) 0 855 [some (.inr (.inr (some 1000000))), some (.inr (.inr (some 0))), some (.inr (.inr (some 152))), some (.inl (i : Int))] [] g2 Q) : wp codeT mX (d + 1) 0 797 [some (.inr (.inr (some 1000000))), some (.inr (.inr (some 0))), some (.inr (.inr (some 152))), some (.inl (i : Int))] [] g Q := by
  have w := H [X (i + 1)] g rfl (by
    intro z hz
    simp only [List.mem_cons, List.not_mem_nil, or_false] at hz
    rcases hz with rfl <;> exact hX _) hI
  obtain ⟨c, s', T, I, J, R⟩ := g
  obtain ⟨hH, z1, z2, z3, -⟩ := hI
  have hc : c = 185 := hH.1
  have h1 : s' = s := z1
  have h2 : T 1000000 = (100, L) := z2
  have h3 : I 1000000 = X := z3
  subst hc h1
  have hh := hp_of (eH5_of hH)
  have v1 : w32 ((i : Int) + 1) = ((i + 1 : Nat) : Int) := (w32_eq (by omega) (by omega)).trans (by omega)
  have u1 : 0 ≤ ((i + 1 : Nat) : Int) ∧ ((i + 1 : Nat) : Int) < (L : Int) := by omega
  refine s0_797.mpr ?_
  simp only [s0_798, s0_799, s0_800, s0_801, s0_802, s0_803, Option.toList_some, Option.toList_none, List.cons_append, List.nil_append, Nat.le_refl, true_and, and_true, true_or, or_true, false_or, or_false, true_implies, false_implies, implies_true, not_true_eq_false, not_false_eq_true, eq_self, Nat.reduceLT, Nat.reduceLeDiff, Nat.reduceEqDiff, Nat.reduceAdd, Nat.reduceSub, Int.reduceLT, Int.reduceLE, Int.reduceEq, Int.reduceNeg, Int.reduceNe, Int.reduceAdd, Int.reduceSub, Int.reduceMul, Int.reduceToNat, Int.toNat_zero, Int.toNat_one, Int.toNat_natCast, am_cats, am_cat, am_st1, am_st2, am_clr, up2_na, up2_nj, up2_same, List.getElem?_cons_zero, List.getElem?_cons_succ, List.set_cons_zero, List.set_cons_succ, ne_eq, tk_0 hh, h2, h3, v1, u1]
  refine wpc_mono w (fun v g1 hq => ?_)
  obtain ⟨a, rfl, hI1, w2⟩ := hq
  obtain ⟨c1, s1, T1, I1, J1, R1⟩ := g1
  obtain ⟨hH1, z4, z5, z6, -⟩ := hI1
  have hc1 : c1 = 185 := hH1.1
  have k1 : s1 = s' := z4
  have k2 : T1 1000000 = (100, L) := z5
  have k3 : I1 1000000 = X := z6
  subst hc1 k1
  have hh1 := hp_of (eH5_of hH1)
  refine ⟨⟨Nat.le_refl _, Nat.le_refl _⟩, ?_⟩
  simp only [s0_804, s0_805, s0_806, s0_807, s0_808, s0_809, s0_810, s0_811, Option.toList_some, Option.toList_none, List.cons_append, List.nil_append, Nat.le_refl, true_and, and_true, true_or, or_true, false_or, or_false, true_implies, false_implies, implies_true, not_true_eq_false, not_false_eq_true, eq_self, Nat.reduceLT, Nat.reduceLeDiff, Nat.reduceEqDiff, Nat.reduceAdd, Nat.reduceSub, Int.reduceLT, Int.reduceLE, Int.reduceEq, Int.reduceNeg, Int.reduceNe, Int.reduceAdd, Int.reduceSub, Int.reduceMul, Int.reduceToNat, Int.toNat_zero, Int.toNat_one, Int.toNat_natCast, am_cats, am_cat, am_st1, am_st2, am_clr, up2_na, up2_nj, up2_same, List.getElem?_cons_zero, List.getElem?_cons_succ, List.set_cons_zero, List.set_cons_succ, ne_eq, ansV, tk_152 hh1, k2, k3, v1, u1]
  refine wpc_mono w2 (fun v2 g2 hq => ?_)
  obtain ⟨b, rfl, hc2, hI2⟩ := hq
  have hz := hQ g2 hI2
  refine ⟨⟨Nat.le_of_eq hI2.1.1.symm, Nat.le_of_eq hI2.2.1.symm⟩, ?_⟩
  simp only [s0_812, s0_813, Option.toList_some, Option.toList_none, List.cons_append, List.nil_append, Nat.le_refl, true_and, and_true, true_or, or_true, false_or, or_false, true_implies, false_implies, implies_true, not_true_eq_false, not_false_eq_true, eq_self, Nat.reduceLT, Nat.reduceLeDiff, Nat.reduceEqDiff, Nat.reduceAdd, Nat.reduceSub, Int.reduceLT, Int.reduceLE, Int.reduceEq, Int.reduceNeg, Int.reduceNe, Int.reduceAdd, Int.reduceSub, Int.reduceMul, Int.reduceToNat, Int.toNat_zero, Int.toNat_one, Int.toNat_natCast, am_cats, am_cat, am_st1, am_st2, am_clr, up2_na, up2_nj, up2_same, List.getElem?_cons_zero, List.getElem?_cons_succ, List.set_cons_zero, List.set_cons_succ, ne_eq, ansV]
  exact hz
theorem lc_26 {L s d i : Nat} {X : Nat → Int} {P : AH → Prop} {g : AH} {Q : Option AV → AH → Prop} (hX : ∀ j, rg32 (X j)) (hi : i + 6 ≤ L) (hL : L ≤ 3072) (H : pr L X s P d 125 207 0 false false) (hI : Inv L X s P g) (hQ : ∀ g2, Inv L X s P g2 → wp codeT mX (d + 1) 0 855 [some (.inr (.inr (some 1000000))), some (.inr (.inr (some 0))), some (.inr (.inr (some 152))), some (.inl (i : Int))] [] g2 Q) : wp codeT mX (d + 1) 0 814 [some (.inr (.inr (some 1000000))), some (.inr (.inr (some 0))), some (.inr (.inr (some 152))), some (.inl (i : Int))] [] g Q := by
  have w := H [] g rfl (by
    intro z hz
    cases hz) hI
  obtain ⟨c, s', T, I, J, R⟩ := g
  obtain ⟨hH, z1, z2, z3, -⟩ := hI
  have hc : c = 185 := hH.1
  have h1 : s' = s := z1
  have h2 : T 1000000 = (100, L) := z2
  have h3 : I 1000000 = X := z3
  subst hc h1
  have hh := hp_of (eH5_of hH)
  refine s0_814.mpr ?_
  simp only [s0_815, Option.toList_some, Option.toList_none, List.cons_append, List.nil_append, Nat.le_refl, true_and, and_true, true_or, or_true, false_or, or_false, true_implies, false_implies, implies_true, not_true_eq_false, not_false_eq_true, eq_self, Nat.reduceLT, Nat.reduceLeDiff, Nat.reduceEqDiff, Nat.reduceAdd, Nat.reduceSub, Int.reduceLT, Int.reduceLE, Int.reduceEq, Int.reduceNeg, Int.reduceNe, Int.reduceAdd, Int.reduceSub, Int.reduceMul, Int.reduceToNat, Int.toNat_zero, Int.toNat_one, Int.toNat_natCast, am_cats, am_cat, am_st1, am_st2, am_clr, up2_na, up2_nj, up2_same, List.getElem?_cons_zero, List.getElem?_cons_succ, List.set_cons_zero, List.set_cons_succ, ne_eq, tk_0 hh, h2, h3]
  refine wpc_mono w (fun v g1 hq => ?_)
  obtain ⟨a, rfl, hI1, w2⟩ := hq
  obtain ⟨c1, s1, T1, I1, J1, R1⟩ := g1
  obtain ⟨hH1, z4, z5, z6, -⟩ := hI1
  have hc1 : c1 = 185 := hH1.1
  have k1 : s1 = s' := z4
  have k2 : T1 1000000 = (100, L) := z5
  have k3 : I1 1000000 = X := z6
  subst hc1 k1
  have hh1 := hp_of (eH5_of hH1)
  refine ⟨⟨Nat.le_refl _, Nat.le_refl _⟩, ?_⟩
  simp only [s0_816, s0_817, s0_818, Option.toList_some, Option.toList_none, List.cons_append, List.nil_append, Nat.le_refl, true_and, and_true, true_or, or_true, false_or, or_false, true_implies, false_implies, implies_true, not_true_eq_false, not_false_eq_true, eq_self, Nat.reduceLT, Nat.reduceLeDiff, Nat.reduceEqDiff, Nat.reduceAdd, Nat.reduceSub, Int.reduceLT, Int.reduceLE, Int.reduceEq, Int.reduceNeg, Int.reduceNe, Int.reduceAdd, Int.reduceSub, Int.reduceMul, Int.reduceToNat, Int.toNat_zero, Int.toNat_one, Int.toNat_natCast, am_cats, am_cat, am_st1, am_st2, am_clr, up2_na, up2_nj, up2_same, List.getElem?_cons_zero, List.getElem?_cons_succ, List.set_cons_zero, List.set_cons_succ, ne_eq, ansV, tk_152 hh1, k2, k3]
  refine wpc_mono w2 (fun v2 g2 hq => ?_)
  obtain ⟨b, rfl, hc2, hI2⟩ := hq
  have hz := hQ g2 hI2
  refine ⟨⟨Nat.le_of_eq hI2.1.1.symm, Nat.le_of_eq hI2.2.1.symm⟩, ?_⟩
  simp only [s0_819, s0_820, Option.toList_some, Option.toList_none, List.cons_append, List.nil_append, Nat.le_refl, true_and, and_true, true_or, or_true, false_or, or_false, true_implies, false_implies, implies_true, not_true_eq_false, not_false_eq_true, eq_self, Nat.reduceLT, Nat.reduceLeDiff, Nat.reduceEqDiff, Nat.reduceAdd, Nat.reduceSub, Int.reduceLT, Int.reduceLE, Int.reduceEq, Int.reduceNeg, Int.reduceNe, Int.reduceAdd, Int.reduceSub, Int.reduceMul, Int.reduceToNat, Int.toNat_zero, Int.toNat_one, Int.toNat_natCast, am_cats, am_cat, am_st1, am_st2, am_clr, up2_na, up2_nj, up2_same, List.getElem?_cons_zero, List.getElem?_cons_succ, List.set_cons_zero, List.set_cons_succ, ne_eq, ansV]
  exact hz
theorem lc_27 {L s d i : Nat} {X : Nat → Int} {P : AH → Prop} {g : AH} {Q : Option AV → AH → Prop} (hX : ∀ j, rg32 (X j)) (hi : i + 6 ≤ L) (hL : L ≤ 3072) (H : pr L X s P d 127 208 1 false false) (hI : Inv L X s P g) (hQ : ∀ g2, Inv L X s P g2 → wp codeT mX (d + 1) 0 855 [some (.inr (.inr (some 1000000))), some (.inr (.inr (some 0))), some (.inr (.inr (some 152))), some (.inl (i : Int))] [] g2 Q) : wp codeT mX (d + 1) 0 821 [some (.inr (.inr (some 1000000))), some (.inr (.inr (some 0))), some (.inr (.inr (some 152))), some (.inl (i : Int))] [] g Q := by
  have w := H [X (i + 1)] g rfl (by
    intro z hz
    simp only [List.mem_cons, List.not_mem_nil, or_false] at hz
    rcases hz with rfl <;> exact hX _) hI
  obtain ⟨c, s', T, I, J, R⟩ := g
  obtain ⟨hH, z1, z2, z3, -⟩ := hI
  have hc : c = 185 := hH.1
  have h1 : s' = s := z1
  have h2 : T 1000000 = (100, L) := z2
  have h3 : I 1000000 = X := z3
  subst hc h1
  have hh := hp_of (eH5_of hH)
  have v1 : w32 ((i : Int) + 1) = ((i + 1 : Nat) : Int) := (w32_eq (by omega) (by omega)).trans (by omega)
  have u1 : 0 ≤ ((i + 1 : Nat) : Int) ∧ ((i + 1 : Nat) : Int) < (L : Int) := by omega
  refine s0_821.mpr ?_
  simp only [s0_822, s0_823, s0_824, s0_825, s0_826, s0_827, Option.toList_some, Option.toList_none, List.cons_append, List.nil_append, Nat.le_refl, true_and, and_true, true_or, or_true, false_or, or_false, true_implies, false_implies, implies_true, not_true_eq_false, not_false_eq_true, eq_self, Nat.reduceLT, Nat.reduceLeDiff, Nat.reduceEqDiff, Nat.reduceAdd, Nat.reduceSub, Int.reduceLT, Int.reduceLE, Int.reduceEq, Int.reduceNeg, Int.reduceNe, Int.reduceAdd, Int.reduceSub, Int.reduceMul, Int.reduceToNat, Int.toNat_zero, Int.toNat_one, Int.toNat_natCast, am_cats, am_cat, am_st1, am_st2, am_clr, up2_na, up2_nj, up2_same, List.getElem?_cons_zero, List.getElem?_cons_succ, List.set_cons_zero, List.set_cons_succ, ne_eq, tk_0 hh, h2, h3, v1, u1]
  refine wpc_mono w (fun v g1 hq => ?_)
  obtain ⟨a, rfl, hI1, w2⟩ := hq
  obtain ⟨c1, s1, T1, I1, J1, R1⟩ := g1
  obtain ⟨hH1, z4, z5, z6, -⟩ := hI1
  have hc1 : c1 = 185 := hH1.1
  have k1 : s1 = s' := z4
  have k2 : T1 1000000 = (100, L) := z5
  have k3 : I1 1000000 = X := z6
  subst hc1 k1
  have hh1 := hp_of (eH5_of hH1)
  refine ⟨⟨Nat.le_refl _, Nat.le_refl _⟩, ?_⟩
  simp only [s0_828, s0_829, s0_830, s0_831, s0_832, s0_833, s0_834, s0_835, Option.toList_some, Option.toList_none, List.cons_append, List.nil_append, Nat.le_refl, true_and, and_true, true_or, or_true, false_or, or_false, true_implies, false_implies, implies_true, not_true_eq_false, not_false_eq_true, eq_self, Nat.reduceLT, Nat.reduceLeDiff, Nat.reduceEqDiff, Nat.reduceAdd, Nat.reduceSub, Int.reduceLT, Int.reduceLE, Int.reduceEq, Int.reduceNeg, Int.reduceNe, Int.reduceAdd, Int.reduceSub, Int.reduceMul, Int.reduceToNat, Int.toNat_zero, Int.toNat_one, Int.toNat_natCast, am_cats, am_cat, am_st1, am_st2, am_clr, up2_na, up2_nj, up2_same, List.getElem?_cons_zero, List.getElem?_cons_succ, List.set_cons_zero, List.set_cons_succ, ne_eq, ansV, tk_152 hh1, k2, k3, v1, u1]
  refine wpc_mono w2 (fun v2 g2 hq => ?_)
  obtain ⟨b, rfl, hc2, hI2⟩ := hq
  have hz := hQ g2 hI2
  refine ⟨⟨Nat.le_of_eq hI2.1.1.symm, Nat.le_of_eq hI2.2.1.symm⟩, ?_⟩
  simp only [s0_836, s0_837, Option.toList_some, Option.toList_none, List.cons_append, List.nil_append, Nat.le_refl, true_and, and_true, true_or, or_true, false_or, or_false, true_implies, false_implies, implies_true, not_true_eq_false, not_false_eq_true, eq_self, Nat.reduceLT, Nat.reduceLeDiff, Nat.reduceEqDiff, Nat.reduceAdd, Nat.reduceSub, Int.reduceLT, Int.reduceLE, Int.reduceEq, Int.reduceNeg, Int.reduceNe, Int.reduceAdd, Int.reduceSub, Int.reduceMul, Int.reduceToNat, Int.toNat_zero, Int.toNat_one, Int.toNat_natCast, am_cats, am_cat, am_st1, am_st2, am_clr, up2_na, up2_nj, up2_same, List.getElem?_cons_zero, List.getElem?_cons_succ, List.set_cons_zero, List.set_cons_succ, ne_eq, ansV]
  exact hz
theorem lc_28 {L s d i : Nat} {X : Nat → Int} {P : AH → Prop} {g : AH} {Q : Option AV → AH → Prop} (hX : ∀ j, rg32 (X j)) (hi : i + 6 ≤ L) (hL : L ≤ 3072) (H : pr L X s P d 129 210 1 false false) (hI : Inv L X s P g) (hQ : ∀ g2, Inv L X s P g2 → wp codeT mX (d + 1) 0 855 [some (.inr (.inr (some 1000000))), some (.inr (.inr (some 0))), some (.inr (.inr (some 152))), some (.inl (i : Int))] [] g2 Q) : wp codeT mX (d + 1) 0 838 [some (.inr (.inr (some 1000000))), some (.inr (.inr (some 0))), some (.inr (.inr (some 152))), some (.inl (i : Int))] [] g Q := by
  have w := H [X (i + 1)] g rfl (by
    intro z hz
    simp only [List.mem_cons, List.not_mem_nil, or_false] at hz
    rcases hz with rfl <;> exact hX _) hI
  obtain ⟨c, s', T, I, J, R⟩ := g
  obtain ⟨hH, z1, z2, z3, -⟩ := hI
  have hc : c = 185 := hH.1
  have h1 : s' = s := z1
  have h2 : T 1000000 = (100, L) := z2
  have h3 : I 1000000 = X := z3
  subst hc h1
  have hh := hp_of (eH5_of hH)
  have v1 : w32 ((i : Int) + 1) = ((i + 1 : Nat) : Int) := (w32_eq (by omega) (by omega)).trans (by omega)
  have u1 : 0 ≤ ((i + 1 : Nat) : Int) ∧ ((i + 1 : Nat) : Int) < (L : Int) := by omega
  refine s0_838.mpr ?_
  simp only [s0_839, s0_840, s0_841, s0_842, s0_843, s0_844, Option.toList_some, Option.toList_none, List.cons_append, List.nil_append, Nat.le_refl, true_and, and_true, true_or, or_true, false_or, or_false, true_implies, false_implies, implies_true, not_true_eq_false, not_false_eq_true, eq_self, Nat.reduceLT, Nat.reduceLeDiff, Nat.reduceEqDiff, Nat.reduceAdd, Nat.reduceSub, Int.reduceLT, Int.reduceLE, Int.reduceEq, Int.reduceNeg, Int.reduceNe, Int.reduceAdd, Int.reduceSub, Int.reduceMul, Int.reduceToNat, Int.toNat_zero, Int.toNat_one, Int.toNat_natCast, am_cats, am_cat, am_st1, am_st2, am_clr, up2_na, up2_nj, up2_same, List.getElem?_cons_zero, List.getElem?_cons_succ, List.set_cons_zero, List.set_cons_succ, ne_eq, tk_0 hh, h2, h3, v1, u1]
  refine wpc_mono w (fun v g1 hq => ?_)
  obtain ⟨a, rfl, hI1, w2⟩ := hq
  obtain ⟨c1, s1, T1, I1, J1, R1⟩ := g1
  obtain ⟨hH1, z4, z5, z6, -⟩ := hI1
  have hc1 : c1 = 185 := hH1.1
  have k1 : s1 = s' := z4
  have k2 : T1 1000000 = (100, L) := z5
  have k3 : I1 1000000 = X := z6
  subst hc1 k1
  have hh1 := hp_of (eH5_of hH1)
  refine ⟨⟨Nat.le_refl _, Nat.le_refl _⟩, ?_⟩
  simp only [s0_845, s0_846, s0_847, s0_848, s0_849, s0_850, s0_851, s0_852, Option.toList_some, Option.toList_none, List.cons_append, List.nil_append, Nat.le_refl, true_and, and_true, true_or, or_true, false_or, or_false, true_implies, false_implies, implies_true, not_true_eq_false, not_false_eq_true, eq_self, Nat.reduceLT, Nat.reduceLeDiff, Nat.reduceEqDiff, Nat.reduceAdd, Nat.reduceSub, Int.reduceLT, Int.reduceLE, Int.reduceEq, Int.reduceNeg, Int.reduceNe, Int.reduceAdd, Int.reduceSub, Int.reduceMul, Int.reduceToNat, Int.toNat_zero, Int.toNat_one, Int.toNat_natCast, am_cats, am_cat, am_st1, am_st2, am_clr, up2_na, up2_nj, up2_same, List.getElem?_cons_zero, List.getElem?_cons_succ, List.set_cons_zero, List.set_cons_succ, ne_eq, ansV, tk_152 hh1, k2, k3, v1, u1]
  refine wpc_mono w2 (fun v2 g2 hq => ?_)
  obtain ⟨b, rfl, hc2, hI2⟩ := hq
  have hz := hQ g2 hI2
  refine ⟨⟨Nat.le_of_eq hI2.1.1.symm, Nat.le_of_eq hI2.2.1.symm⟩, ?_⟩
  simp only [s0_853, s0_854, Option.toList_some, Option.toList_none, List.cons_append, List.nil_append, Nat.le_refl, true_and, and_true, true_or, or_true, false_or, or_false, true_implies, false_implies, implies_true, not_true_eq_false, not_false_eq_true, eq_self, Nat.reduceLT, Nat.reduceLeDiff, Nat.reduceEqDiff, Nat.reduceAdd, Nat.reduceSub, Int.reduceLT, Int.reduceLE, Int.reduceEq, Int.reduceNeg, Int.reduceNe, Int.reduceAdd, Int.reduceSub, Int.reduceMul, Int.reduceToNat, Int.toNat_zero, Int.toNat_one, Int.toNat_natCast, am_cats, am_cat, am_st1, am_st2, am_clr, up2_na, up2_nj, up2_same, List.getElem?_cons_zero, List.getElem?_cons_succ, List.set_cons_zero, List.set_cons_succ, ne_eq, ansV]
  exact hz
/-- what is asked of the 29 pairs of calls -/
def prAll (L : Nat) (X : Nat → Int) (s : Nat) (P : AH → Prop) (d : Nat) : Prop := pr L X s P d 13 131 0 false false ∧ pr L X s P d 14 132 0 false false ∧ pr L X s P d 15 133 3 false false ∧ pr L X s P d 19 137 3 false false ∧ pr L X s P d 21 138 1 false false ∧ pr L X s P d 22 139 1 false false ∧ pr L X s P d 23 140 5 false false ∧ pr L X s P d 26 142 2 false false ∧ pr L X s P d 50 163 3 false false ∧ pr L X s P d 66 170 2 false false ∧ pr L X s P d 73 174 4 false false ∧ pr L X s P d 75 175 2 false false ∧ pr L X s P d 76 176 3 false false ∧ pr L X s P d 79 180 4 true false ∧ pr L X s P d 85 184 5 false true ∧ pr L X s P d 88 187 1 false false ∧ pr L X s P d 100 190 2 false false ∧ pr L X s P d 103 194 2 false false ∧ pr L X s P d 106 195 1 false false ∧ pr L X s P d 108 197 3 false false ∧ pr L X s P d 110 198 1 false false ∧ pr L X s P d 113 200 4 false false ∧ pr L X s P d 114 201 3 false false ∧ pr L X s P d 117 202 3 false false ∧ pr L X s P d 122 205 2 false false ∧ pr L X s P d 124 206 1 false false ∧ pr L X s P d 125 207 0 false false ∧ pr L X s P d 127 208 1 false false ∧ pr L X s P d 129 210 1 false false
theorem lh_loop {L s d : Nat} {X : Nat → Int} {P : AH → Prop} (hX : ∀ j, rg32 (X j)) (hL : L ≤ 3072) (H : prAll L X s P d) : ∀ (r i : Nat), L - i < r → ∀ g : AH, Inv L X s P g → wp codeT mX (d + 1) 0 10 [some (.inr (.inr (some 1000000))), some (.inr (.inr (some 0))), some (.inr (.inr (some 152))), some (.inl (i : Int))] [] g (fun v g1 => v = some (.inl 1) ∧ g1.1 = 185 ∧ g1.2.1 = s) := by
  obtain ⟨p0, p1, p2, p3, p4, p5, p6, p7, p8, p9, p10, p11, p12, p13, p14, p15, p16, p17, p18, p19, p20, p21, p22, p23, p24, p25, p26, p27, p28⟩ := H
  intro r
  induction r with
  | zero =>
    intro i hi
    exact absurd hi (Nat.not_lt_zero _)
  | succ r ih =>
    intro i hi g hI
    have hI0 := hI
    obtain ⟨c, s', T, I, J, R⟩ := g
    obtain ⟨hH, z1, z2, z3, -⟩ := hI0
    have hc : c = 185 := hH.1
    have h1 : s' = s := z1
    have h2 : T 1000000 = (100, L) := z2
    have h3 : I 1000000 = X := z3
    subst hc h1
    by_cases hb : L < i + 6
    · have e6 : w32 ((L : Int) - 6) = (L : Int) - 6 := w32_eq (by omega) (by omega)
      have ia : i ≤ L ∨ L < i := by omega
      have e7 : (L : Int) - 6 < (i : Int) := by omega
      refine s0_10.mpr ?_
      have bL : (L : Int) < 2147483648 ∧ L < 2147483648 := by omega
      simp only [s0_11, s0_12, s0_13, s0_14, s0_15, s0_857, s0_858, Option.toList_some, Option.toList_none, List.cons_append, List.nil_append, Nat.le_refl, true_and, and_true, true_or, or_true, false_or, or_false, true_implies, false_implies, implies_true, not_true_eq_false, not_false_eq_true, eq_self, Nat.reduceLT, Nat.reduceLeDiff, Nat.reduceEqDiff, Nat.reduceAdd, Nat.reduceSub, Int.reduceLT, Int.reduceLE, Int.reduceEq, Int.reduceNeg, Int.reduceNe, Int.reduceAdd, Int.reduceSub, Int.reduceMul, Int.reduceToNat, Int.toNat_zero, Int.toNat_one, Int.toNat_natCast, am_cats, am_cat, am_st1, am_st2, am_clr, up2_na, up2_nj, up2_same, List.getElem?_cons_zero, List.getElem?_cons_succ, List.set_cons_zero, List.set_cons_succ, ne_eq, h2, e6, e7, bL]
    · have e6 : w32 ((L : Int) - 6) = (L : Int) - 6 := w32_eq (by omega) (by omega)
      have e7 : ¬ (L : Int) - 6 < (i : Int) := by omega
      have bL : (L : Int) < 2147483648 ∧ L < 2147483648 := by omega
      have u0 : 0 ≤ (i : Int) ∧ (i : Int) < (L : Int) := by omega
      have hinc : ∀ g2, Inv L X s' P g2 → wp codeT mX (d + 1) 0 855 [some (.inr (.inr (some 1000000))), some (.inr (.inr (some 0))), some (.inr (.inr (some 152))), some (.inl (i : Int))] [] g2 (fun v g1 => v = some (.inl 1) ∧ g1.1 = 185 ∧ g1.2.1 = s') := by
        intro g2 hI2
        have e8 : w32 ((i : Int) + 6) = ((i + 6 : Nat) : Int) := (w32_eq (by omega) (by omega)).trans (by omega)
        have := ih (i + 6) (by omega) g2 hI2
        refine s0_855.mpr ?_
        simp only [s0_856, Option.toList_some, Option.toList_none, List.cons_append, List.nil_append, Nat.le_refl, true_and, and_true, true_or, or_true, false_or, or_false, true_implies, false_implies, implies_true, not_true_eq_false, not_false_eq_true, eq_self, Nat.reduceLT, Nat.reduceLeDiff, Nat.reduceEqDiff, Nat.reduceAdd, Nat.reduceSub, Int.reduceLT, Int.reduceLE, Int.reduceEq, Int.reduceNeg, Int.reduceNe, Int.reduceAdd, Int.reduceSub, Int.reduceMul, Int.reduceToNat, Int.toNat_zero, Int.toNat_one, Int.toNat_natCast, am_cats, am_cat, am_st1, am_st2, am_clr, up2_na, up2_nj, up2_same, List.getElem?_cons_zero, List.getElem?_cons_succ, List.set_cons_zero, List.set_cons_succ, ne_eq, e8]
        exact this
      refine s0_10.mpr ?_
      simp only [s0_11, s0_12, s0_13, s0_14, s0_15, s0_16, s0_17, s0_18, s0_19, s0_20, s0_21, Option.toList_some, Option.toList_none, List.cons_append, List.nil_append, Nat.le_refl, true_and, and_true, true_or, or_true, false_or, or_false, true_implies, false_implies, implies_true, not_true_eq_false, not_false_eq_true, eq_self, Nat.reduceLT, Nat.reduceLeDiff, Nat.reduceEqDiff, Nat.reduceAdd, Nat.reduceSub, Int.reduceLT, Int.reduceLE, Int.reduceEq, Int.reduceNeg, Int.reduceNe, Int.reduceAdd, Int.reduceSub, Int.reduceMul, Int.reduceToNat, Int.toNat_zero, Int.toNat_one, Int.toNat_natCast, am_cats, am_cat, am_st1, am_st2, am_clr, up2_na, up2_nj, up2_same, List.getElem?_cons_zero, List.getElem?_cons_succ, List.set_cons_zero, List.set_cons_succ, ne_eq, h2, h3, e6, e7, bL, u0]
      exact ⟨fun _ => lc_0 hX (by omega) hL p0 hI hinc, fun _ => ⟨fun _ => lc_1 hX (by omega) hL p1 hI hinc, fun _ => ⟨fun _ => lc_2 hX (by omega) hL p2 hI hinc, fun _ => ⟨fun _ => lc_3 hX (by omega) hL p3 hI hinc, fun _ => ⟨fun _ => lc_4 hX (by omega) hL p4 hI hinc, fun _ => ⟨fun _ => lc_5 hX (by omega) hL p5 hI hinc, fun _ => ⟨fun _ => lc_6 hX (by omega) hL p6 hI hinc, fun _ => ⟨fun _ => lc_7 hX (by omega) hL p7 hI hinc, fun _ => ⟨fun _ => lc_8 hX (by omega) hL p8 hI hinc, fun _ => ⟨fun _ => lc_9 hX (by omega) hL p9 hI hinc, fun _ => ⟨fun _ => lc_10 hX (by omega) hL p10 hI hinc, fun _ => ⟨fun _ => lc_11 hX (by omega) hL p11 hI hinc, fun _ => ⟨fun _ => lc_12 hX (by omega) hL p12 hI hinc, fun _ => ⟨fun _ => lc_13 hX (by omega) hL p13 hI hinc, fun _ => ⟨fun _ => lc_14 hX (by omega) hL p14 hI hinc, fun _ => ⟨fun _ => lc_15 hX (by omega) hL p15 hI hinc, fun _ => ⟨fun _ => lc_16 hX (by omega) hL p16 hI hinc, fun _ => ⟨fun _ => lc_17 hX (by omega) hL p17 hI hinc, fun _ => ⟨fun _ => lc_18 hX (by omega) hL p18 hI hinc, fun _ => ⟨fun _ => lc_19 hX (by omega) hL p19 hI hinc, fun _ => ⟨fun _ => lc_20 hX (by omega) hL p20 hI hinc, fun _ => ⟨fun _ => lc_21 hX (by omega) hL p21 hI hinc, fun _ => ⟨fun _ => lc_22 hX (by omega) hL p22 hI hinc, fun _ => ⟨fun _ => lc_23 hX (by omega) hL p23 hI hinc, fun _ => ⟨fun _ => lc_24 hX (by omega) hL p24 hI hinc, fun _ => ⟨fun _ => lc_25 hX (by omega) hL p25 hI hinc, fun _ => ⟨fun _ => lc_26 hX (by omega) hL p26 hI hinc, fun _ => ⟨fun _ => lc_27 hX (by omega) hL p27 hI hinc, fun _ => ⟨fun _ => lc_28 hX (by omega) hL p28 hI hinc, fun _ => hinc _ hI⟩⟩⟩⟩⟩⟩⟩⟩⟩⟩⟩⟩⟩⟩⟩⟩⟩⟩⟩⟩⟩⟩⟩⟩⟩⟩⟩⟩⟩
