/-! the law by hand, 6: old, mistakes, asks -/
section
variable {L s d : Nat} {X : Nat → Int}
theorem pr_old (hL : L ≤ 3072) (hX : ∀ j, rg32 (X j)) (hd : 40 ≤ d) {cmp : Bool} : pr L X s LKP d 108 197 3 false cmp := by
  refine pr_mk (cx := cn116) (cm := cn164) (nx := 0) (nm := 0) hL hX (cn_all 116 (by decide) cn116 rfl) (cn_all 164 (by decide) cn164 rfl) rfl hd (fun as g hl hr hH hs hP => ?_)
  obtain ⟨a, b, z, rfl⟩ := len3 hl
  obtain ⟨c, s, T, I, J, R⟩ := g
  obtain ⟨d, rfl⟩ : ∃ e, d = e + 1 := ⟨d - 1, by omega⟩
  have hc : c = 185 := hH.1
  subst hc
  have hh := hp_of (eH5_of hH)
  have hP : LK I := hP
  obtain ⟨l0, l1, l2, l3, l4, l5, l6, l7, l8, l9, l10, l11, l12, l13, l14, l15⟩ := hP
  have e1 : I 102 3 = I 152 46 := l7
  have b1 : 0 ≤ I 102 3 ∧ I 102 3 ≤ 40 := ebd hH (by decide) (by decide) (by decide)
  obtain ⟨n, hn⟩ : ∃ n : Nat, I 102 3 = n := ⟨(I 102 3).toNat, by omega⟩
  have hm : I 152 46 = n := e1.symm.trans hn
  show wpc codeT mX (d + 1) 108 [.inr (.inr (some 0)), .inl a, .inl b, .inl z] _ _
  by_cases hg : (0 ≤ a ∧ a ≤ 99) ∧ (0 ≤ b ∧ b ≤ 10) ∧ 0 ≤ z ∧ z ≤ 1
  · obtain ⟨g1, g2, g3⟩ := hg
    by_cases h40 : n < 40
    · have u1 : 0 ≤ (n : Int) ∧ (n : Int) < ((40 : Nat) : Int) ∧ (n : Int) < 40 := by omega
      have u2 : ¬ (n : Int) = 40 := by omega
      have o1 : (n : Int) + 1 = ((n + 1 : Nat) : Int) := by omega
      have o2 : n + 1 ≤ 2000000000 := by omega
      have nw : lkO (up2 (up2 (up2 (up2 (up2 (up2 (up2 (up2 I 103 n a) 104 n b) 105 n z) 102 3 ((n + 1 : Nat) : Int)) 179 n a) 180 n b) 181 n z) 152 46 ((n + 1 : Nat) : Int)) := by
        intro i hi
        simp only [up2_same, up2_na, ne_eq, Nat.reduceEqDiff, not_false_eq_true] at hi
        by_cases hin : i = n
        · subst hin
          simp only [up2_same, up2_na, ne_eq, Nat.reduceEqDiff, not_false_eq_true, true_and]
          exact ⟨g1.1, g1.2, g3.1, g3.2⟩
        · have := l13 i (by rw [hn]; omega)
          simp only [up2_nj, hin, up2_na, ne_eq, Nat.reduceEqDiff, not_false_eq_true]
          exact this
      have v1 := w32_c o1 o2
      simp only [e108, s108_0, s108_1, s108_2, s108_3, s108_4, s108_5, s108_6, s108_7, s108_8, s108_9, s108_10, s108_11, s108_12, s108_13, s108_14, s108_15, s108_16, s108_17, s108_18, s108_19, s108_20, s108_21, s108_22, s108_23, e109, s109_0, s109_1, s109_2, s109_3, s109_4, s109_5, s109_6, s109_7, s109_8, s109_9, s109_10, s109_11, s109_12, s109_13, s109_14, s109_15, s109_16, s109_17, s109_18, s109_19, s109_20, s109_21, s109_22, s109_23, s109_24, s109_25, s109_26, s109_27, s109_28, s109_29, s109_30, s109_31, s109_32, Option.toList_some, Option.toList_none, List.cons_append, List.nil_append, Nat.le_refl, true_and, and_true, true_or, or_true, false_or, or_false, true_implies, false_implies, implies_true, not_true_eq_false, not_false_eq_true, eq_self, Nat.reduceLT, Nat.reduceLeDiff, Nat.reduceEqDiff, Nat.reduceAdd, Nat.reduceSub, Int.reduceLT, Int.reduceLE, Int.reduceEq, Int.reduceNeg, Int.reduceNe, Int.reduceAdd, Int.reduceSub, Int.reduceMul, Int.reduceToNat, Int.toNat_zero, Int.toNat_one, Int.toNat_natCast, am_cats, am_cat, am_st1, am_st2, am_clr, up2_na, up2_nj, up2_same, List.getElem?_cons_zero, List.getElem?_cons_succ, List.set_cons_zero, List.set_cons_succ, ne_eq, tk_0 hh, tk_102 hh, tk_103 hh, tk_104 hh, tk_105 hh, rk_0_16 hh, rk_102_0 hh, rk_102_1 hh, rk_102_2 hh, k18, i10, g1, g2, g3, u1, v1, hn]
      intro _ hH1 m1 s1
      refine ⟨_, rfl, ?_⟩
      show wpc codeT mX (d + 1) 197 [.inr (.inr (some 152)), .inl a, .inl b, .inl z] (185, s, T, up2 (up2 (up2 (up2 I 103 n a) 104 n b) 105 n z) 102 3 ((n + 1 : Nat) : Int), J, R) _
      simp only [e197, s197_0, s197_1, s197_2, s197_3, s197_4, s197_5, s197_6, s197_7, s197_8, s197_9, s197_10, s197_11, s197_12, s197_13, s197_14, s197_15, s197_16, s197_17, s197_18, s197_19, s197_20, s197_21, s197_22, s197_23, s197_24, s197_25, s197_26, s197_27, s197_28, s197_29, s197_30, s197_31, s197_32, s197_33, s197_34, s197_35, s197_36, s197_37, s197_38, s197_39, s197_40, s197_41, s197_42, s197_43, s197_44, s197_45, s197_46, s197_47, Option.toList_some, Option.toList_none, List.cons_append, List.nil_append, Nat.le_refl, true_and, and_true, true_or, or_true, false_or, or_false, true_implies, false_implies, implies_true, not_true_eq_false, not_false_eq_true, eq_self, Nat.reduceLT, Nat.reduceLeDiff, Nat.reduceEqDiff, Nat.reduceAdd, Nat.reduceSub, Int.reduceLT, Int.reduceLE, Int.reduceEq, Int.reduceNeg, Int.reduceNe, Int.reduceAdd, Int.reduceSub, Int.reduceMul, Int.reduceToNat, Int.toNat_zero, Int.toNat_one, Int.toNat_natCast, am_cats, am_cat, am_st1, am_st2, am_clr, up2_na, up2_nj, up2_same, List.getElem?_cons_zero, List.getElem?_cons_succ, List.set_cons_zero, List.set_cons_succ, ne_eq, tk_152 hh, tk_179 hh, tk_180 hh, tk_181 hh, rk_152_47 hh, rk_152_48 hh, rk_152_49 hh, k136, i10, g1, g2, g3, u1, u2, v1, hm]
      intro _ hH2 m2
      refine ⟨_, rfl, fun _ => rfl, ?_⟩
      refine ⟨rdS_2 (twn_S 0 0 152 0) (by decide +kernel : (disj cn116.2.2.2.1 _ && disj cn164.2.2.2.1 _) = true) m1 m2 l0, rdS_2 (twn_S 0 1 152 1) (by decide +kernel : (disj cn116.2.2.2.1 _ && disj cn164.2.2.2.1 _) = true) m1 m2 l1, rdS_2 (twn_S 0 2 152 2) (by decide +kernel : (disj cn116.2.2.2.1 _ && disj cn164.2.2.2.1 _) = true) m1 m2 l2, rdS_2 (twn_S 0 3 152 5) (by decide +kernel : (disj cn116.2.2.2.1 _ && disj cn164.2.2.2.1 _) = true) m1 m2 l3, rdS_2 (twn_S 0 4 152 6) (by decide +kernel : (disj cn116.2.2.2.1 _ && disj cn164.2.2.2.1 _) = true) m1 m2 l4, rdS_2 (twn_S 3 3 152 3) (by decide +kernel : (disj cn116.2.2.2.1 _ && disj cn164.2.2.2.1 _) = true) m1 m2 l5, rdS_2 (twn_S 17 3 152 4) (by decide +kernel : (disj cn116.2.2.2.1 _ && disj cn164.2.2.2.1 _) = true) m1 m2 l6, ?_, rdS_2 (twn_S 1 1 152 17) (by decide +kernel : (disj cn116.2.2.2.1 _ && disj cn164.2.2.2.1 _) = true) m1 m2 l8, rdS_2 (lkY_S) (by decide +kernel : (disj cn116.2.2.2.1 _ && disj cn164.2.2.2.1 _) = true) m1 m2 l9, rdS_2 (lkS_S) (by decide +kernel : (disj cn116.2.2.2.1 _ && disj cn164.2.2.2.1 _) = true) m1 m2 l10, rdS_2 (lkT_S) (by decide +kernel : (disj cn116.2.2.2.1 _ && disj cn164.2.2.2.1 _) = true) m1 m2 l11, rdS_2 (lkB_S) (by decide +kernel : (disj cn116.2.2.2.1 _ && disj cn164.2.2.2.1 _) = true) m1 m2 l12, ?_, rdS_2 (lkC_S) (by decide +kernel : (disj cn116.2.2.2.1 _ && disj cn164.2.2.2.1 _) = true) m1 m2 l14, rdS_2 (lkQ_S) (by decide +kernel : (disj cn116.2.2.2.1 _ && disj cn164.2.2.2.1 _) = true) m1 m2 l15⟩
      · rfl
      · exact nw
    · have u1 : ¬ (n : Int) < 40 := by omega
      have u2 : (n : Int) = 40 := by omega
      simp only [e108, s108_0, s108_1, s108_2, s108_3, s108_4, s108_5, s108_6, s108_7, s108_8, s108_9, s108_10, s108_11, s108_12, s108_13, s108_14, s108_15, s108_16, s108_17, s108_18, s108_19, s108_20, s108_21, s108_22, s108_23, s109_0, s109_1, s109_2, s109_3, s109_4, s109_5, e109, Option.toList_some, Option.toList_none, List.cons_append, List.nil_append, Nat.le_refl, true_and, and_true, true_or, or_true, false_or, or_false, true_implies, false_implies, implies_true, not_true_eq_false, not_false_eq_true, eq_self, Nat.reduceLT, Nat.reduceLeDiff, Nat.reduceEqDiff, Nat.reduceAdd, Nat.reduceSub, Int.reduceLT, Int.reduceLE, Int.reduceEq, Int.reduceNeg, Int.reduceNe, Int.reduceAdd, Int.reduceSub, Int.reduceMul, Int.reduceToNat, Int.toNat_zero, Int.toNat_one, Int.toNat_natCast, am_cats, am_cat, am_st1, am_st2, am_clr, up2_na, up2_nj, up2_same, List.getElem?_cons_zero, List.getElem?_cons_succ, List.set_cons_zero, List.set_cons_succ, ne_eq, tk_0 hh, tk_102 hh, rk_0_16 hh, k18, i10, g1, g2, g3, u1, hn]
      intro _ hH1 m1 s1
      refine ⟨_, rfl, ?_⟩
      show wpc codeT mX (d + 1) 197 [.inr (.inr (some 152)), .inl a, .inl b, .inl z] (185, s, T, I, J, R) _
      simp only [s197_0, s197_1, s197_2, s197_3, s197_4, s197_5, s197_6, s197_7, s197_8, s197_9, s197_10, s197_11, s197_12, s197_13, s197_14, s197_15, s197_16, s197_17, s197_18, s197_19, s197_20, e197, Option.toList_some, Option.toList_none, List.cons_append, List.nil_append, Nat.le_refl, true_and, and_true, true_or, or_true, false_or, or_false, true_implies, false_implies, implies_true, not_true_eq_false, not_false_eq_true, eq_self, Nat.reduceLT, Nat.reduceLeDiff, Nat.reduceEqDiff, Nat.reduceAdd, Nat.reduceSub, Int.reduceLT, Int.reduceLE, Int.reduceEq, Int.reduceNeg, Int.reduceNe, Int.reduceAdd, Int.reduceSub, Int.reduceMul, Int.reduceToNat, Int.toNat_zero, Int.toNat_one, Int.toNat_natCast, am_cats, am_cat, am_st1, am_st2, am_clr, up2_na, up2_nj, up2_same, List.getElem?_cons_zero, List.getElem?_cons_succ, List.set_cons_zero, List.set_cons_succ, ne_eq, tk_152 hh, k136, i10, g1, g2, g3, u2, hm]
      intro _ hH2 m2
      exact ⟨_, rfl, fun _ => rfl, l0, l1, l2, l3, l4, l5, l6, l7, l8, l9, l10, l11, l12, l13, l14, l15⟩
  · have fin : ∀ Q : Option AV → AH → Prop, Q (some (.inl (-1))) (185, s, T, I, J, R) → wpc codeT mX (d + 1) 197 [.inr (.inr (some 152)), .inl a, .inl b, .inl z] (185, s, T, I, J, R) Q := by
      intro Q hQ
      simp only [s197_0, s197_1, s197_2, s197_3, s197_4, s197_5, s197_6, s197_7, s197_8, s197_9, s197_10, s197_11, s197_12, s197_13, s197_14, s197_19, s197_20, e197, Option.toList_some, Option.toList_none, List.cons_append, List.nil_append, Nat.le_refl, true_and, and_true, true_or, or_true, false_or, or_false, true_implies, false_implies, implies_true, not_true_eq_false, not_false_eq_true, eq_self, Nat.reduceLT, Nat.reduceLeDiff, Nat.reduceEqDiff, Nat.reduceAdd, Nat.reduceSub, Int.reduceLT, Int.reduceLE, Int.reduceEq, Int.reduceNeg, Int.reduceNe, Int.reduceAdd, Int.reduceSub, Int.reduceMul, Int.reduceToNat, Int.toNat_zero, Int.toNat_one, Int.toNat_natCast, am_cats, am_cat, am_st1, am_st2, am_clr, up2_na, up2_nj, up2_same, List.getElem?_cons_zero, List.getElem?_cons_succ, List.set_cons_zero, List.set_cons_succ, ne_eq, tk_152 hh, k136, i10, Classical.not_not]
      exact ⟨fun _ => hQ, fun q1 => ⟨fun _ => hQ, fun q2 => ⟨fun _ => hQ, fun q3 => absurd ⟨q1, q2, q3⟩ hg⟩⟩⟩
    have go : ∀ Q : Option AV → AH → Prop, Q (some (.inl (-1))) (185, s, T, I, J, R) → wpc codeT mX (d + 1) 108 [.inr (.inr (some 0)), .inl a, .inl b, .inl z] (185, s, T, I, J, R) Q := by
      intro Q hQ
      simp only [s108_0, s108_1, s108_2, s108_3, s108_4, s108_5, s108_6, s108_7, s108_8, s108_9, s108_10, s108_11, s108_12, s108_13, s108_14, s108_15, s108_16, e108, Option.toList_some, Option.toList_none, List.cons_append, List.nil_append, Nat.le_refl, true_and, and_true, true_or, or_true, false_or, or_false, true_implies, false_implies, implies_true, not_true_eq_false, not_false_eq_true, eq_self, Nat.reduceLT, Nat.reduceLeDiff, Nat.reduceEqDiff, Nat.reduceAdd, Nat.reduceSub, Int.reduceLT, Int.reduceLE, Int.reduceEq, Int.reduceNeg, Int.reduceNe, Int.reduceAdd, Int.reduceSub, Int.reduceMul, Int.reduceToNat, Int.toNat_zero, Int.toNat_one, Int.toNat_natCast, am_cats, am_cat, am_st1, am_st2, am_clr, up2_na, up2_nj, up2_same, List.getElem?_cons_zero, List.getElem?_cons_succ, List.set_cons_zero, List.set_cons_succ, ne_eq, tk_0 hh, k18, i10, Classical.not_not]
      exact ⟨fun _ => hQ, fun q1 => ⟨fun _ => hQ, fun q2 => ⟨fun _ => hQ, fun q3 => absurd ⟨q1, q2, q3⟩ hg⟩⟩⟩
    exact go _ (fun _ hH1 m1 s1 => ⟨-1, rfl, fin _ (fun _ hH2 m2 => ⟨-1, rfl, fun _ => rfl, l0, l1, l2, l3, l4, l5, l6, l7, l8, l9, l10, l11, l12, l13, l14, l15⟩)⟩)
theorem pr_mistakes (hL : L ≤ 3072) (hX : ∀ j, rg32 (X j)) (hd : 40 ≤ d) {cmp : Bool} : pr L X s LKP d 114 201 3 false cmp := by
  refine pr_mk (cx := cn121) (cm := cn168) (nx := 0) (nm := 1) hL hX (cn_all 121 (by decide) cn121 rfl) (cn_all 168 (by decide) cn168 rfl) rfl hd (fun as g hl hr hH hs hP => ?_)
  obtain ⟨a, b, z, rfl⟩ := len3 hl
  obtain ⟨c, s, T, I, J, R⟩ := g
  obtain ⟨d, rfl⟩ : ∃ e, d = e + 2 := ⟨d - 2, by omega⟩
  have hc : c = 185 := hH.1
  subst hc
  have hh := hp_of (eH5_of hH)
  have hP : LK I := hP
  obtain ⟨l0, l1, l2, l3, l4, l5, l6, l7, l8, l9, l10, l11, l12, l13, l14, l15⟩ := hP
  have e2 : I 0 2 = I 152 2 := l2
  have e3 : I 3 3 = I 152 3 := l5
  have b2 : 0 ≤ I 0 2 ∧ I 0 2 ≤ 6 := ebd hH (by decide) (by decide) (by decide)
  have b3 : 0 ≤ I 3 3 ∧ I 3 3 ≤ 8 := ebd hH (by decide) (by decide) (by decide)
  show wpc codeT mX (d + 2) 114 [.inr (.inr (some 0)), .inl a, .inl b, .inl z] _ _
  by_cases hg : (0 ≤ a ∧ a < I 0 2) ∧ (0 ≤ b ∧ b < I 3 3) ∧ 0 ≤ z ∧ z ≤ 1000
  · obtain ⟨g1, g2, g3⟩ := hg
    obtain ⟨h, rfl⟩ : ∃ n : Nat, a = n := ⟨a.toNat, by omega⟩
    obtain ⟨t, rfl⟩ : ∃ n : Nat, b = n := ⟨b.toNat, by omega⟩
    have h6 : h < 6 := by omega
    have t8 : t < 8 := by omega
    have y1 : 0 ≤ (h : Int) ∧ (h : Int) < I 152 2 := by omega
    have y2 : 0 ≤ (t : Int) ∧ (t : Int) < I 152 3 := by omega
    have es : I (109 + h) t = I 182 (8 * h + t) := l14.1 h t h6 t8
    have b4 : 0 ≤ I 182 (8 * h + t) ∧ I 182 (8 * h + t) ≤ 12 := ebd hH (by decide) (by show 8 * h + t < 48; omega) ((bI_hi (by decide)).trans (by decide))
    obtain ⟨n, hn⟩ : ∃ n : Nat, I 182 (8 * h + t) = n := ⟨(I 182 (8 * h + t)).toNat, by omega⟩
    have hm : I (109 + h) t = n := es.trans hn
    have u1 : 0 ≤ (h : Int) ∧ (h : Int) < ((6 : Nat) : Int) := by omega
    have u2 : 0 ≤ (t : Int) ∧ (t : Int) < ((8 : Nat) : Int) := by omega
    have u3 : 109 + h < 185 ∧ (152 : Nat) ≠ 109 + h ∧ (182 : Nat) ≠ 109 + h ∧ 109 + h ≠ 107 := by omega
    have u4 : 0 ≤ ((8 * h + t : Nat) : Int) ∧ ((8 * h + t : Nat) : Int) < ((48 : Nat) : Int) := by omega
    have o1 : 8 * (h : Int) = ((8 * h : Nat) : Int) := by omega
    have o1b : (h : Int) * 8 = ((8 * h : Nat) : Int) := by omega
    have o2 : 8 * h ≤ 2000000000 := by omega
    have o3 : ((8 * h : Nat) : Int) + (t : Int) = ((8 * h + t : Nat) : Int) := by omega
    have o4 : 8 * h + t ≤ 2000000000 := by omega
    have o5 : ((8 * h + t : Nat) : Int) * 12 = ((12 * (8 * h + t) : Nat) : Int) := by omega
    have o5b : 12 * ((8 * h + t : Nat) : Int) = ((12 * (8 * h + t) : Nat) : Int) := by omega
    have o6 : 12 * (8 * h + t) ≤ 2000000000 := by omega
    by_cases h12 : n < 12
    · have o7 : ((12 * (8 * h + t) : Nat) : Int) + (n : Int) = ((12 * (8 * h + t) + n : Nat) : Int) := by omega
      have o8 : 12 * (8 * h + t) + n ≤ 2000000000 := by omega
      have o9 : (n : Int) + 1 = ((n + 1 : Nat) : Int) := by omega
      have o10 : n + 1 ≤ 2000000000 := by omega
      have u5 : (n : Int) < 12 := by omega
      have u6 : ¬ (n : Int) = 12 := by omega
      have u7 : 0 ≤ ((12 * (8 * h + t) + n : Nat) : Int) ∧ ((12 * (8 * h + t) + n : Nat) : Int) < ((576 : Nat) : Int) := by omega
      have nw : lkC (up2 (up2 (up2 (up2 I 107 (12 * (8 * h + t) + n) z) (109 + h) t ((n + 1 : Nat) : Int)) 183 (12 * (8 * h + t) + n) z) 182 (8 * h + t) ((n + 1 : Nat) : Int)) := by
        refine ⟨fun h' t' hh' ht' => ?_, fun j hj => ?_⟩
        · have e5 := l14.1 h' t' hh' ht'
          have A : (up2 (up2 (up2 (up2 I 107 (12 * (8 * h + t) + n) z) (109 + h) t ((n + 1 : Nat) : Int)) 183 (12 * (8 * h + t) + n) z) 182 (8 * h + t) ((n + 1 : Nat) : Int)) (109 + h') t' = up2 I (109 + h) t ((n + 1 : Nat) : Int) (109 + h') t' := by
            rw [up2_na (by omega), up2_na (by omega)]
            by_cases he : 109 + h' = 109 + h ∧ t' = t
            · rw [he.1, he.2, up2_same, up2_same]
            · rw [up2_ne _ _ he, up2_ne _ _ he, up2_na (by omega)]
          have B : (up2 (up2 (up2 (up2 I 107 (12 * (8 * h + t) + n) z) (109 + h) t ((n + 1 : Nat) : Int)) 183 (12 * (8 * h + t) + n) z) 182 (8 * h + t) ((n + 1 : Nat) : Int)) 182 (8 * h' + t') = up2 I 182 (8 * h + t) ((n + 1 : Nat) : Int) 182 (8 * h' + t') := by
            by_cases he : 8 * h' + t' = 8 * h + t
            · rw [he, up2_same, up2_same]
            · rw [up2_nj he, up2_nj he, up2_na (by decide), up2_na (by omega), up2_na (by decide)]
          rw [A, B]
          by_cases he : h' = h ∧ t' = t
          · rw [he.1, he.2, up2_same, up2_same]
          · rw [up2_ne _ _ (by omega), up2_ne _ _ (by omega)]
            exact e5
        · have e5 := l14.2 j hj
          have A : (up2 (up2 (up2 (up2 I 107 (12 * (8 * h + t) + n) z) (109 + h) t ((n + 1 : Nat) : Int)) 183 (12 * (8 * h + t) + n) z) 182 (8 * h + t) ((n + 1 : Nat) : Int)) 107 j = up2 I 107 (12 * (8 * h + t) + n) z 107 j := by
            rw [up2_na (by decide), up2_na (by decide), up2_na (by omega)]
          have B : (up2 (up2 (up2 (up2 I 107 (12 * (8 * h + t) + n) z) (109 + h) t ((n + 1 : Nat) : Int)) 183 (12 * (8 * h + t) + n) z) 182 (8 * h + t) ((n + 1 : Nat) : Int)) 183 j = up2 I 183 (12 * (8 * h + t) + n) z 183 j := by
            rw [up2_na (by decide)]
            by_cases he : j = 12 * (8 * h + t) + n
            · rw [he, up2_same, up2_same]
            · rw [up2_nj he, up2_nj he, up2_na (by omega), up2_na (by decide)]
          rw [A, B]
          by_cases he : j = 12 * (8 * h + t) + n
          · rw [he, up2_same, up2_same]
            exact ⟨rfl, g3⟩
          · rw [up2_nj he, up2_nj he]
            exact e5
      have v1 := w32_c o1 o2
      have v1b := w32_c o1b o2
      have v2 := w32_c o3 o4
      have v3 := w32_c o5 o6
      have v3b := w32_c o5b o6
      have v4 := w32_c o7 o8
      have v5 := w32_c o9 o10
      simp only [e114, s114_0, s114_1, s114_2, s114_3, s114_4, s114_5, s114_6, s114_7, s114_8, s114_9, s114_10, s114_11, s114_12, s114_13, s114_14, s114_15, s114_16, s114_17, s114_18, s114_19, s114_20, s114_21, e115, s115_0, s115_1, s115_2, s115_3, s115_4, s115_5, s115_6, s115_7, s115_8, s115_9, s115_10, s115_11, s115_12, s115_13, s115_14, s115_15, s115_16, s115_17, s115_18, s115_19, s115_20, s115_21, s115_22, s115_23, s115_24, s115_25, s115_26, s115_27, s115_28, s115_29, s115_30, s115_31, s115_32, s115_33, s115_34, s115_35, s115_36, s115_37, s115_38, s115_39, s115_40, e116, s116_0, s116_1, s116_2, s116_3, s116_4, s116_5, s116_6, s116_7, Option.toList_some, Option.toList_none, List.cons_append, List.nil_append, Nat.le_refl, true_and, and_true, true_or, or_true, false_or, or_false, true_implies, false_implies, implies_true, not_true_eq_false, not_false_eq_true, eq_self, Nat.reduceLT, Nat.reduceLeDiff, Nat.reduceEqDiff, Nat.reduceAdd, Nat.reduceSub, Int.reduceLT, Int.reduceLE, Int.reduceEq, Int.reduceNeg, Int.reduceNe, Int.reduceAdd, Int.reduceSub, Int.reduceMul, Int.reduceToNat, Int.toNat_zero, Int.toNat_one, Int.toNat_natCast, am_cats, am_cat, am_st1, am_st2, am_clr, up2_na, up2_nj, up2_same, List.getElem?_cons_zero, List.getElem?_cons_succ, List.set_cons_zero, List.set_cons_succ, ne_eq, tk_0 hh, tk_106 hh, tk_107 hh, tk_108 hh, rk_0_17 hh, rk_106_0 hh, rk_106_1 hh, gk_108 hh h6, tg_109 hh h6, k16 hh, k51 hh, k18, i10, g1, g2, g3, u1, u2, u3, u5, u7, v1b, v2, v3, v4, v5, hm]
      intro _ hH1 m1 s1
      refine ⟨_, rfl, ?_⟩
      show wpc codeT mX (d + 2) 201 [.inr (.inr (some 152)), .inl (h : Int), .inl (t : Int), .inl z] (185, s, T, up2 (up2 I 107 (12 * (8 * h + t) + n) z) (109 + h) t ((n + 1 : Nat) : Int), J, R) _
      simp only [e201, s201_0, s201_1, s201_2, s201_3, s201_4, s201_5, s201_6, s201_7, s201_8, s201_9, s201_10, s201_11, s201_12, s201_13, s201_14, s201_15, s201_16, s201_17, s201_18, s201_19, s201_20, s201_21, s201_22, s201_23, s201_24, s201_25, s201_26, s201_27, s201_28, s201_29, s201_30, s201_31, s201_32, s201_33, s201_34, s201_35, s201_36, s201_37, s201_38, s201_39, s201_40, s201_41, s201_42, s201_43, s201_44, s201_45, s201_46, s201_47, s201_48, s201_49, s201_50, s201_51, s201_52, s201_53, s201_54, s201_55, s201_56, s201_57, Option.toList_some, Option.toList_none, List.cons_append, List.nil_append, Nat.le_refl, true_and, and_true, true_or, or_true, false_or, or_false, true_implies, false_implies, implies_true, not_true_eq_false, not_false_eq_true, eq_self, Nat.reduceLT, Nat.reduceLeDiff, Nat.reduceEqDiff, Nat.reduceAdd, Nat.reduceSub, Int.reduceLT, Int.reduceLE, Int.reduceEq, Int.reduceNeg, Int.reduceNe, Int.reduceAdd, Int.reduceSub, Int.reduceMul, Int.reduceToNat, Int.toNat_zero, Int.toNat_one, Int.toNat_natCast, am_cats, am_cat, am_st1, am_st2, am_clr, up2_na, up2_nj, up2_same, List.getElem?_cons_zero, List.getElem?_cons_succ, List.set_cons_zero, List.set_cons_succ, ne_eq, tk_152 hh, tk_182 hh, tk_183 hh, rk_152_50 hh, rk_152_51 hh, k134 hh, k164 hh, k136, i10, y1, y2, g3, u3, u4, u6, u7, v1, v2, v3b, v4, v5, hn]
      intro _ hH2 m2
      refine ⟨_, rfl, fun _ => rfl, ?_⟩
      refine ⟨rdS_2 (twn_S 0 0 152 0) (by decide +kernel : (disj cn121.2.2.2.1 _ && disj cn168.2.2.2.1 _) = true) m1 m2 l0, rdS_2 (twn_S 0 1 152 1) (by decide +kernel : (disj cn121.2.2.2.1 _ && disj cn168.2.2.2.1 _) = true) m1 m2 l1, rdS_2 (twn_S 0 2 152 2) (by decide +kernel : (disj cn121.2.2.2.1 _ && disj cn168.2.2.2.1 _) = true) m1 m2 l2, rdS_2 (twn_S 0 3 152 5) (by decide +kernel : (disj cn121.2.2.2.1 _ && disj cn168.2.2.2.1 _) = true) m1 m2 l3, rdS_2 (twn_S 0 4 152 6) (by decide +kernel : (disj cn121.2.2.2.1 _ && disj cn168.2.2.2.1 _) = true) m1 m2 l4, rdS_2 (twn_S 3 3 152 3) (by decide +kernel : (disj cn121.2.2.2.1 _ && disj cn168.2.2.2.1 _) = true) m1 m2 l5, rdS_2 (twn_S 17 3 152 4) (by decide +kernel : (disj cn121.2.2.2.1 _ && disj cn168.2.2.2.1 _) = true) m1 m2 l6, rdS_2 (twn_S 102 3 152 46) (by decide +kernel : (disj cn121.2.2.2.1 _ && disj cn168.2.2.2.1 _) = true) m1 m2 l7, rdS_2 (twn_S 1 1 152 17) (by decide +kernel : (disj cn121.2.2.2.1 _ && disj cn168.2.2.2.1 _) = true) m1 m2 l8, rdS_2 (lkY_S) (by decide +kernel : (disj cn121.2.2.2.1 _ && disj cn168.2.2.2.1 _) = true) m1 m2 l9, rdS_2 (lkS_S) (by decide +kernel : (disj cn121.2.2.2.1 _ && disj cn168.2.2.2.1 _) = true) m1 m2 l10, rdS_2 (lkT_S) (by decide +kernel : (disj cn121.2.2.2.1 _ && disj cn168.2.2.2.1 _) = true) m1 m2 l11, rdS_2 (lkB_S) (by decide +kernel : (disj cn121.2.2.2.1 _ && disj cn168.2.2.2.1 _) = true) m1 m2 l12, rdS_2 (lkO_S) (by decide +kernel : (disj cn121.2.2.2.1 _ && disj cn168.2.2.2.1 _) = true) m1 m2 l13, ?_, rdS_2 (lkQ_S) (by decide +kernel : (disj cn121.2.2.2.1 _ && disj cn168.2.2.2.1 _) = true) m1 m2 l15⟩
      exact nw
    · have u5 : ¬ (n : Int) < 12 := by omega
      have u6 : (n : Int) = 12 := by omega
      have v1 := w32_c o1 o2
      have v2 := w32_c o3 o4
      simp only [e114, s114_0, s114_1, s114_2, s114_3, s114_4, s114_5, s114_6, s114_7, s114_8, s114_9, s114_10, s114_11, s114_12, s114_13, s114_14, s114_15, s114_16, s114_17, s114_18, s114_19, s114_20, s114_21, s115_0, s115_1, s115_2, s115_3, s115_4, s115_5, s115_6, s115_7, s115_8, s115_9, e115, Option.toList_some, Option.toList_none, List.cons_append, List.nil_append, Nat.le_refl, true_and, and_true, true_or, or_true, false_or, or_false, true_implies, false_implies, implies_true, not_true_eq_false, not_false_eq_true, eq_self, Nat.reduceLT, Nat.reduceLeDiff, Nat.reduceEqDiff, Nat.reduceAdd, Nat.reduceSub, Int.reduceLT, Int.reduceLE, Int.reduceEq, Int.reduceNeg, Int.reduceNe, Int.reduceAdd, Int.reduceSub, Int.reduceMul, Int.reduceToNat, Int.toNat_zero, Int.toNat_one, Int.toNat_natCast, am_cats, am_cat, am_st1, am_st2, am_clr, up2_na, up2_nj, up2_same, List.getElem?_cons_zero, List.getElem?_cons_succ, List.set_cons_zero, List.set_cons_succ, ne_eq, tk_0 hh, tk_106 hh, tk_108 hh, rk_0_17 hh, rk_106_1 hh, gk_108 hh h6, tg_109 hh h6, k16 hh, k51 hh, k18, i10, g1, g2, g3, u1, u2, u3, u5, hm]
      intro _ hH1 m1 s1
      refine ⟨_, rfl, ?_⟩
      show wpc codeT mX (d + 2) 201 [.inr (.inr (some 152)), .inl (h : Int), .inl (t : Int), .inl z] (185, s, T, I, J, R) _
      simp only [s201_0, s201_1, s201_2, s201_3, s201_4, s201_5, s201_6, s201_7, s201_8, s201_9, s201_10, s201_11, s201_12, s201_13, s201_14, s201_15, s201_16, s201_17, s201_18, s201_19, s201_20, s201_21, s201_22, s201_23, s201_24, e201, Option.toList_some, Option.toList_none, List.cons_append, List.nil_append, Nat.le_refl, true_and, and_true, true_or, or_true, false_or, or_false, true_implies, false_implies, implies_true, not_true_eq_false, not_false_eq_true, eq_self, Nat.reduceLT, Nat.reduceLeDiff, Nat.reduceEqDiff, Nat.reduceAdd, Nat.reduceSub, Int.reduceLT, Int.reduceLE, Int.reduceEq, Int.reduceNeg, Int.reduceNe, Int.reduceAdd, Int.reduceSub, Int.reduceMul, Int.reduceToNat, Int.toNat_zero, Int.toNat_one, Int.toNat_natCast, am_cats, am_cat, am_st1, am_st2, am_clr, up2_na, up2_nj, up2_same, List.getElem?_cons_zero, List.getElem?_cons_succ, List.set_cons_zero, List.set_cons_succ, ne_eq, tk_152 hh, tk_182 hh, rk_152_50 hh, k134 hh, k164 hh, k136, i10, y1, y2, g3, u4, u6, v1, v2, hn]
      intro _ hH2 m2
      exact ⟨_, rfl, fun _ => rfl, l0, l1, l2, l3, l4, l5, l6, l7, l8, l9, l10, l11, l12, l13, l14, l15⟩
  · have hg2 : ¬ ((0 ≤ a ∧ a < I 152 2) ∧ (0 ≤ b ∧ b < I 152 3) ∧ 0 ≤ z ∧ z ≤ 1000) := by rw [← e2, ← e3]; exact hg
    have fin : ∀ Q : Option AV → AH → Prop, Q (some (.inl (-1))) (185, s, T, I, J, R) → wpc codeT mX (d + 2) 201 [.inr (.inr (some 152)), .inl a, .inl b, .inl z] (185, s, T, I, J, R) Q := by
      intro Q hQ
      simp only [s201_0, s201_1, s201_2, s201_3, s201_4, s201_5, s201_6, s201_7, s201_8, s201_9, s201_10, s201_11, s201_12, s201_23, s201_24, e201, Option.toList_some, Option.toList_none, List.cons_append, List.nil_append, Nat.le_refl, true_and, and_true, true_or, or_true, false_or, or_false, true_implies, false_implies, implies_true, not_true_eq_false, not_false_eq_true, eq_self, Nat.reduceLT, Nat.reduceLeDiff, Nat.reduceEqDiff, Nat.reduceAdd, Nat.reduceSub, Int.reduceLT, Int.reduceLE, Int.reduceEq, Int.reduceNeg, Int.reduceNe, Int.reduceAdd, Int.reduceSub, Int.reduceMul, Int.reduceToNat, Int.toNat_zero, Int.toNat_one, Int.toNat_natCast, am_cats, am_cat, am_st1, am_st2, am_clr, up2_na, up2_nj, up2_same, List.getElem?_cons_zero, List.getElem?_cons_succ, List.set_cons_zero, List.set_cons_succ, ne_eq, tk_152 hh, k134 hh, k164 hh, k136, i10, Classical.not_not]
      exact ⟨fun _ => hQ, fun q1 => ⟨fun _ => hQ, fun q2 => ⟨fun _ => hQ, fun q3 => absurd ⟨q1, q2, q3⟩ hg2⟩⟩⟩
    have go : ∀ Q : Option AV → AH → Prop, Q (some (.inl (-1))) (185, s, T, I, J, R) → wpc codeT mX (d + 2) 114 [.inr (.inr (some 0)), .inl a, .inl b, .inl z] (185, s, T, I, J, R) Q := by
      intro Q hQ
      simp only [s114_0, s114_1, s114_2, s114_3, s114_4, s114_5, s114_6, s114_7, s114_8, s114_9, s114_10, s114_11, s114_12, s114_13, s114_14, e114, Option.toList_some, Option.toList_none, List.cons_append, List.nil_append, Nat.le_refl, true_and, and_true, true_or, or_true, false_or, or_false, true_implies, false_implies, implies_true, not_true_eq_false, not_false_eq_true, eq_self, Nat.reduceLT, Nat.reduceLeDiff, Nat.reduceEqDiff, Nat.reduceAdd, Nat.reduceSub, Int.reduceLT, Int.reduceLE, Int.reduceEq, Int.reduceNeg, Int.reduceNe, Int.reduceAdd, Int.reduceSub, Int.reduceMul, Int.reduceToNat, Int.toNat_zero, Int.toNat_one, Int.toNat_natCast, am_cats, am_cat, am_st1, am_st2, am_clr, up2_na, up2_nj, up2_same, List.getElem?_cons_zero, List.getElem?_cons_succ, List.set_cons_zero, List.set_cons_succ, ne_eq, tk_0 hh, k16 hh, k51 hh, k18, i10, Classical.not_not]
      exact ⟨fun _ => hQ, fun q1 => ⟨fun _ => hQ, fun q2 => ⟨fun _ => hQ, fun q3 => absurd ⟨q1, q2, q3⟩ hg⟩⟩⟩
    exact go _ (fun _ hH1 m1 s1 => ⟨-1, rfl, fin _ (fun _ hH2 m2 => ⟨-1, rfl, fun _ => rfl, l0, l1, l2, l3, l4, l5, l6, l7, l8, l9, l10, l11, l12, l13, l14, l15⟩)⟩)
theorem pr_asks (hL : L ≤ 3072) (hX : ∀ j, rg32 (X j)) (hd : 40 ≤ d) {cmp : Bool} : pr L X s LKP d 122 205 2 false cmp := by
  refine pr_mk (cx := cn126) (cm := cn172) (nx := 0) (nm := 0) hL hX (cn_all 126 (by decide) cn126 rfl) (cn_all 172 (by decide) cn172 rfl) rfl hd (fun as g hl hr hH hs hP => ?_)
  obtain ⟨a, b, rfl⟩ := len2 hl
  obtain ⟨c, s, T, I, J, R⟩ := g
  obtain ⟨d, rfl⟩ : ∃ e, d = e + 1 := ⟨d - 1, by omega⟩
  have hc : c = 185 := hH.1
  subst hc
  have hh := hp_of (eH5_of hH)
  have hP : LK I := hP
  obtain ⟨l0, l1, l2, l3, l4, l5, l6, l7, l8, l9, l10, l11, l12, l13, l14, l15⟩ := hP
  have e0 : I 0 0 = I 152 0 := l0
  have e2 : I 0 2 = I 152 2 := l2
  have b0 : 0 ≤ I 0 0 ∧ I 0 0 ≤ 299 := ebd hH (by decide) (by decide) (by decide)
  have b2 : 0 ≤ I 0 2 ∧ I 0 2 ≤ 6 := ebd hH (by decide) (by decide) (by decide)
  show wpc codeT mX (d + 1) 122 [.inr (.inr (some 0)), .inl a, .inl b] _ _
  by_cases hg : (0 ≤ a ∧ a < I 0 2) ∧ (0 ≤ b ∧ b ≤ I 0 0)
  · obtain ⟨g1, g2⟩ := hg
    obtain ⟨h, rfl⟩ : ∃ n : Nat, a = n := ⟨a.toNat, by omega⟩
    obtain ⟨t, rfl⟩ : ∃ n : Nat, b = n := ⟨b.toNat, by omega⟩
    have y1 : 0 ≤ (h : Int) ∧ (h : Int) < I 152 2 := by omega
    have y2 : 0 ≤ (t : Int) ∧ (t : Int) ≤ I 152 0 := by omega
    have es : I 115 (300 * h + t) = I 184 (300 * h + t) := l15 _ (by omega)
    have u4 : 0 ≤ ((300 * h + t : Nat) : Int) ∧ ((300 * h + t : Nat) : Int) < ((1800 : Nat) : Int) := by omega
    have b4 : 0 ≤ I 184 (300 * h + t) ∧ I 184 (300 * h + t) ≤ 1 := ebd hH (by decide) (by show 300 * h + t < 1800; omega) ((bI_hi (by decide)).trans (by decide))
    have o1 : 300 * (h : Int) = ((300 * h : Nat) : Int) := by omega
    have o1b : (h : Int) * 300 = ((300 * h : Nat) : Int) := by omega
    have o2 : 300 * h ≤ 2000000000 := by omega
    have o3 : ((300 * h : Nat) : Int) + (t : Int) = ((300 * h + t : Nat) : Int) := by omega
    have o4 : 300 * h + t ≤ 2000000000 := by omega
    have nw : lkQ (up2 (up2 I 115 (300 * h + t) 1) 184 (300 * h + t) 1) := by
      intro j hj
      rw [up2_na (by decide), up2_at, up2_at]
      by_cases he : j = 300 * h + t
      · rw [if_pos ⟨rfl, he⟩, if_pos ⟨rfl, he⟩]
      · rw [if_neg (fun x => he x.2), if_neg (fun x => he x.2), up2_na (by decide)]
        exact l15 j hj
    by_cases h1 : I 184 (300 * h + t) = 0
    · have w1 : I 115 (300 * h + t) = 0 := es.trans h1
      have v1 := w32_c o1 o2
      have v1b := w32_c o1b o2
      have v2 := w32_c o3 o4
      simp only [e122, s122_0, s122_1, s122_2, s122_3, s122_4, s122_5, s122_6, s122_7, s122_8, s122_9, s122_10, s122_11, s122_12, s122_13, s122_14, s122_15, s122_16, s122_17, s122_18, s122_19, s122_20, s122_21, s122_22, s122_23, s122_24, s122_25, s122_26, s122_27, e123, s123_0, s123_1, s123_2, s123_3, s123_4, s123_5, s123_6, s123_7, s123_8, Option.toList_some, Option.toList_none, List.cons_append, List.nil_append, Nat.le_refl, true_and, and_true, true_or, or_true, false_or, or_false, true_implies, false_implies, implies_true, not_true_eq_false, not_false_eq_true, eq_self, Nat.reduceLT, Nat.reduceLeDiff, Nat.reduceEqDiff, Nat.reduceAdd, Nat.reduceSub, Int.reduceLT, Int.reduceLE, Int.reduceEq, Int.reduceNeg, Int.reduceNe, Int.reduceAdd, Int.reduceSub, Int.reduceMul, Int.reduceToNat, Int.toNat_zero, Int.toNat_one, Int.toNat_natCast, am_cats, am_cat, am_st1, am_st2, am_clr, up2_na, up2_nj, up2_same, List.getElem?_cons_zero, List.getElem?_cons_succ, List.set_cons_zero, List.set_cons_succ, ne_eq, tk_0 hh, tk_115 hh, rk_0_18 hh, k16 hh, k18, i10, g1, g2, u4, v1b, v2, w1]
      intro _ hH1 m1 s1
      refine ⟨_, rfl, ?_⟩
      show wpc codeT mX (d + 1) 205 [.inr (.inr (some 152)), .inl (h : Int), .inl (t : Int)] (185, s, T, up2 I 115 (300 * h + t) 1, J, R) _
      simp only [e205, s205_0, s205_1, s205_2, s205_3, s205_4, s205_5, s205_6, s205_7, s205_8, s205_9, s205_10, s205_11, s205_12, s205_13, s205_14, s205_15, s205_16, s205_17, s205_18, s205_19, s205_20, s205_21, s205_22, s205_23, s205_24, s205_25, s205_26, s205_27, s205_28, s205_29, s205_30, s205_31, Option.toList_some, Option.toList_none, List.cons_append, List.nil_append, Nat.le_refl, true_and, and_true, true_or, or_true, false_or, or_false, true_implies, false_implies, implies_true, not_true_eq_false, not_false_eq_true, eq_self, Nat.reduceLT, Nat.reduceLeDiff, Nat.reduceEqDiff, Nat.reduceAdd, Nat.reduceSub, Int.reduceLT, Int.reduceLE, Int.reduceEq, Int.reduceNeg, Int.reduceNe, Int.reduceAdd, Int.reduceSub, Int.reduceMul, Int.reduceToNat, Int.toNat_zero, Int.toNat_one, Int.toNat_natCast, am_cats, am_cat, am_st1, am_st2, am_clr, up2_na, up2_nj, up2_same, List.getElem?_cons_zero, List.getElem?_cons_succ, List.set_cons_zero, List.set_cons_succ, ne_eq, tk_152 hh, tk_184 hh, rk_152_52 hh, k134 hh, k136, i10, y1, y2, u4, v1, v2, h1]
      intro _ hH2 m2
      refine ⟨_, rfl, fun _ => rfl, ?_⟩
      refine ⟨rdS_2 (twn_S 0 0 152 0) (by decide +kernel : (disj cn126.2.2.2.1 _ && disj cn172.2.2.2.1 _) = true) m1 m2 l0, rdS_2 (twn_S 0 1 152 1) (by decide +kernel : (disj cn126.2.2.2.1 _ && disj cn172.2.2.2.1 _) = true) m1 m2 l1, rdS_2 (twn_S 0 2 152 2) (by decide +kernel : (disj cn126.2.2.2.1 _ && disj cn172.2.2.2.1 _) = true) m1 m2 l2, rdS_2 (twn_S 0 3 152 5) (by decide +kernel : (disj cn126.2.2.2.1 _ && disj cn172.2.2.2.1 _) = true) m1 m2 l3, rdS_2 (twn_S 0 4 152 6) (by decide +kernel : (disj cn126.2.2.2.1 _ && disj cn172.2.2.2.1 _) = true) m1 m2 l4, rdS_2 (twn_S 3 3 152 3) (by decide +kernel : (disj cn126.2.2.2.1 _ && disj cn172.2.2.2.1 _) = true) m1 m2 l5, rdS_2 (twn_S 17 3 152 4) (by decide +kernel : (disj cn126.2.2.2.1 _ && disj cn172.2.2.2.1 _) = true) m1 m2 l6, rdS_2 (twn_S 102 3 152 46) (by decide +kernel : (disj cn126.2.2.2.1 _ && disj cn172.2.2.2.1 _) = true) m1 m2 l7, rdS_2 (twn_S 1 1 152 17) (by decide +kernel : (disj cn126.2.2.2.1 _ && disj cn172.2.2.2.1 _) = true) m1 m2 l8, rdS_2 (lkY_S) (by decide +kernel : (disj cn126.2.2.2.1 _ && disj cn172.2.2.2.1 _) = true) m1 m2 l9, rdS_2 (lkS_S) (by decide +kernel : (disj cn126.2.2.2.1 _ && disj cn172.2.2.2.1 _) = true) m1 m2 l10, rdS_2 (lkT_S) (by decide +kernel : (disj cn126.2.2.2.1 _ && disj cn172.2.2.2.1 _) = true) m1 m2 l11, rdS_2 (lkB_S) (by decide +kernel : (disj cn126.2.2.2.1 _ && disj cn172.2.2.2.1 _) = true) m1 m2 l12, rdS_2 (lkO_S) (by decide +kernel : (disj cn126.2.2.2.1 _ && disj cn172.2.2.2.1 _) = true) m1 m2 l13, rdS_2 (lkC_S) (by decide +kernel : (disj cn126.2.2.2.1 _ && disj cn172.2.2.2.1 _) = true) m1 m2 l14, ?_⟩
      exact nw
    · have h1 : I 184 (300 * h + t) = 1 := by omega
      have w1 : I 115 (300 * h + t) = 1 := es.trans h1
      have v1 := w32_c o1 o2
      have v1b := w32_c o1b o2
      have v2 := w32_c o3 o4
      simp only [s122_0, s122_1, s122_2, s122_3, s122_4, s122_5, s122_6, s122_7, s122_8, s122_9, s122_10, s122_11, s122_12, s122_13, s122_14, s122_15, s122_16, e123, s123_0, s123_1, s123_2, s123_3, s123_4, s123_5, s123_6, s123_7, s123_8, e122, Option.toList_some, Option.toList_none, List.cons_append, List.nil_append, Nat.le_refl, true_and, and_true, true_or, or_true, false_or, or_false, true_implies, false_implies, implies_true, not_true_eq_false, not_false_eq_true, eq_self, Nat.reduceLT, Nat.reduceLeDiff, Nat.reduceEqDiff, Nat.reduceAdd, Nat.reduceSub, Int.reduceLT, Int.reduceLE, Int.reduceEq, Int.reduceNeg, Int.reduceNe, Int.reduceAdd, Int.reduceSub, Int.reduceMul, Int.reduceToNat, Int.toNat_zero, Int.toNat_one, Int.toNat_natCast, am_cats, am_cat, am_st1, am_st2, am_clr, up2_na, up2_nj, up2_same, List.getElem?_cons_zero, List.getElem?_cons_succ, List.set_cons_zero, List.set_cons_succ, ne_eq, tk_0 hh, tk_115 hh, rk_0_18 hh, k16 hh, k18, i10, g1, g2, u4, v1b, v2, w1]
      intro _ hH1 m1 s1
      refine ⟨_, rfl, ?_⟩
      show wpc codeT mX (d + 1) 205 [.inr (.inr (some 152)), .inl (h : Int), .inl (t : Int)] (185, s, T, I, J, R) _
      simp only [s205_0, s205_1, s205_2, s205_3, s205_4, s205_5, s205_6, s205_7, s205_8, s205_9, s205_10, s205_11, s205_12, s205_13, s205_14, s205_15, s205_16, s205_17, s205_18, s205_19, s205_20, e205, Option.toList_some, Option.toList_none, List.cons_append, List.nil_append, Nat.le_refl, true_and, and_true, true_or, or_true, false_or, or_false, true_implies, false_implies, implies_true, not_true_eq_false, not_false_eq_true, eq_self, Nat.reduceLT, Nat.reduceLeDiff, Nat.reduceEqDiff, Nat.reduceAdd, Nat.reduceSub, Int.reduceLT, Int.reduceLE, Int.reduceEq, Int.reduceNeg, Int.reduceNe, Int.reduceAdd, Int.reduceSub, Int.reduceMul, Int.reduceToNat, Int.toNat_zero, Int.toNat_one, Int.toNat_natCast, am_cats, am_cat, am_st1, am_st2, am_clr, up2_na, up2_nj, up2_same, List.getElem?_cons_zero, List.getElem?_cons_succ, List.set_cons_zero, List.set_cons_succ, ne_eq, tk_152 hh, tk_184 hh, rk_152_52 hh, k134 hh, k136, i10, y1, y2, u4, v1, v2, h1]
      intro _ hH2 m2
      exact ⟨_, rfl, fun _ => rfl, l0, l1, l2, l3, l4, l5, l6, l7, l8, l9, l10, l11, l12, l13, l14, l15⟩
  · have hg2 : ¬ ((0 ≤ a ∧ a < I 152 2) ∧ (0 ≤ b ∧ b ≤ I 152 0)) := by rw [← e2, ← e0]; exact hg
    have fin : ∀ Q : Option AV → AH → Prop, Q (some (.inl 0)) (185, s, T, I, J, R) → wpc codeT mX (d + 1) 205 [.inr (.inr (some 152)), .inl a, .inl b] (185, s, T, I, J, R) Q := by
      intro Q hQ
      simp only [s205_0, s205_1, s205_2, s205_3, s205_4, s205_5, s205_6, s205_7, s205_8, s205_9, s205_19, s205_20, e205, Option.toList_some, Option.toList_none, List.cons_append, List.nil_append, Nat.le_refl, true_and, and_true, true_or, or_true, false_or, or_false, true_implies, false_implies, implies_true, not_true_eq_false, not_false_eq_true, eq_self, Nat.reduceLT, Nat.reduceLeDiff, Nat.reduceEqDiff, Nat.reduceAdd, Nat.reduceSub, Int.reduceLT, Int.reduceLE, Int.reduceEq, Int.reduceNeg, Int.reduceNe, Int.reduceAdd, Int.reduceSub, Int.reduceMul, Int.reduceToNat, Int.toNat_zero, Int.toNat_one, Int.toNat_natCast, am_cats, am_cat, am_st1, am_st2, am_clr, up2_na, up2_nj, up2_same, List.getElem?_cons_zero, List.getElem?_cons_succ, List.set_cons_zero, List.set_cons_succ, ne_eq, tk_152 hh, k134 hh, k136, i10, Classical.not_not]
      exact ⟨fun _ => hQ, fun q1 => ⟨fun _ => hQ, fun q2 => absurd ⟨q1, q2⟩ hg2⟩⟩
    have go : ∀ Q : Option AV → AH → Prop, Q (some (.inl 0)) (185, s, T, I, J, R) → wpc codeT mX (d + 1) 122 [.inr (.inr (some 0)), .inl a, .inl b] (185, s, T, I, J, R) Q := by
      intro Q hQ
      simp only [s122_0, s122_1, s122_2, s122_3, s122_4, s122_5, s122_6, s122_7, s122_8, s122_9, s122_15, s122_16, e122, Option.toList_some, Option.toList_none, List.cons_append, List.nil_append, Nat.le_refl, true_and, and_true, true_or, or_true, false_or, or_false, true_implies, false_implies, implies_true, not_true_eq_false, not_false_eq_true, eq_self, Nat.reduceLT, Nat.reduceLeDiff, Nat.reduceEqDiff, Nat.reduceAdd, Nat.reduceSub, Int.reduceLT, Int.reduceLE, Int.reduceEq, Int.reduceNeg, Int.reduceNe, Int.reduceAdd, Int.reduceSub, Int.reduceMul, Int.reduceToNat, Int.toNat_zero, Int.toNat_one, Int.toNat_natCast, am_cats, am_cat, am_st1, am_st2, am_clr, up2_na, up2_nj, up2_same, List.getElem?_cons_zero, List.getElem?_cons_succ, List.set_cons_zero, List.set_cons_succ, ne_eq, tk_0 hh, k16 hh, k18, i10, Classical.not_not]
      exact ⟨fun _ => hQ, fun q1 => ⟨fun _ => hQ, fun q2 => absurd ⟨q1, q2⟩ hg⟩⟩
    exact go _ (fun _ hH1 m1 s1 => ⟨0, rfl, fin _ (fun _ hH2 m2 => ⟨0, rfl, fun _ => rfl, l0, l1, l2, l3, l4, l5, l6, l7, l8, l9, l10, l11, l12, l13, l14, l15⟩)⟩)
end
