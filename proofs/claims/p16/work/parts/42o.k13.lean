/-! the law by hand, 13: next, the reference; the pair -/
theorem bmP_nn (P : Nat → Int) : ∀ k, 0 ≤ (bmP P k).1
  | 0 => Int.le_refl _
  | k + 1 => by
    show 0 ≤ (if (bmP P k).2 < P (k + 1) then (((k + 1 : Nat) : Int), P (k + 1)) else bmP P k).1
    split
    · show 0 ≤ ((k + 1 : Nat) : Int)
      omega
    · exact bmP_nn P k
def bsP (P : Nat → Int) : Nat → Int × Int
  | 0 => (-1, 0)
  | k + 1 => bmP P k
section
variable {d s : Nat} {T : Nat → Nat × Nat} {I J : Nat → Nat → Int} {R : Nat → Nat → Option Nat} {Q : Option AV → AH → Prop}
/-- the reference's tape -/
def vMd (I : Nat → Nat → Int) (i : Nat) : Int := I 162 i % 256
theorem p194a (hh : hp T R) {n S : Nat} {w : Int} (hb : ∀ i, i < 200 → -128 ≤ I 162 i ∧ I 162 i ≤ 127) (hn : n ≤ 200) (hS : I 152 1 = S) (hS6 : S ≤ 6) {lim : Int} (hl : lim = 2 ^ S) {l4 l5 l6 l7 : Option AV} (q0 : ¬ allL (vMd I) lim n → Q (some (.inl (-1))) (185, s, T, I, J, R)) (q1 : allL (vMd I) lim n → wp codeT mX d 194 39 [some (.inr (.inr (some 152))), some (.inl (n : Int)), some (.inl w), some (.inl (n : Int)), l4, l5, l6, l7] [] (185, s, T, I, J, R) Q) : ∀ (r i : Nat), i + r = n → allL (vMd I) lim i → wp codeT mX d 194 21 [some (.inr (.inr (some 152))), some (.inl (n : Int)), some (.inl w), some (.inl (i : Int)), l4, l5, l6, l7] [] (185, s, T, I, J, R) Q := by
  intro r
  induction r with
  | zero =>
    intro i hi ha
    have hi : i = n := by omega
    subst hi
    refine s194_21.mpr ?_
    simp only [s194_22, s194_23, Option.toList_some, Option.toList_none, List.cons_append, List.nil_append, Nat.le_refl, true_and, and_true, true_or, or_true, false_or, or_false, true_implies, false_implies, implies_true, not_true_eq_false, not_false_eq_true, eq_self, Nat.reduceLT, Nat.reduceLeDiff, Nat.reduceEqDiff, Nat.reduceAdd, Nat.reduceSub, Int.reduceLT, Int.reduceLE, Int.reduceEq, Int.reduceNeg, Int.reduceNe, Int.reduceAdd, Int.reduceSub, Int.reduceMul, Int.reduceToNat, Int.toNat_zero, Int.toNat_one, Int.toNat_natCast, am_cats, am_cat, am_st1, am_st2, am_clr, up2_na, up2_nj, up2_same, List.getElem?_cons_zero, List.getElem?_cons_succ, List.set_cons_zero, List.set_cons_succ, ne_eq, Int.lt_irrefl]
    exact q1 ha
  | succ r ih =>
    intro i hi ha
    have u1 : (i : Int) < (n : Int) := by omega
    have u2 : 0 ≤ (i : Int) ∧ (i : Int) < ((200 : Nat) : Int) := by omega
    have o6 : (i : Int) + 1 = ((i + 1 : Nat) : Int) := by omega
    have o7 : i + 1 ≤ 2000000000 := by omega
    have i200 : i < 200 := by omega
    have S31 : S < 31 := by omega
    have hi1 : i + 1 + r = n := by omega
    have hin : i < n := by omega
    have hq1 : ∀ q, q < i + 1 → ¬ q = i → q < i := fun q h1 h2 => by omega
    have ih2 := ih (i + 1) hi1
    have sh := shl1_all S S31
    rw [← hl] at sh
    have a2 := and255 (hb i i200).1 (hb i i200).2
    have v4 := w32_c o6 o7
    refine s194_21.mpr ?_
    by_cases hc : vMd I i < lim
    · have nx := ih2 (fun q hq => by
        by_cases e : q = i
        · rw [e]; exact hc
        · exact ha q (hq1 q hq e))
      unfold vMd at hc
      simp only [s194_22, s194_23, s194_24, s194_25, s194_26, s194_27, s194_28, s194_29, s194_30, s194_31, s194_32, s194_33, s194_34, s194_35, s194_36, s194_37, s194_38, Option.toList_some, Option.toList_none, List.cons_append, List.nil_append, Nat.le_refl, true_and, and_true, true_or, or_true, false_or, or_false, true_implies, false_implies, implies_true, not_true_eq_false, not_false_eq_true, eq_self, Nat.reduceLT, Nat.reduceLeDiff, Nat.reduceEqDiff, Nat.reduceAdd, Nat.reduceSub, Int.reduceLT, Int.reduceLE, Int.reduceEq, Int.reduceNeg, Int.reduceNe, Int.reduceAdd, Int.reduceSub, Int.reduceMul, Int.reduceToNat, Int.toNat_zero, Int.toNat_one, Int.toNat_natCast, am_cats, am_cat, am_st1, am_st2, am_clr, up2_na, up2_nj, up2_same, List.getElem?_cons_zero, List.getElem?_cons_succ, List.set_cons_zero, List.set_cons_succ, ne_eq, tk_152 hh, tk_162 hh, rk_152_16 hh, hS, sh, a2, u1, u2, v4, hc]
      exact nx
    · have q0 := q0 (fun z => hc (z i hin))
      unfold vMd at hc
      simp only [s194_22, s194_23, s194_24, s194_25, s194_26, s194_27, s194_28, s194_29, s194_30, s194_31, s194_32, s194_33, s194_34, s194_35, s194_36, Option.toList_some, Option.toList_none, List.cons_append, List.nil_append, Nat.le_refl, true_and, and_true, true_or, or_true, false_or, or_false, true_implies, false_implies, implies_true, not_true_eq_false, not_false_eq_true, eq_self, Nat.reduceLT, Nat.reduceLeDiff, Nat.reduceEqDiff, Nat.reduceAdd, Nat.reduceSub, Int.reduceLT, Int.reduceLE, Int.reduceEq, Int.reduceNeg, Int.reduceNe, Int.reduceAdd, Int.reduceSub, Int.reduceMul, Int.reduceToNat, Int.toNat_zero, Int.toNat_one, Int.toNat_natCast, am_cats, am_cat, am_st1, am_st2, am_clr, up2_na, up2_nj, up2_same, List.getElem?_cons_zero, List.getElem?_cons_succ, List.set_cons_zero, List.set_cons_succ, ne_eq, tk_152 hh, tk_162 hh, rk_152_16 hh, hS, sh, a2, u1, u2, hc]
      exact q0
/-- the sum over the guesses -/
theorem p194b (hh : hp T R) {n t : Nat} {w b m : Int} (hb : ∀ i, i < 200 → -128 ≤ I 162 i ∧ I 162 i ≤ 127) (hn : n ≤ 6) (t8 : t < 8) (hQ : wp codeT mX (d + 2) 194 70 [some (.inr (.inr (some 152))), some (.inl (n : Int)), some (.inl w), some (.inl b), some (.inl m), some (.inl (t : Int)), some (.inl (swf (fun i => dwF (I 155 t) (useB I t) (vMd I i)) n)), some (.inl (n : Int))] [] (185, s, T, I, J, R) Q) : ∀ (r i : Nat), i + r = n → wp codeT mX (d + 2) 194 53 [some (.inr (.inr (some 152))), some (.inl (n : Int)), some (.inl w), some (.inl b), some (.inl m), some (.inl (t : Int)), some (.inl (swf (fun i => dwF (I 155 t) (useB I t) (vMd I i)) i)), some (.inl (i : Int))] [] (185, s, T, I, J, R) Q := by
  intro r
  induction r with
  | zero =>
    intro i hi
    have hi : i = n := by omega
    subst hi
    refine s194_53.mpr ?_
    simp only [s194_54, s194_55, Option.toList_some, Option.toList_none, List.cons_append, List.nil_append, Nat.le_refl, true_and, and_true, true_or, or_true, false_or, or_false, true_implies, false_implies, implies_true, not_true_eq_false, not_false_eq_true, eq_self, Nat.reduceLT, Nat.reduceLeDiff, Nat.reduceEqDiff, Nat.reduceAdd, Nat.reduceSub, Int.reduceLT, Int.reduceLE, Int.reduceEq, Int.reduceNeg, Int.reduceNe, Int.reduceAdd, Int.reduceSub, Int.reduceMul, Int.reduceToNat, Int.toNat_zero, Int.toNat_one, Int.toNat_natCast, am_cats, am_cat, am_st1, am_st2, am_clr, up2_na, up2_nj, up2_same, List.getElem?_cons_zero, List.getElem?_cons_succ, List.set_cons_zero, List.set_cons_succ, ne_eq, Int.lt_irrefl]
    exact hQ
  | succ r ih =>
    intro i hi
    have nx := ih (i + 1) (by omega)
    have u1 : (i : Int) < (n : Int) := by omega
    have u2 : 0 ≤ (i : Int) ∧ (i : Int) < ((200 : Nat) : Int) := by omega
    have o6 : (i : Int) + 1 = ((i + 1 : Nat) : Int) := by omega
    have o7 : i + 1 ≤ 2000000000 := by omega
    have a2 := and255 (hb i (by omega)).1 (hb i (by omega)).2
    have bb := swf_bd (f := fun j => dwF (I 155 t) (useB I t) (vMd I j)) (fun j => dwF_01 _ _ _) i
    have e : swf (fun j => dwF (I 155 t) (useB I t) (vMd I j)) (i + 1) = swf (fun j => dwF (I 155 t) (useB I t) (vMd I j)) i + dwF (I 155 t) (useB I t) (I 162 i % 256) := rfl
    rw [e] at nx
    clear hQ
    generalize swf (fun j => dwF (I 155 t) (useB I t) (vMd I j)) i = a at *
    have i6 : i < 6 := by omega
    have e2 : w32 (a + dwF (I 155 t) (useB I t) (I 162 i % 256)) = a + dwF (I 155 t) (useB I t) (I 162 i % 256) := by
      rcases dwF_01 (I 155 t) (useB I t) (I 162 i % 256) with hw | hw <;> rw [hw] <;> exact w32_eq (by omega) (by omega)
    have v4 := w32_c o6 o7
    refine s194_53.mpr ?_
    simp only [s194_54, s194_55, s194_56, s194_57, s194_58, s194_59, s194_60, s194_61, s194_62, s194_63, s194_64, s194_65, s194_66, s194_67, s194_68, s194_69, Option.toList_some, Option.toList_none, List.cons_append, List.nil_append, Nat.le_refl, true_and, and_true, true_or, or_true, false_or, or_false, true_implies, false_implies, implies_true, not_true_eq_false, not_false_eq_true, eq_self, Nat.reduceLT, Nat.reduceLeDiff, Nat.reduceEqDiff, Nat.reduceAdd, Nat.reduceSub, Int.reduceLT, Int.reduceLE, Int.reduceEq, Int.reduceNeg, Int.reduceNe, Int.reduceAdd, Int.reduceSub, Int.reduceMul, Int.reduceToNat, Int.toNat_zero, Int.toNat_one, Int.toNat_natCast, am_cats, am_cat, am_st1, am_st2, am_clr, up2_na, up2_nj, up2_same, List.getElem?_cons_zero, List.getElem?_cons_succ, List.set_cons_zero, List.set_cons_succ, ne_eq, tk_152 hh, tk_162 hh, rk_152_16 hh, k191 hh t8, a2, u1, u2, v4, e2]
    exact nx
theorem p194c (hh : hp T R) {n N : Nat} {w : Int} (hb : ∀ i, i < 200 → -128 ≤ I 162 i ∧ I 162 i ≤ 127) (hn : n ≤ 6) (hN : I 152 3 = N) (hN8 : N ≤ 8) (hQ : Q (some (.inl (nxA w N (ppM I n)))) (185, s, T, I, J, R)) : ∀ (r k : Nat), k + r = N → ∀ l6 l7, wp codeT mX (d + 2) 194 45 [some (.inr (.inr (some 152))), some (.inl (n : Int)), some (.inl w), some (.inl (bsP (ppM I n) k).1), some (.inl (bsP (ppM I n) k).2), some (.inl (k : Int)), l6, l7] [] (185, s, T, I, J, R) Q := by
  intro r
  induction r with
  | zero =>
    intro k hk l6 l7
    have hk : k = N := by omega
    subst hk
    refine s194_45.mpr ?_
    match k, hQ, hN with
    | 0, hQ, hN =>
      have hQ' : Q (some (.inl (-2))) (185, s, T, I, J, R) := hQ
      simp only [s194_46, s194_47, s194_48, s194_91, s194_92, s194_93, s194_94, s194_95, s194_96, s194_97, s194_98, s194_99, s194_100, s194_101, Option.toList_some, Option.toList_none, List.cons_append, List.nil_append, Nat.le_refl, true_and, and_true, true_or, or_true, false_or, or_false, true_implies, false_implies, implies_true, not_true_eq_false, not_false_eq_true, eq_self, Nat.reduceLT, Nat.reduceLeDiff, Nat.reduceEqDiff, Nat.reduceAdd, Nat.reduceSub, Int.reduceLT, Int.reduceLE, Int.reduceEq, Int.reduceNeg, Int.reduceNe, Int.reduceAdd, Int.reduceSub, Int.reduceMul, Int.reduceToNat, Int.toNat_zero, Int.toNat_one, Int.toNat_natCast, am_cats, am_cat, am_st1, am_st2, am_clr, up2_na, up2_nj, up2_same, List.getElem?_cons_zero, List.getElem?_cons_succ, List.set_cons_zero, List.set_cons_succ, ne_eq, tk_152 hh, hN, bsP, Int.lt_irrefl]
      exact hQ'
    | k + 1, hQ, hN =>
      have hQ' : Q (some (.inl (if w = 0 then (bmP (ppM I n) k).1 else (bmP (ppM I n) k).2))) (185, s, T, I, J, R) := hQ
      have nn := bmP_nn (ppM I n) k
      have n1 : ¬ (bmP (ppM I n) k).1 = -1 := by omega
      simp only [s194_46, s194_47, s194_48, s194_91, s194_92, s194_93, s194_94, s194_95, s194_96, s194_97, s194_98, s194_99, s194_100, s194_101, Option.toList_some, Option.toList_none, List.cons_append, List.nil_append, Nat.le_refl, true_and, and_true, true_or, or_true, false_or, or_false, true_implies, false_implies, implies_true, not_true_eq_false, not_false_eq_true, eq_self, Nat.reduceLT, Nat.reduceLeDiff, Nat.reduceEqDiff, Nat.reduceAdd, Nat.reduceSub, Int.reduceLT, Int.reduceLE, Int.reduceEq, Int.reduceNeg, Int.reduceNe, Int.reduceAdd, Int.reduceSub, Int.reduceMul, Int.reduceToNat, Int.toNat_zero, Int.toNat_one, Int.toNat_natCast, am_cats, am_cat, am_st1, am_st2, am_clr, up2_na, up2_nj, up2_same, List.getElem?_cons_zero, List.getElem?_cons_succ, List.set_cons_zero, List.set_cons_succ, ne_eq, tk_152 hh, hN, bsP, Int.lt_irrefl, n1]
      refine ⟨fun h => ?_, fun h => ?_⟩
      · rw [if_pos h] at hQ'; exact hQ'
      · rw [if_neg h] at hQ'; exact hQ'
  | succ r ih =>
    intro k hk l6 l7
    have k8 : k < 8 := by omega
    have u1 : (k : Int) < (N : Int) := by omega
    have o6 : (k : Int) + 1 = ((k + 1 : Nat) : Int) := by omega
    have o7 : k + 1 ≤ 2000000000 := by omega
    have nx := ih (k + 1) (by omega)
    have bb := swf_bd (f := fun j => dwF (I 155 k) (useB I k) (vMd I j)) (fun j => dwF_01 _ _ _) n
    have pb := pp_bd bb.1 bb.2 (show (n : Int) ≤ 6 by omega)
    have eP : ppM I n k = swf (fun j => dwF (I 155 k) (useB I k) (vMd I j)) n * ((n : Int) - swf (fun j => dwF (I 155 k) (useB I k) (vMd I j)) n) := rfl
    have e1 : w32 ((n : Int) - swf (fun j => dwF (I 155 k) (useB I k) (vMd I j)) n) = (n : Int) - swf (fun j => dwF (I 155 k) (useB I k) (vMd I j)) n := w32_eq (by omega) (by omega)
    have e2 : w32 (swf (fun j => dwF (I 155 k) (useB I k) (vMd I j)) n * ((n : Int) - swf (fun j => dwF (I 155 k) (useB I k) (vMd I j)) n)) = ppM I n k := (w32_eq (by omega) (by omega)).trans eP.symm
    have lp := p194b (d := d) (s := s) (J := J) (Q := Q) hh (t := k) (w := w) (b := (bsP (ppM I n) k).1) (m := (bsP (ppM I n) k).2) hb hn k8 (by
      have v4 := w32_c o6 o7
      refine s194_70.mpr ?_
      rcases k with _ | k
      · have e3 : ((0 : Nat) : Int) = 0 := rfl
        have v5 : w32 (0 + 1) = 1 := by decide
        simp only [s194_71, s194_72, s194_73, s194_74, s194_75, s194_76, s194_77, s194_78, s194_79, s194_80, s194_81, s194_82, s194_83, s194_84, s194_85, s194_86, s194_87, s194_88, s194_89, s194_90, Option.toList_some, Option.toList_none, List.cons_append, List.nil_append, Nat.le_refl, true_and, and_true, true_or, or_true, false_or, or_false, true_implies, false_implies, implies_true, not_true_eq_false, not_false_eq_true, eq_self, Nat.reduceLT, Nat.reduceLeDiff, Nat.reduceEqDiff, Nat.reduceAdd, Nat.reduceSub, Int.reduceLT, Int.reduceLE, Int.reduceEq, Int.reduceNeg, Int.reduceNe, Int.reduceAdd, Int.reduceSub, Int.reduceMul, Int.reduceToNat, Int.toNat_zero, Int.toNat_one, Int.toNat_natCast, am_cats, am_cat, am_st1, am_st2, am_clr, up2_na, up2_nj, up2_same, List.getElem?_cons_zero, List.getElem?_cons_succ, List.set_cons_zero, List.set_cons_succ, ne_eq, bsP, e1, e2, v4]
        exact nx _ _
      · have nn := bmP_nn (ppM I n) k
        have n1 : ¬ (bmP (ppM I n) k).1 = -1 := by omega
        have e : bmP (ppM I n) (k + 1) = if (bmP (ppM I n) k).2 < ppM I n (k + 1) then (((k + 1 : Nat) : Int), ppM I n (k + 1)) else bmP (ppM I n) k := rfl
        by_cases hc : (bmP (ppM I n) k).2 < ppM I n (k + 1)
        · rw [if_pos hc] at e
          have nx := nx (some (.inl (swf (fun i => dwF (I 155 (k + 1)) (useB I (k + 1)) (vMd I i)) n))) (some (.inl (n : Int)))
          simp only [bsP] at nx
          rw [e] at nx
          simp only [s194_71, s194_72, s194_73, s194_74, s194_75, s194_76, s194_77, s194_78, s194_79, s194_80, s194_81, s194_82, s194_83, s194_84, s194_85, s194_86, s194_87, s194_88, s194_89, s194_90, Option.toList_some, Option.toList_none, List.cons_append, List.nil_append, Nat.le_refl, true_and, and_true, true_or, or_true, false_or, or_false, true_implies, false_implies, implies_true, not_true_eq_false, not_false_eq_true, eq_self, Nat.reduceLT, Nat.reduceLeDiff, Nat.reduceEqDiff, Nat.reduceAdd, Nat.reduceSub, Int.reduceLT, Int.reduceLE, Int.reduceEq, Int.reduceNeg, Int.reduceNe, Int.reduceAdd, Int.reduceSub, Int.reduceMul, Int.reduceToNat, Int.toNat_zero, Int.toNat_one, Int.toNat_natCast, am_cats, am_cat, am_st1, am_st2, am_clr, up2_na, up2_nj, up2_same, List.getElem?_cons_zero, List.getElem?_cons_succ, List.set_cons_zero, List.set_cons_succ, ne_eq, bsP, e1, e2, v4, n1, hc]
          exact nx
        · rw [if_neg hc] at e
          have nx := nx (some (.inl (swf (fun i => dwF (I 155 (k + 1)) (useB I (k + 1)) (vMd I i)) n))) (some (.inl (n : Int)))
          simp only [bsP] at nx
          rw [e] at nx
          simp only [s194_71, s194_72, s194_73, s194_74, s194_75, s194_76, s194_77, s194_78, s194_79, s194_80, s194_81, s194_82, s194_83, s194_84, s194_85, s194_86, s194_87, s194_88, s194_89, s194_90, Option.toList_some, Option.toList_none, List.cons_append, List.nil_append, Nat.le_refl, true_and, and_true, true_or, or_true, false_or, or_false, true_implies, false_implies, implies_true, not_true_eq_false, not_false_eq_true, eq_self, Nat.reduceLT, Nat.reduceLeDiff, Nat.reduceEqDiff, Nat.reduceAdd, Nat.reduceSub, Int.reduceLT, Int.reduceLE, Int.reduceEq, Int.reduceNeg, Int.reduceNe, Int.reduceAdd, Int.reduceSub, Int.reduceMul, Int.reduceToNat, Int.toNat_zero, Int.toNat_one, Int.toNat_natCast, am_cats, am_cat, am_st1, am_st2, am_clr, up2_na, up2_nj, up2_same, List.getElem?_cons_zero, List.getElem?_cons_succ, List.set_cons_zero, List.set_cons_succ, ne_eq, bsP, e1, e2, v4, n1, hc]
          exact nx) n 0 (by omega)
    refine s194_45.mpr ?_
    simp only [s194_46, s194_47, s194_48, s194_49, s194_50, s194_51, s194_52, Option.toList_some, Option.toList_none, List.cons_append, List.nil_append, Nat.le_refl, true_and, and_true, true_or, or_true, false_or, or_false, true_implies, false_implies, implies_true, not_true_eq_false, not_false_eq_true, eq_self, Nat.reduceLT, Nat.reduceLeDiff, Nat.reduceEqDiff, Nat.reduceAdd, Nat.reduceSub, Int.reduceLT, Int.reduceLE, Int.reduceEq, Int.reduceNeg, Int.reduceNe, Int.reduceAdd, Int.reduceSub, Int.reduceMul, Int.reduceToNat, Int.toNat_zero, Int.toNat_one, Int.toNat_natCast, am_cats, am_cat, am_st1, am_st2, am_clr, up2_na, up2_nj, up2_same, List.getElem?_cons_zero, List.getElem?_cons_succ, List.set_cons_zero, List.set_cons_succ, ne_eq, tk_152 hh, hN, u1]
    exact lp
theorem x194 (hh : hp T R) {n S N : Nat} (hb : ∀ i, i < 200 → -128 ≤ I 162 i ∧ I 162 i ≤ 127) (hn : n ≤ 6) (n2 : 2 ≤ n) (hS : I 152 1 = S) (hS6 : S ≤ 6) (hN : I 152 3 = N) (hN8 : N ≤ 8) (h1 : (n : Int) ≤ I 152 17) {w : Int} (hw : 0 ≤ w ∧ w ≤ 1) (q0 : ¬ allL (vMd I) (2 ^ S) n → Q (some (.inl (-1))) (185, s, T, up2 I 152 17 0, J, R)) (q1 : allL (vMd I) (2 ^ S) n → Q (some (.inl (nxA w N (ppM I n)))) (185, s, T, up2 I 152 17 0, J, R)) : wpc codeT mX (d + 2) 194 [.inr (.inr (some 152)), .inl (n : Int), .inl w] (185, s, T, I, J, R) Q := by
  have u1 : 2 ≤ (n : Int) ∧ (n : Int) ≤ 6 ∧ ¬ I 152 17 < (n : Int) := by omega
  have eV : vMd (up2 I 152 17 0) = vMd I := by
    funext i
    unfold vMd
    rw [up2_na (by decide)]
  have eU : ∀ t, useB (up2 I 152 17 0) t = useB I t := fun t => by
    unfold useB
    rw [up2_na (by decide), up2_na (by decide), up2_na (by decide), up2_na (by decide), up2_na (by decide), up2_na (by decide)]
  have eP : ppM (up2 I 152 17 0) n = ppM I n := by
    funext t
    show swf (fun i => dwF (up2 I 152 17 0 155 t) (useB (up2 I 152 17 0) t) (vMd (up2 I 152 17 0) i)) n * ((n : Int) - swf (fun i => dwF (up2 I 152 17 0 155 t) (useB (up2 I 152 17 0) t) (vMd (up2 I 152 17 0) i)) n) = swf (fun i => dwF (I 155 t) (useB I t) (vMd I i)) n * ((n : Int) - swf (fun i => dwF (I 155 t) (useB I t) (vMd I i)) n)
    rw [eV, eU, show up2 I 152 17 0 155 t = I 155 t from up2_na (by decide)]
  have hb' : ∀ i, i < 200 → -128 ≤ up2 I 152 17 0 162 i ∧ up2 I 152 17 0 162 i ≤ 127 := fun i hi => by rw [up2_na (by decide)]; exact hb i hi
  have lp := p194a (n := n) (d := d + 2) (s := s) (J := J) (Q := Q) (I := up2 I 152 17 0) (w := w) (l4 := none) (l5 := none) (l6 := none) (l7 := none) hh hb' (by omega) ((up2_nj (by decide)).trans hS) hS6 (lim := 2 ^ S) rfl (by rw [eV]; exact q0) (by
    rw [eV]
    intro ha
    have := p194c (d := d) (s := s) (J := J) (Q := Q) (I := up2 I 152 17 0) (w := w) hh hb' hn ((up2_nj (by decide)).trans hN) hN8 (by rw [eP]; exact q1 ha) N 0 (by omega) none none
    refine s194_39.mpr ?_
    simp only [s194_40, s194_41, s194_42, s194_43, s194_44, Option.toList_some, Option.toList_none, List.cons_append, List.nil_append, Nat.le_refl, true_and, and_true, true_or, or_true, false_or, or_false, true_implies, false_implies, implies_true, not_true_eq_false, not_false_eq_true, eq_self, Nat.reduceLT, Nat.reduceLeDiff, Nat.reduceEqDiff, Nat.reduceAdd, Nat.reduceSub, Int.reduceLT, Int.reduceLE, Int.reduceEq, Int.reduceNeg, Int.reduceNe, Int.reduceAdd, Int.reduceSub, Int.reduceMul, Int.reduceToNat, Int.toNat_zero, Int.toNat_one, Int.toNat_natCast, am_cats, am_cat, am_st1, am_st2, am_clr, up2_na, up2_nj, up2_same, List.getElem?_cons_zero, List.getElem?_cons_succ, List.set_cons_zero, List.set_cons_succ, ne_eq]
    exact this) n 0 (by omega) (fun q hq => absurd hq (Nat.not_lt_zero q))
  simp only [s194_0, s194_1, s194_2, s194_3, s194_4, s194_5, s194_6, s194_7, s194_8, s194_9, s194_10, s194_11, s194_12, s194_13, s194_14, s194_15, s194_16, s194_17, s194_18, s194_19, s194_20, e194, Option.toList_some, Option.toList_none, List.cons_append, List.nil_append, Nat.le_refl, true_and, and_true, true_or, or_true, false_or, or_false, true_implies, false_implies, implies_true, not_true_eq_false, not_false_eq_true, eq_self, Nat.reduceLT, Nat.reduceLeDiff, Nat.reduceEqDiff, Nat.reduceAdd, Nat.reduceSub, Int.reduceLT, Int.reduceLE, Int.reduceEq, Int.reduceNeg, Int.reduceNe, Int.reduceAdd, Int.reduceSub, Int.reduceMul, Int.reduceToNat, Int.toNat_zero, Int.toNat_one, Int.toNat_natCast, am_cats, am_cat, am_st1, am_st2, am_clr, up2_na, up2_nj, up2_same, List.getElem?_cons_zero, List.getElem?_cons_succ, List.set_cons_zero, List.set_cons_succ, ne_eq, tk_152 hh, k136, i10, u1, hw]
  exact lp
end
section
variable {L s d : Nat} {X : Nat → Int}
theorem pr_next (hL : L ≤ 3072) (hX : ∀ j, rg32 (X j)) (hd : 40 ≤ d) {cmp : Bool} : pr L X s LKP d 103 194 2 false cmp := by
  refine pr_mk (cx := cn113) (cm := cn161) (nx := 4) (nm := 5) hL hX (cn_all 113 (by decide) cn113 rfl) (cn_all 161 (by decide) cn161 rfl) rfl hd (fun as g hl hr hH hs hP => ?_)
  obtain ⟨a, b, rfl⟩ := len2 hl
  obtain ⟨c, s, T, I, J, R⟩ := g
  obtain ⟨d, rfl⟩ : ∃ e, d = e + 2 := ⟨d - 2, by omega⟩
  have hc : c = 185 := hH.1
  subst hc
  have hh := hp_of (eH5_of hH)
  have hP : LK I := hP
  obtain ⟨l0, l1, l2, l3, l4, l5, l6, l7, l8, l9, l10, l11, l12, l13, l14, l15⟩ := hP
  have e1 : I 0 1 = I 152 1 := l1
  have e3 : I 3 3 = I 152 3 := l5
  have e8 : I 1 1 = I 152 17 := l8
  have b1 : 0 ≤ I 0 1 ∧ I 0 1 ≤ 6 := ebd hH (by decide) (by decide) (by decide)
  have b3 : 0 ≤ I 3 3 ∧ I 3 3 ≤ 8 := ebd hH (by decide) (by decide) (by decide)
  have hb : ∀ i, i < 200 → -128 ≤ I 162 i ∧ I 162 i ≤ 127 := fun i hi => ebd hH (by decide) hi ((bI_hi (by decide)).trans (by decide))
  show wpc codeT mX (d + 2) 103 [.inr (.inr (some 0)), .inl a, .inl b] _ _
  by_cases hg : (2 ≤ a ∧ a ≤ 6) ∧ (0 ≤ b ∧ b ≤ 1) ∧ a ≤ I 1 1
  · obtain ⟨g1, g2, g3⟩ := hg
    obtain ⟨n, rfl⟩ : ∃ n : Nat, a = n := ⟨a.toNat, by omega⟩
    obtain ⟨N, hN⟩ : ∃ n : Nat, I 3 3 = n := ⟨(I 3 3).toNat, by omega⟩
    obtain ⟨S, hS⟩ : ∃ n : Nat, I 0 1 = n := ⟨(I 0 1).toNat, by omega⟩
    have n6 : n ≤ 6 := by omega
    have n2 : 2 ≤ n := by omega
    have N8 : N ≤ 8 := by omega
    have S6 : S ≤ 6 := by omega
    have hNm : up2 I 1 1 0 152 3 = N := (up2_na (by decide)).trans (e3.symm.trans hN)
    have hSm : up2 I 1 1 0 152 1 = S := (up2_na (by decide)).trans (e1.symm.trans hS)
    have h17 : (n : Int) ≤ up2 I 1 1 0 152 17 := by rw [up2_na (by decide), ← e8]; exact g3
    have hb' : ∀ i, i < 200 → -128 ≤ up2 I 1 1 0 162 i ∧ up2 I 1 1 0 162 i ≤ 127 := fun i hi => by rw [up2_na (by decide)]; exact hb i hi
    have eV : ∀ i, i < n → I 2 i = vMd (up2 I 1 1 0) i := fun i hi => by
      show I 2 i = up2 I 1 1 0 162 i % 256
      rw [up2_na (by decide)]
      exact l9 i (by omega)
    have eA : allL (vMd (up2 I 1 1 0)) (2 ^ S) n ↔ allL (I 2) (2 ^ S) n := ⟨fun h i hi => by rw [eV i hi]; exact h i hi, fun h i hi => by rw [← eV i hi]; exact h i hi⟩
    have eU : ∀ t, useB (up2 I 1 1 0) t = useB I t := fun t => by
      unfold useB
      rw [up2_na (by decide), up2_na (by decide), up2_na (by decide), up2_na (by decide), up2_na (by decide), up2_na (by decide)]
    have eP : ∀ t, t < N → ppX I n t = ppM (up2 I 1 1 0) n t := fun t ht => by
      have ht2 := l11.1 t (by omega) (by omega)
      have : swf (fun i => dwF (I 13 t) (I 15 t) (I 2 i)) n = swf (fun i => dwF (up2 I 1 1 0 155 t) (useB (up2 I 1 1 0) t) (vMd (up2 I 1 1 0) i)) n := swf_eq n (fun i hi => by
        rw [eV i hi, eU, ht2.1, ht2.2.2.2.2.2.2.1, show up2 I 1 1 0 155 t = I 155 t from up2_na (by decide)])
      show swf (fun i => dwF (I 13 t) (I 15 t) (I 2 i)) n * ((n : Int) - swf (fun i => dwF (I 13 t) (I 15 t) (I 2 i)) n) = swf (fun i => dwF (up2 I 1 1 0 155 t) (useB (up2 I 1 1 0) t) (vMd (up2 I 1 1 0) i)) n * ((n : Int) - swf (fun i => dwF (up2 I 1 1 0 155 t) (useB (up2 I 1 1 0) t) (vMd (up2 I 1 1 0) i)) n)
      rw [this]
    have eN : nxA b N (ppX I n) = nxA b N (ppM (up2 I 1 1 0) n) := by
      unfold nxA
      by_cases h0 : N = 0
      · rw [if_pos h0, if_pos h0]
      · rw [if_neg h0, if_neg h0, bmP_eq (N - 1) (fun i hi => eP i (by omega))]
    have n8 : twn 1 1 152 17 (up2 (up2 I 1 1 0) 152 17 0) := by
      unfold twn
      rw [up2_same, up2_na (by decide), up2_same]
    have n9 : lkY (up2 (up2 I 1 1 0) 152 17 0) := by
      intro j hj
      rw [up2_na (by decide), up2_same] at hj
      omega
    refine x103 hh n6 n2 hS S6 hN N8 g3 g2 (fun ha _ hH1 m1 s1 => ⟨_, rfl, ?_⟩) (fun ha _ hH1 m1 s1 => ⟨_, rfl, ?_⟩)
    · show wpc codeT mX (d + 2) 194 [.inr (.inr (some 152)), .inl (n : Int), .inl b] (185, s, T, up2 I 1 1 0, J, R) _
      refine x194 hh hb' n6 n2 hSm S6 hNm N8 h17 g2 (fun _ _ hH2 m2 => ⟨_, rfl, fun _ => rfl, ?_⟩) (fun h => absurd (eA.mp h) ha)
      refine ⟨rdS_2 (twn_S 0 0 152 0) (by decide +kernel : (disj cn113.2.2.2.1 _ && disj cn161.2.2.2.1 _) = true) m1 m2 l0, rdS_2 (twn_S 0 1 152 1) (by decide +kernel : (disj cn113.2.2.2.1 _ && disj cn161.2.2.2.1 _) = true) m1 m2 l1, rdS_2 (twn_S 0 2 152 2) (by decide +kernel : (disj cn113.2.2.2.1 _ && disj cn161.2.2.2.1 _) = true) m1 m2 l2, rdS_2 (twn_S 0 3 152 5) (by decide +kernel : (disj cn113.2.2.2.1 _ && disj cn161.2.2.2.1 _) = true) m1 m2 l3, rdS_2 (twn_S 0 4 152 6) (by decide +kernel : (disj cn113.2.2.2.1 _ && disj cn161.2.2.2.1 _) = true) m1 m2 l4, rdS_2 (twn_S 3 3 152 3) (by decide +kernel : (disj cn113.2.2.2.1 _ && disj cn161.2.2.2.1 _) = true) m1 m2 l5, rdS_2 (twn_S 17 3 152 4) (by decide +kernel : (disj cn113.2.2.2.1 _ && disj cn161.2.2.2.1 _) = true) m1 m2 l6, rdS_2 (twn_S 102 3 152 46) (by decide +kernel : (disj cn113.2.2.2.1 _ && disj cn161.2.2.2.1 _) = true) m1 m2 l7, ?_, ?_, rdS_2 (lkS_S) (by decide +kernel : (disj cn113.2.2.2.1 _ && disj cn161.2.2.2.1 _) = true) m1 m2 l10, rdS_2 (lkT_S) (by decide +kernel : (disj cn113.2.2.2.1 _ && disj cn161.2.2.2.1 _) = true) m1 m2 l11, rdS_2 (lkB_S) (by decide +kernel : (disj cn113.2.2.2.1 _ && disj cn161.2.2.2.1 _) = true) m1 m2 l12, rdS_2 (lkO_S) (by decide +kernel : (disj cn113.2.2.2.1 _ && disj cn161.2.2.2.1 _) = true) m1 m2 l13, rdS_2 (lkC_S) (by decide +kernel : (disj cn113.2.2.2.1 _ && disj cn161.2.2.2.1 _) = true) m1 m2 l14, rdS_2 (lkQ_S) (by decide +kernel : (disj cn113.2.2.2.1 _ && disj cn161.2.2.2.1 _) = true) m1 m2 l15⟩
      · exact n8
      · exact n9
    · show wpc codeT mX (d + 2) 194 [.inr (.inr (some 152)), .inl (n : Int), .inl b] (185, s, T, up2 I 1 1 0, J, R) _
      refine x194 hh hb' n6 n2 hSm S6 hNm N8 h17 g2 (fun h => absurd (eA.mpr ha) h) (fun _ _ hH2 m2 => ⟨_, rfl, fun _ => eN, ?_⟩)
      refine ⟨rdS_2 (twn_S 0 0 152 0) (by decide +kernel : (disj cn113.2.2.2.1 _ && disj cn161.2.2.2.1 _) = true) m1 m2 l0, rdS_2 (twn_S 0 1 152 1) (by decide +kernel : (disj cn113.2.2.2.1 _ && disj cn161.2.2.2.1 _) = true) m1 m2 l1, rdS_2 (twn_S 0 2 152 2) (by decide +kernel : (disj cn113.2.2.2.1 _ && disj cn161.2.2.2.1 _) = true) m1 m2 l2, rdS_2 (twn_S 0 3 152 5) (by decide +kernel : (disj cn113.2.2.2.1 _ && disj cn161.2.2.2.1 _) = true) m1 m2 l3, rdS_2 (twn_S 0 4 152 6) (by decide +kernel : (disj cn113.2.2.2.1 _ && disj cn161.2.2.2.1 _) = true) m1 m2 l4, rdS_2 (twn_S 3 3 152 3) (by decide +kernel : (disj cn113.2.2.2.1 _ && disj cn161.2.2.2.1 _) = true) m1 m2 l5, rdS_2 (twn_S 17 3 152 4) (by decide +kernel : (disj cn113.2.2.2.1 _ && disj cn161.2.2.2.1 _) = true) m1 m2 l6, rdS_2 (twn_S 102 3 152 46) (by decide +kernel : (disj cn113.2.2.2.1 _ && disj cn161.2.2.2.1 _) = true) m1 m2 l7, ?_, ?_, rdS_2 (lkS_S) (by decide +kernel : (disj cn113.2.2.2.1 _ && disj cn161.2.2.2.1 _) = true) m1 m2 l10, rdS_2 (lkT_S) (by decide +kernel : (disj cn113.2.2.2.1 _ && disj cn161.2.2.2.1 _) = true) m1 m2 l11, rdS_2 (lkB_S) (by decide +kernel : (disj cn113.2.2.2.1 _ && disj cn161.2.2.2.1 _) = true) m1 m2 l12, rdS_2 (lkO_S) (by decide +kernel : (disj cn113.2.2.2.1 _ && disj cn161.2.2.2.1 _) = true) m1 m2 l13, rdS_2 (lkC_S) (by decide +kernel : (disj cn113.2.2.2.1 _ && disj cn161.2.2.2.1 _) = true) m1 m2 l14, rdS_2 (lkQ_S) (by decide +kernel : (disj cn113.2.2.2.1 _ && disj cn161.2.2.2.1 _) = true) m1 m2 l15⟩
      · exact n8
      · exact n9
  · have hg2 : ¬ ((2 ≤ a ∧ a ≤ 6) ∧ (0 ≤ b ∧ b ≤ 1) ∧ a ≤ I 152 17) := by rw [← e8]; exact hg
    have fin : ∀ Q : Option AV → AH → Prop, Q (some (.inl (-1))) (185, s, T, I, J, R) → wpc codeT mX (d + 2) 194 [.inr (.inr (some 152)), .inl a, .inl b] (185, s, T, I, J, R) Q := by
      intro Q hQ
      simp only [s194_0, s194_1, s194_2, s194_3, s194_4, s194_5, s194_6, s194_7, s194_8, s194_9, s194_10, s194_11, s194_12, s194_13, s194_14, s194_15, e194, Option.toList_some, Option.toList_none, List.cons_append, List.nil_append, Nat.le_refl, true_and, and_true, true_or, or_true, false_or, or_false, true_implies, false_implies, implies_true, not_true_eq_false, not_false_eq_true, eq_self, Nat.reduceLT, Nat.reduceLeDiff, Nat.reduceEqDiff, Nat.reduceAdd, Nat.reduceSub, Int.reduceLT, Int.reduceLE, Int.reduceEq, Int.reduceNeg, Int.reduceNe, Int.reduceAdd, Int.reduceSub, Int.reduceMul, Int.reduceToNat, Int.toNat_zero, Int.toNat_one, Int.toNat_natCast, am_cats, am_cat, am_st1, am_st2, am_clr, up2_na, up2_nj, up2_same, List.getElem?_cons_zero, List.getElem?_cons_succ, List.set_cons_zero, List.set_cons_succ, ne_eq, tk_152 hh, k136, i10, Classical.not_not]
      exact ⟨fun _ => hQ, fun q1 => ⟨fun _ => hQ, fun q2 => ⟨fun _ => hQ, fun q3 => absurd ⟨q1, q2, by omega⟩ hg2⟩⟩⟩
    have go : ∀ Q : Option AV → AH → Prop, Q (some (.inl (-1))) (185, s, T, I, J, R) → wpc codeT mX (d + 2) 103 [.inr (.inr (some 0)), .inl a, .inl b] (185, s, T, I, J, R) Q := by
      intro Q hQ
      simp only [s103_0, s103_1, s103_2, s103_3, s103_4, s103_5, s103_6, s103_7, s103_8, s103_9, s103_10, s103_11, s103_12, s103_13, s103_14, s103_15, s103_16, e103, Option.toList_some, Option.toList_none, List.cons_append, List.nil_append, Nat.le_refl, true_and, and_true, true_or, or_true, false_or, or_false, true_implies, false_implies, implies_true, not_true_eq_false, not_false_eq_true, eq_self, Nat.reduceLT, Nat.reduceLeDiff, Nat.reduceEqDiff, Nat.reduceAdd, Nat.reduceSub, Int.reduceLT, Int.reduceLE, Int.reduceEq, Int.reduceNeg, Int.reduceNe, Int.reduceAdd, Int.reduceSub, Int.reduceMul, Int.reduceToNat, Int.toNat_zero, Int.toNat_one, Int.toNat_natCast, am_cats, am_cat, am_st1, am_st2, am_clr, up2_na, up2_nj, up2_same, List.getElem?_cons_zero, List.getElem?_cons_succ, List.set_cons_zero, List.set_cons_succ, ne_eq, tk_0 hh, tk_1 hh, rk_0_5 hh, k18, i10, Classical.not_not]
      exact ⟨fun _ => hQ, fun q1 => ⟨fun _ => hQ, fun q2 => ⟨fun _ => hQ, fun q3 => absurd ⟨q1, q2, by omega⟩ hg⟩⟩⟩
    exact go _ (fun _ hH1 m1 s1 => ⟨-1, rfl, fin _ (fun _ hH2 m2 => ⟨-1, rfl, fun _ => rfl, l0, l1, l2, l3, l4, l5, l6, l7, l8, l9, l10, l11, l12, l13, l14, l15⟩)⟩)
end
