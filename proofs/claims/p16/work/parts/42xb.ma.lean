/-! the law's two readers, 10: the reference's clauses and texts -/
def cnS (sg : Nat → Int) (p n : Nat) : RR := if sg p = 40 then rend 41 sg (prsS sg 2000 6 1 (p + 1) n) else rbad 1 p
section
variable {s L : Nat} {T : Nat → Nat × Nat} {I J : Nat → Nat → Int} {R : Nat → Nat → Option Nat} {fa sm : Int} {F H G : Nat → Int} {e r : Nat} {Q : Option AV → AH → Prop}
theorem m157 (hy : yHyp T R I L) {p n : Nat} {op wz nm : Int} {X W : Nat → Int} (hp : p ≤ L) (hn : n ≤ p) (hW : XB W) (hB : ∀ f, (cnS (hr I L) p n).1 = f → ¬ f = 0 → mBd s T I J R sm F H G Q f) (hO : (cnS (hr I L) p n).1 = 0 → ∀ (nm1 : Int) (X1 W1 : Nat → Int), (∀ j, j < n → X1 j = X j) → XB W1 → RB X1 n (cnS (hr I L) p n).2.2 → Q (some (.inl 1)) (185, s, T, pI I ((cnS (hr I L) p n).2.1 : Int) fa 0 ((n + (cnS (hr I L) p n).2.2.length : Nat) : Int) 0 sm nm1 X1 W1 F H G, J, R)) : wpc codeT mX (e + 6) 157 [.inr (.inr (some 152))] (185, s, T, pI I (p : Int) fa op (n : Int) wz sm nm X W F H G, J, R) Q := by
  obtain ⟨hh, hL, hL2, -⟩ := id hy
  have kh := k_here (J := J) (s := s) (mdl_hp hh) hL hL2 hp
  have p2 : p ≤ 160 := by omega
  unfold cnS at hB hO
  by_cases h40 : hr I L p = 40
  · have hpL : p < L := hr_w (I := I) (by rw [h40]; decide)
    rw [if_pos h40] at hB hO
    have c13 : cOp (sx W 0 (1048576 * 13) 0) = 13 := by rw [sx_s]; decide
    have nx := (j_all (s := s) (J := J) (fa := fa) (sm := sm) (F := F) (H := H) (G := G) (e := e) (Q := Q) hy 2000).2.2.1 1 (p + 1) n 1 X (sx W 0 (1048576 * 13)) nm (by decide) (by omega) (by omega) (by omega) (by omega) (Nat.le_refl _) (XB_sx hW (by unfold rg; decide)) (by show 11 ≤ cOp (sx W 0 (1048576 * 13) 0); rw [c13]; decide) (by show cOp (sx W 0 (1048576 * 13) 0) ≠ 11; rw [c13]; decide) (Or.inr (by show cOp (sx W 0 (1048576 * 13) 0) ≠ 12; rw [c13]; decide)) (fun f hf hz => by
      have hne : ¬ (prsS (hr I L) 2000 6 1 (p + 1) n).1 = 0 := by rw [hf]; exact hz
      exact hB f (by unfold rend; rw [if_neg hne]; exact hf) hz) (fun hz nm1 n1 w1 X1 W1 qo qa g0 g1 g2 g3 g4 g5 => by
      obtain ⟨en1, en2⟩ := end_6 2000 1 (p + 1) n hz
      obtain ⟨ad1, ad2, ad3⟩ := rd_adv (sg := hr I L) (L := L) hr_hs 2000 6 1 (p + 1) n (by omega) hz
      generalize prsS (hr I L) 2000 6 1 (p + 1) n = P at *
      obtain ⟨P1, p1, l⟩ := P
      have hz : P1 = 0 := hz
      subst hz
      have ad1 : p1 ≤ L := ad1
      have ad2 : p + 1 + l.length ≤ p1 := ad2
      have en1 : hr I L p1 ≠ 38 := en1
      have en2 : hr I L p1 ≠ 124 := en2
      have g1 : w1 ≤ p1 := g1
      have kh1 := k_here (J := J) (s := s) (mdl_hp hh) hL hL2 ad1
      obtain ⟨s1, s2, s3, s4, s5⟩ := id g5
      have s2 : n1 = n + l.length := s2
      have s5 : RB (ldJ 12 (ldJ 11 X1 qa n1) qo n1) n l := s5
      have W1c : cOp (W1 0) = 13 := by rw [g2 0 (by decide)]; exact c13
      show wp codeT mX (e + 6) 157 47 _ _ _ _
      refine s157_47.mpr ?_
      by_cases h41 : hr I L p1 = 41
      · have q1 : p1 < L := hr_w (I := I) (by rw [h41]; decide)
        have e1 : rend 41 (hr I L) ((0, p1, l) : RR) = (0, p1 + 1, l) := by
          show (if (0 : Int) = 0 then (if hr I L p1 = 41 then ((0, p1 + 1, l) : RR) else rbad 1 p1) else _) = _
          rw [if_pos rfl, if_pos h41]
        rw [e1] at hO
        simp only [s157_48, s157_49, s157_50, s157_51, s157_52, s157_53, Option.toList_some, Option.toList_none, List.cons_append, List.nil_append, Nat.le_refl, true_and, and_true, true_or, or_true, false_or, or_false, true_implies, false_implies, implies_true, not_true_eq_false, not_false_eq_true, eq_self, Nat.reduceLT, Nat.reduceLeDiff, Nat.reduceEqDiff, Nat.reduceAdd, Nat.reduceSub, Int.reduceLT, Int.reduceLE, Int.reduceEq, Int.reduceNeg, Int.reduceNe, Int.reduceAdd, Int.reduceSub, Int.reduceMul, Int.reduceToNat, Int.toNat_zero, Int.toNat_one, Int.toNat_natCast, am_cats, am_cat, am_st1, am_st2, am_clr, up2_na, up2_nj, up2_same, List.getElem?_cons_zero, List.getElem?_cons_succ, List.set_cons_zero, List.set_cons_succ, ne_eq, tk_152 hh, kh1, h41]
        refine m160 (w := 1) hh g3 (Or.inr rfl) g4 g5 (fun z => absurd z (by decide)) (by omega) (by omega) (by omega) (by show cOp (W1 0) ≠ 11; rw [W1c]; decide) (Or.inr (by show cOp (W1 0) ≠ 12; rw [W1c]; decide)) ⟨⟨Nat.le_refl _, Nat.le_refl _⟩, ?_⟩
        have ldn : ∀ j, j < n → ldJ 12 (ldJ 11 X1 qa n1) qo n1 j = X1 j := by
          intro j hj
          have a1 : ldJ 11 X1 qa n1 j = X1 j := by
            cases qa with
            | none => rfl
            | some q => exact sx_n (by have := (s4 q rfl).1; omega)
          cases qo with
          | none => exact a1
          | some q => exact (sx_n (by have := (s3 q rfl).1; omega)).trans a1
        have fin := hO rfl nm1 _ W1 (fun j hj => (ldn j hj).trans (s1 j hj)) g3 s5
        have fin : Q (some (.inl 1)) (185, s, T, pI I ((p1 + 1 : Nat) : Int) fa 0 ((n + l.length : Nat) : Int) 0 sm nm1 (ldJ 12 (ldJ 11 X1 qa n1) qo n1) W1 F H G, J, R) := fin
        rw [← s2] at fin
        have e11 : w32 (((1 : Nat) : Int) - 1) = 0 := by decide
        simp only [s157_54, s157_55, s157_56, s157_57, s157_58, s157_59, s157_60, s157_61, s157_62, s157_63, s157_64, s157_65, s157_66, s157_67, s157_68, s157_69, s157_70, s157_71, s157_72, s157_73, s157_74, s157_75, s157_76, Option.toList_some, Option.toList_none, List.cons_append, List.nil_append, Nat.le_refl, true_and, and_true, true_or, or_true, false_or, or_false, true_implies, false_implies, implies_true, not_true_eq_false, not_false_eq_true, eq_self, Nat.reduceLT, Nat.reduceLeDiff, Nat.reduceEqDiff, Nat.reduceAdd, Nat.reduceSub, Int.reduceLT, Int.reduceLE, Int.reduceEq, Int.reduceNeg, Int.reduceNe, Int.reduceAdd, Int.reduceSub, Int.reduceMul, Int.reduceToNat, Int.toNat_zero, Int.toNat_one, Int.toNat_natCast, am_cats, am_cat, am_st1, am_st2, am_clr, up2_na, up2_nj, up2_same, List.getElem?_cons_zero, List.getElem?_cons_succ, List.set_cons_zero, List.set_cons_succ, ne_eq, tk_152 hh, pI_18, pI_21, pI_23, pu_18, pu_21, pu_23, e11, w32_s (show p1 ≤ 1080 by clear e11; omega)]
        exact fin
      · have e1 : rend 41 (hr I L) ((0, p1, l) : RR) = rbad 1 p1 := by
          show (if (0 : Int) = 0 then (if hr I L p1 = 41 then ((0, p1 + 1, l) : RR) else rbad 1 p1) else _) = _
          rw [if_pos rfl, if_neg h41]
        rw [e1] at hB
        have fin := hB _ rfl (rbad_n (by decide)) p1 ((1 : Nat) : Int) n1 w1 nm1 X1 W1
        simp only [s157_48, s157_49, s157_50, s157_80, s157_81, s157_82, s157_83, s157_84, s157_85, s157_86, s157_87, s157_88, s157_89, s157_90, s157_91, s157_92, s157_93, Option.toList_some, Option.toList_none, List.cons_append, List.nil_append, Nat.le_refl, true_and, and_true, true_or, or_true, false_or, or_false, true_implies, false_implies, implies_true, not_true_eq_false, not_false_eq_true, eq_self, Nat.reduceLT, Nat.reduceLeDiff, Nat.reduceEqDiff, Nat.reduceAdd, Nat.reduceSub, Int.reduceLT, Int.reduceLE, Int.reduceEq, Int.reduceNeg, Int.reduceNe, Int.reduceAdd, Int.reduceSub, Int.reduceMul, Int.reduceToNat, Int.toNat_zero, Int.toNat_one, Int.toNat_natCast, am_cats, am_cat, am_st1, am_st2, am_clr, up2_na, up2_nj, up2_same, List.getElem?_cons_zero, List.getElem?_cons_succ, List.set_cons_zero, List.set_cons_succ, ne_eq, tk_152 hh, kh1, h41, en1, en2, pI_18, m145 hh (by decide : (1 : Int) ≤ 1 ∧ (1 : Int) ≤ 9) (show p1 ≤ 160 by omega)]
        exact fin)
    simp only [s157_0, s157_1, s157_2, s157_3, s157_10, s157_11, s157_12, s157_13, s157_14, s157_15, s157_16, s157_17, s157_18, s157_19, e157, Option.toList_some, Option.toList_none, List.cons_append, List.nil_append, Nat.le_refl, true_and, and_true, true_or, or_true, false_or, or_false, true_implies, false_implies, implies_true, not_true_eq_false, not_false_eq_true, eq_self, Nat.reduceLT, Nat.reduceLeDiff, Nat.reduceEqDiff, Nat.reduceAdd, Nat.reduceSub, Int.reduceLT, Int.reduceLE, Int.reduceEq, Int.reduceNeg, Int.reduceNe, Int.reduceAdd, Int.reduceSub, Int.reduceMul, Int.reduceToNat, Int.toNat_zero, Int.toNat_one, Int.toNat_natCast, am_cats, am_cat, am_st1, am_st2, am_clr, up2_na, up2_nj, up2_same, List.getElem?_cons_zero, List.getElem?_cons_succ, List.set_cons_zero, List.set_cons_succ, ne_eq, tk_152 hh, kh, h40, pu_21, pu_23]
    have m148 := @m148y (e + 4) s T I J R (fun v h1 => (185 ≤ h1.1 ∧ s ≤ h1.2.1) ∧ wp codeT mX (e + 5 + 1) 157 19 [some (.inr (.inr (some 152)))] (v.toList ++ []) h1 Q) fa (n : Int) sm nm X W F H G 0 p hh 13 0 (by decide) p2 (by decide) (by decide)
    refine m148.mpr ⟨⟨Nat.le_refl _, Nat.le_refl _⟩, ?_⟩
    simp only [s157_19, Option.toList_some, Option.toList_none, List.cons_append, List.nil_append, Nat.le_refl, true_and, and_true, true_or, or_true, false_or, or_false, true_implies, false_implies, implies_true, not_true_eq_false, not_false_eq_true, eq_self, Nat.reduceLT, Nat.reduceLeDiff, Nat.reduceEqDiff, Nat.reduceAdd, Nat.reduceSub, Int.reduceLT, Int.reduceLE, Int.reduceEq, Int.reduceNeg, Int.reduceNe, Int.reduceAdd, Int.reduceSub, Int.reduceMul, Int.reduceToNat, Int.toNat_zero, Int.toNat_one, Int.toNat_natCast, am_cats, am_cat, am_st1, am_st2, am_clr, up2_na, up2_nj, up2_same, List.getElem?_cons_zero, List.getElem?_cons_succ, List.set_cons_zero, List.set_cons_succ, ne_eq]
    exact nx
  · rw [if_neg h40] at hB
    have fin := hB _ rfl (rbad_n (by decide)) p op n wz nm X W
    simp only [s157_0, s157_1, s157_2, s157_3, s157_4, s157_5, s157_6, s157_7, s157_8, s157_9, e157, Option.toList_some, Option.toList_none, List.cons_append, List.nil_append, Nat.le_refl, true_and, and_true, true_or, or_true, false_or, or_false, true_implies, false_implies, implies_true, not_true_eq_false, not_false_eq_true, eq_self, Nat.reduceLT, Nat.reduceLeDiff, Nat.reduceEqDiff, Nat.reduceAdd, Nat.reduceSub, Int.reduceLT, Int.reduceLE, Int.reduceEq, Int.reduceNeg, Int.reduceNe, Int.reduceAdd, Int.reduceSub, Int.reduceMul, Int.reduceToNat, Int.toNat_zero, Int.toNat_one, Int.toNat_natCast, am_cats, am_cat, am_st1, am_st2, am_clr, up2_na, up2_nj, up2_same, List.getElem?_cons_zero, List.getElem?_cons_succ, List.set_cons_zero, List.set_cons_succ, ne_eq, tk_152 hh, kh, h40, pI_18, m145 hh (by decide : (1 : Int) ≤ 1 ∧ (1 : Int) ≤ 9) p2]
    exact fin
/-- behind a fault, all of it -/
def mBa (s : Nat) (T : Nat → Nat × Nat) (I J : Nat → Nat → Int) (R : Nat → Nat → Option Nat) (Q : Option AV → AH → Prop) (f : Int) : Prop := ∀ (p1 o1 n1 w1 sm1 nm1 : Int) (X1 W1 F1 H1 G1 : Nat → Int), Q (some (.inl 0)) (185, s, T, pI I p1 f o1 n1 w1 sm1 nm1 X1 W1 F1 H1 G1, J, R)
theorem m143 (hy : yHyp T R I L) {p n k : Nat} {op wz nm : Int} {X W : Nat → Int} (hp : p ≤ L) (hn : n ≤ p) (hk : k ≤ 12) (hW : XB W) (hB : ∀ f, (clvS (hr I L) p k n).1 = f → ¬ f = 0 → mBa s T I J R Q f) (hO : (clvS (hr I L) p k n).1 = 0 → ∀ (nm1 : Int) (X1 W1 : Nat → Int), (∀ j, j < n → X1 j = X j) → XB W1 → RB X1 n ((clvS (hr I L) p k n).2.2.1 ++ (clvS (hr I L) p k n).2.2.2) → Q (some (.inl 1)) (185, s, T, pI I ((clvS (hr I L) p k n).2.1 : Int) fa 0 ((n + (clvS (hr I L) p k n).2.2.1.length + (clvS (hr I L) p k n).2.2.2.length : Nat) : Int) 0 ((k + 1 : Nat) : Int) nm1 X1 W1 (sx F k (n : Int)) (sx H k ((n + (clvS (hr I L) p k n).2.2.1.length : Nat) : Int)) (sx G k ((n + (clvS (hr I L) p k n).2.2.1.length + (clvS (hr I L) p k n).2.2.2.length : Nat) : Int)), J, R)) : wpc codeT mX (e + 7) 143 [.inr (.inr (some 152))] (185, s, T, pI I (p : Int) fa op (n : Int) wz (k : Int) nm X W F H G, J, R) Q := by
  obtain ⟨hh, hL, hL2, -⟩ := id hy
  have kh := k_here (J := J) (s := s) (mdl_hp hh) hL hL2 hp
  have p2 : p ≤ 160 := by omega
  have ba : ∀ {m : Int} {p : Nat}, 1 ≤ m → ¬ (cbad m p).1 = 0 := fun {m p} hm => by show ¬ -1000 * m - (p : Int) = 0; omega
  unfold clvS at hB hO
  by_cases h1 : hr I L p = 103
  · have hpL : p < L := hr_w (I := I) (by rw [h1]; decide)
    rw [if_pos h1] at hB hO
    by_cases h2 : 12 ≤ k
    · rw [if_pos h2] at hB
      have fin := hB _ rfl (ba (by decide)) p op n wz k nm X W F H G
      have k12 : (k : Int) = 12 := by omega
      simp only [s143_0, s143_1, s143_2, s143_3, s143_10, s143_11, s143_12, s143_13, s143_14, s143_15, s143_16, s143_17, s143_18, s143_19, e143, Option.toList_some, Option.toList_none, List.cons_append, List.nil_append, Nat.le_refl, true_and, and_true, true_or, or_true, false_or, or_false, true_implies, false_implies, implies_true, not_true_eq_false, not_false_eq_true, eq_self, Nat.reduceLT, Nat.reduceLeDiff, Nat.reduceEqDiff, Nat.reduceAdd, Nat.reduceSub, Int.reduceLT, Int.reduceLE, Int.reduceEq, Int.reduceNeg, Int.reduceNe, Int.reduceAdd, Int.reduceSub, Int.reduceMul, Int.reduceToNat, Int.toNat_zero, Int.toNat_one, Int.toNat_natCast, am_cats, am_cat, am_st1, am_st2, am_clr, up2_na, up2_nj, up2_same, List.getElem?_cons_zero, List.getElem?_cons_succ, List.set_cons_zero, List.set_cons_succ, ne_eq, tk_152 hh, kh, h1, pI_18, pI_24, k12, m145 hh (by decide : (1 : Int) ≤ 4 ∧ (4 : Int) ≤ 9) p2]
      rw [k12] at fin
      exact fin
    · rw [if_neg h2] at hB hO
      have k12 : ¬ (k : Int) = 12 := by omega
      have uk : 0 ≤ (k : Int) ∧ (k : Int) < ((12 : Nat) : Int) := by omega
      simp only [s143_0, s143_1, s143_2, s143_3, s143_10, s143_11, s143_12, s143_13, s143_20, s143_21, s143_22, s143_23, s143_24, s143_25, s143_26, s143_27, s143_28, s143_29, s143_30, s143_31, s143_32, s143_33, s143_34, s143_35, s143_36, s143_37, s143_38, s143_39, s143_40, e143, Option.toList_some, Option.toList_none, List.cons_append, List.nil_append, Nat.le_refl, true_and, and_true, true_or, or_true, false_or, or_false, true_implies, false_implies, implies_true, not_true_eq_false, not_false_eq_true, eq_self, Nat.reduceLT, Nat.reduceLeDiff, Nat.reduceEqDiff, Nat.reduceAdd, Nat.reduceSub, Int.reduceLT, Int.reduceLE, Int.reduceEq, Int.reduceNeg, Int.reduceNe, Int.reduceAdd, Int.reduceSub, Int.reduceMul, Int.reduceToNat, Int.toNat_zero, Int.toNat_one, Int.toNat_natCast, am_cats, am_cat, am_st1, am_st2, am_clr, up2_na, up2_nj, up2_same, List.getElem?_cons_zero, List.getElem?_cons_succ, List.set_cons_zero, List.set_cons_succ, ne_eq, tk_152 hh, tk_165 hh, rk_152_28 hh, kh, h1, pI_18, pI_22, pI_24, pu_18, pu_21, pu_23, pu_165, k12, uk, w32_s (show p ≤ 1080 by omega)]
      unfold clvA at hB hO
      have ad := rd_adv (sg := hr I L) (L := L) hr_hs 2000 2 0 (p + 1) n (by omega)
      refine m146 (e := e + 2) (r := 2000) (o := 0) (w := 0) hy (by decide) (by omega) (by omega) (by omega) (Nat.zero_le _) hW (Or.inl rfl) (fun f hf hz => ?_) (fun hz nm1 X1 W1 g1 g2 g3 g4 => ⟨⟨Nat.le_refl _, Nat.le_refl _⟩, ?_⟩)
      · have hne : ¬ (prsS (hr I L) 2000 2 0 (p + 1) n).1 = 0 := by rw [hf]; exact hz
        rw [if_neg hne] at hB
        intro p3 o3 n3 w3 nm3 X3 W3
        have fin := hB f hf hz p3 o3 n3 w3 k nm3 X3 W3 (sx F k (n : Int)) H G
        refine ⟨⟨Nat.le_refl _, Nat.le_refl _⟩, ?_⟩
        simp only [s143_41, s143_42, s143_43, Option.toList_some, Option.toList_none, List.cons_append, List.nil_append, Nat.le_refl, true_and, and_true, true_or, or_true, false_or, or_false, true_implies, false_implies, implies_true, not_true_eq_false, not_false_eq_true, eq_self, Nat.reduceLT, Nat.reduceLeDiff, Nat.reduceEqDiff, Nat.reduceAdd, Nat.reduceSub, Int.reduceLT, Int.reduceLE, Int.reduceEq, Int.reduceNeg, Int.reduceNe, Int.reduceAdd, Int.reduceSub, Int.reduceMul, Int.reduceToNat, Int.toNat_zero, Int.toNat_one, Int.toNat_natCast, am_cats, am_cat, am_st1, am_st2, am_clr, up2_na, up2_nj, up2_same, List.getElem?_cons_zero, List.getElem?_cons_succ, List.set_cons_zero, List.set_cons_succ, ne_eq]
        exact fin
      · rw [if_pos hz] at hB hO
        obtain ⟨ad1, ad2, ad3⟩ := ad hz
        have ad3 := ad3 (by decide)
        generalize prsS (hr I L) 2000 2 0 (p + 1) n = P at *
        obtain ⟨P1, p1, la⟩ := P
        have ad1 : p1 ≤ L := ad1
        have ad2 : p + 1 + la.length ≤ p1 := ad2
        have g4 : RB X1 n la := g4
        have hB : ∀ f, (if hr I L p1 = 40 then clvB (hr I L) la (prsS (hr I L) 2000 6 1 (p1 + 1) (n + la.length)) else cbad 1 p1).1 = f → ¬ f = 0 → mBa s T I J R Q f := hB
        have hcn : ∀ f, (cnS (hr I L) p1 (n + la.length)).1 = f → ¬ f = 0 → mBa s T I J R Q f := by
          intro f hf hz2
          refine hB f ?_ hz2
          unfold cnS at hf
          by_cases h40 : hr I L p1 = 40
          · rw [if_pos h40] at hf ⊢
            unfold rend at hf
            unfold clvB
            by_cases h5 : (prsS (hr I L) 2000 6 1 (p1 + 1) (n + la.length)).1 = 0
            · rw [if_pos h5] at hf ⊢
              by_cases h6 : hr I L (prsS (hr I L) 2000 6 1 (p1 + 1) (n + la.length)).2.1 = 41
              · rw [if_pos h6] at hf ⊢
                exact hf
              · rw [if_neg h6] at hf ⊢
                exact hf
            · rw [if_neg h5] at hf ⊢
              exact hf
          · rw [if_neg h40] at hf ⊢
            exact hf
        simp only [s143_41, s143_44, s143_45, s143_46, s143_47, s143_48, s143_49, s143_50, s143_51, s143_52, Option.toList_some, Option.toList_none, List.cons_append, List.nil_append, Nat.le_refl, true_and, and_true, true_or, or_true, false_or, or_false, true_implies, false_implies, implies_true, not_true_eq_false, not_false_eq_true, eq_self, Nat.reduceLT, Nat.reduceLeDiff, Nat.reduceEqDiff, Nat.reduceAdd, Nat.reduceSub, Int.reduceLT, Int.reduceLE, Int.reduceEq, Int.reduceNeg, Int.reduceNe, Int.reduceAdd, Int.reduceSub, Int.reduceMul, Int.reduceToNat, Int.toNat_zero, Int.toNat_one, Int.toNat_natCast, am_cats, am_cat, am_st1, am_st2, am_clr, up2_na, up2_nj, up2_same, List.getElem?_cons_zero, List.getElem?_cons_succ, List.set_cons_zero, List.set_cons_succ, ne_eq, tk_152 hh, tk_166 hh, rk_152_29 hh, pI_22, pI_24, pu_166, uk]
        refine m157 (e := e) hy ad1 (by omega) g3 (fun f hf hz2 => ?_) (fun hz2 nm2 X2 W2 k1 k2 k3 => ⟨⟨Nat.le_refl _, Nat.le_refl _⟩, ?_⟩)
        · intro p3 o3 n3 w3 nm3 X3 W3
          have fin := hcn f hf hz2 p3 o3 n3 w3 k nm3 X3 W3 (sx F k (n : Int)) (sx H k ((n + la.length : Nat) : Int)) G
          refine ⟨⟨Nat.le_refl _, Nat.le_refl _⟩, ?_⟩
          simp only [s143_53, s143_54, s143_55, Option.toList_some, Option.toList_none, List.cons_append, List.nil_append, Nat.le_refl, true_and, and_true, true_or, or_true, false_or, or_false, true_implies, false_implies, implies_true, not_true_eq_false, not_false_eq_true, eq_self, Nat.reduceLT, Nat.reduceLeDiff, Nat.reduceEqDiff, Nat.reduceAdd, Nat.reduceSub, Int.reduceLT, Int.reduceLE, Int.reduceEq, Int.reduceNeg, Int.reduceNe, Int.reduceAdd, Int.reduceSub, Int.reduceMul, Int.reduceToNat, Int.toNat_zero, Int.toNat_one, Int.toNat_natCast, am_cats, am_cat, am_st1, am_st2, am_clr, up2_na, up2_nj, up2_same, List.getElem?_cons_zero, List.getElem?_cons_succ, List.set_cons_zero, List.set_cons_succ, ne_eq]
          exact fin
        · have eC : (if hr I L p1 = 40 then clvB (hr I L) la (prsS (hr I L) 2000 6 1 (p1 + 1) (n + la.length)) else cbad 1 p1) = (0, (cnS (hr I L) p1 (n + la.length)).2.1, la, (cnS (hr I L) p1 (n + la.length)).2.2) := by
            unfold cnS at hz2 ⊢
            by_cases h40 : hr I L p1 = 40
            · rw [if_pos h40] at hz2 ⊢
              rw [if_pos h40]
              unfold rend at hz2 ⊢
              unfold clvB
              by_cases h5 : (prsS (hr I L) 2000 6 1 (p1 + 1) (n + la.length)).1 = 0
              · rw [if_pos h5] at hz2 ⊢
                rw [if_pos h5]
                by_cases h6 : hr I L (prsS (hr I L) 2000 6 1 (p1 + 1) (n + la.length)).2.1 = 41
                · rw [if_pos h6, if_pos h6]
                · rw [if_neg h6] at hz2
                  exact absurd hz2 (rbad_n (by decide))
              · rw [if_neg h5] at hz2
                exact absurd hz2 h5
            · rw [if_neg h40] at hz2
              exact absurd hz2 (rbad_n (by decide))
          rw [show (if hr I L ((P1, p1, la) : RR).2.1 = 40 then clvB (hr I L) ((P1, p1, la) : RR).2.2 (prsS (hr I L) 2000 6 1 (((P1, p1, la) : RR).2.1 + 1) (n + ((P1, p1, la) : RR).2.2.length)) else cbad 1 ((P1, p1, la) : RR).2.1) = (0, (cnS (hr I L) p1 (n + la.length)).2.1, la, (cnS (hr I L) p1 (n + la.length)).2.2) from eC] at hO
          have fin := hO rfl nm2 X2 W2 (fun j hj => (k1 j (by omega)).trans (g1 j hj)) k2 (RB_app (RB_cg g4 (fun j hj => k1 j (by omega))) k3)
          simp only [s143_53, s143_56, s143_57, s143_58, s143_59, s143_60, s143_61, s143_62, s143_63, s143_64, s143_65, s143_66, s143_67, s143_68, s143_69, s143_70, Option.toList_some, Option.toList_none, List.cons_append, List.nil_append, Nat.le_refl, true_and, and_true, true_or, or_true, false_or, or_false, true_implies, false_implies, implies_true, not_true_eq_false, not_false_eq_true, eq_self, Nat.reduceLT, Nat.reduceLeDiff, Nat.reduceEqDiff, Nat.reduceAdd, Nat.reduceSub, Int.reduceLT, Int.reduceLE, Int.reduceEq, Int.reduceNeg, Int.reduceNe, Int.reduceAdd, Int.reduceSub, Int.reduceMul, Int.reduceToNat, Int.toNat_zero, Int.toNat_one, Int.toNat_natCast, am_cats, am_cat, am_st1, am_st2, am_clr, up2_na, up2_nj, up2_same, List.getElem?_cons_zero, List.getElem?_cons_succ, List.set_cons_zero, List.set_cons_succ, ne_eq, tk_152 hh, tk_167 hh, rk_152_30 hh, pI_22, pI_24, pu_24, pu_167, uk, w32_s (show k ≤ 1080 by omega)]
          exact fin
  · rw [if_neg h1] at hB
    have fin := hB _ rfl (ba (by decide)) p op n wz k nm X W F H G
    simp only [s143_0, s143_1, s143_2, s143_3, s143_4, s143_5, s143_6, s143_7, s143_8, s143_9, e143, Option.toList_some, Option.toList_none, List.cons_append, List.nil_append, Nat.le_refl, true_and, and_true, true_or, or_true, false_or, or_false, true_implies, false_implies, implies_true, not_true_eq_false, not_false_eq_true, eq_self, Nat.reduceLT, Nat.reduceLeDiff, Nat.reduceEqDiff, Nat.reduceAdd, Nat.reduceSub, Int.reduceLT, Int.reduceLE, Int.reduceEq, Int.reduceNeg, Int.reduceNe, Int.reduceAdd, Int.reduceSub, Int.reduceMul, Int.reduceToNat, Int.toNat_zero, Int.toNat_one, Int.toNat_natCast, am_cats, am_cat, am_st1, am_st2, am_clr, up2_na, up2_nj, up2_same, List.getElem?_cons_zero, List.getElem?_cons_succ, List.set_cons_zero, List.set_cons_succ, ne_eq, tk_152 hh, kh, h1, pI_18, m145 hh (by decide : (1 : Int) ≤ 1 ∧ (1 : Int) ≤ 9) p2]
    exact fin
/-- where a clause begins -/
def stF (n : Nat) (b : List (Nat × Nat)) (j : Nat) : Nat := if j = 0 then n else (b.getD (j - 1) (0, 0)).2
def yO (X F H G : Nat → Int) (k n : Nat) (X0 F0 H0 G0 : Nat → Int) (w : LR) : Prop := (∀ j, j < n → X j = X0 j) ∧ RB X n w.2.1 ∧ (∀ j, j < k → F j = F0 j ∧ H j = H0 j ∧ G j = G0 j) ∧ ∀ j, j < w.2.2.length → F (k + j) = ((stF n w.2.2 j : Nat) : Int) ∧ H (k + j) = ((w.2.2.getD j (0, 0)).1 : Int) ∧ G (k + j) = ((w.2.2.getD j (0, 0)).2 : Int)
theorem yO_cat {X F H G X0 F0 H0 G0 X1 : Nat → Int} {k n : Nat} {la lc : List (Int × Int)} {w : LR} (h1 : ∀ j, j < n → X1 j = X0 j) (h2 : RB X1 n (la ++ lc)) (h : yO X F H G (k + 1) (n + la.length + lc.length) X1 (sx F0 k (n : Int)) (sx H0 k ((n + la.length : Nat) : Int)) (sx G0 k ((n + la.length + lc.length : Nat) : Int)) w) : yO X F H G k n X0 F0 H0 G0 (w.1, la ++ lc ++ w.2.1, (n + la.length, n + la.length + lc.length) :: w.2.2) := by
  obtain ⟨a1, a2, a3, a4⟩ := h
  have e : (la ++ lc).length = la.length + lc.length := List.length_append
  refine ⟨fun j hj => (a1 j (by omega)).trans (h1 j hj), RB_app (RB_cg h2 (fun j hj => a1 j (by omega))) (by rw [e, ← Nat.add_assoc]; exact a2), fun j hj => ?_, fun j hj => ?_⟩
  · obtain ⟨z1, z2, z3⟩ := a3 j (by omega)
    rw [z1, z2, z3, sx_n (by omega), sx_n (by omega), sx_n (by omega)]
    exact ⟨rfl, rfl, rfl⟩
  · match j, hj with
    | 0, _ =>
      obtain ⟨z1, z2, z3⟩ := a3 k (by omega)
      rw [sx_s] at z1 z2 z3
      exact ⟨z1, z2, z3⟩
    | j + 1, hj =>
      have hj : j + 1 < w.2.2.length + 1 := hj
      obtain ⟨z1, z2, z3⟩ := a4 j (by omega)
      rw [show k + 1 + j = k + (j + 1) by omega] at z1 z2 z3
      refine ⟨z1.trans ?_, z2, z3⟩
      cases j with
      | zero => rfl
      | succ j => rfl
theorem yO_end {X1 X0 F0 H0 G0 : Nat → Int} {k n : Nat} {la lc : List (Int × Int)} {f : Int} (h1 : ∀ j, j < n → X1 j = X0 j) (h2 : RB X1 n (la ++ lc)) : yO X1 (sx F0 k (n : Int)) (sx H0 k ((n + la.length : Nat) : Int)) (sx G0 k ((n + la.length + lc.length : Nat) : Int)) k n X0 F0 H0 G0 (f, la ++ lc, [(n + la.length, n + la.length + lc.length)]) := by
  refine ⟨h1, h2, fun j hj => ⟨sx_n (by omega), sx_n (by omega), sx_n (by omega)⟩, fun j hj => ?_⟩
  have hj : j = 0 := by
    have : j < 1 := hj
    omega
  subst hj
  exact ⟨sx_s, sx_s, sx_s⟩
theorem p142 (hy : yHyp T R I L) {a zn : Int} {p4 p5 : Option AV} : ∀ (r p k n : Nat) (op wz nm : Int) (X W F H G : Nat → Int), L + 1 - p ≤ r → p ≤ L → n ≤ p → k ≤ 12 → XB W → YB F → YB H → YB G → (∀ f, (lwS (hr I L) L r p k n).1 = f → ¬ f = 0 → ∀ (p1 o1 n1 w1 sm1 nm1 : Int) (X1 W1 F1 H1 G1 : Nat → Int), wp codeT mX (e + 8) 142 49 [some (.inr (.inr (some 152))), some (.inl a), some (.inl zn), some (.inl 0), p4, p5] [] (185, s, T, pI I p1 f o1 n1 w1 sm1 nm1 X1 W1 F1 H1 G1, J, R) Q) → ((lwS (hr I L) L r p k n).1 = 0 → ∀ (nm1 : Int) (X1 W1 F1 H1 G1 : Nat → Int), k + (lwS (hr I L) L r p k n).2.2.length ≤ 12 → n + (lwS (hr I L) L r p k n).2.1.length ≤ 160 → YB F1 → YB H1 → YB G1 → yO X1 F1 H1 G1 k n X F H G (lwS (hr I L) L r p k n) → wp codeT mX (e + 8) 142 49 [some (.inr (.inr (some 152))), some (.inl a), some (.inl zn), some (.inl 1), p4, p5] [] (185, s, T, pI I (L : Int) fa 0 ((n + (lwS (hr I L) L r p k n).2.1.length : Nat) : Int) 0 ((k + (lwS (hr I L) L r p k n).2.2.length : Nat) : Int) nm1 X1 W1 F1 H1 G1, J, R) Q) → wpc codeT mX (e + 7) 143 [.inr (.inr (some 152))] (185, s, T, pI I (p : Int) fa op (n : Int) wz (k : Int) nm X W F H G, J, R) (fun v g => (185 ≤ g.1 ∧ s ≤ g.2.1) ∧ ∃ z : Int, v = some (.inl z) ∧ (z = 0 ∨ z = 1) ∧ wp codeT mX (e + 8) 142 30 [some (.inr (.inr (some 152))), some (.inl a), some (.inl zn), some (.inl z), p4, p5] [] g Q) := by
  obtain ⟨hh, hL, hL2, -⟩ := id hy
  intro r
  induction r with
  | zero =>
    intro p k n op wz nm X W F H G hr0 hp
    omega
  | succ r ih =>
    intro p k n op wz nm X W F H G hr0 hp hn hk hW hF hH hG hB hO
    have ad := cl_adv (sg := hr I L) (L := L) (p := p) (k := k) (n := n) hr_hs hp
    rw [lwS] at hB hO
    refine m143 hy hp hn hk hW (fun f hf hz => ?_) (fun hz nm1 X1 W1 g1 g2 g3 => ⟨⟨Nat.le_refl _, Nat.le_refl _⟩, 1, rfl, Or.inr rfl, ?_⟩)
    · have hne : ¬ (clvS (hr I L) p k n).1 = 0 := by rw [hf]; exact hz
      rw [if_neg hne] at hB
      intro p1 o1 n1 w1 sm1 nm1 X1 W1 F1 H1 G1
      have fin := hB f hf hz p1 o1 n1 w1 sm1 nm1 X1 W1 F1 H1 G1
      refine ⟨⟨Nat.le_refl _, Nat.le_refl _⟩, 0, rfl, Or.inl rfl, ?_⟩
      refine s142_30.mpr ?_
      simp only [s142_31, Option.toList_some, Option.toList_none, List.cons_append, List.nil_append, Nat.le_refl, true_and, and_true, true_or, or_true, false_or, or_false, true_implies, false_implies, implies_true, not_true_eq_false, not_false_eq_true, eq_self, Nat.reduceLT, Nat.reduceLeDiff, Nat.reduceEqDiff, Nat.reduceAdd, Nat.reduceSub, Int.reduceLT, Int.reduceLE, Int.reduceEq, Int.reduceNeg, Int.reduceNe, Int.reduceAdd, Int.reduceSub, Int.reduceMul, Int.reduceToNat, Int.toNat_zero, Int.toNat_one, Int.toNat_natCast, am_cats, am_cat, am_st1, am_st2, am_clr, up2_na, up2_nj, up2_same, List.getElem?_cons_zero, List.getElem?_cons_succ, List.set_cons_zero, List.set_cons_succ, ne_eq]
      exact fin
    · rw [if_pos hz] at hB hO
      obtain ⟨a1, a2, a3, a4⟩ := ad hz
      generalize clvS (hr I L) p k n = X2 at *
      obtain ⟨x1, p', la, lc⟩ := X2
      have a1 : p < p' := a1
      have a2 : p' ≤ L := a2
      have a4 : p + la.length + lc.length ≤ p' := a4
      have g3 : RB X1 n (la ++ lc) := g3
      have kh := k_here (J := J) (s := s) (mdl_hp hh) hL hL2 a2
      have yF : YB (sx F k (n : Int)) := YB_sx hF (by omega) (by omega)
      have yH : YB (sx H k ((n + la.length : Nat) : Int)) := YB_sx hH (by omega) (by omega)
      have yG : YB (sx G k ((n + la.length + lc.length : Nat) : Int)) := YB_sx hG (by omega) (by omega)
      refine s142_30.mpr ?_
      by_cases hpL : p' < L
      · rw [if_pos hpL] at hB hO
        have u1 : (p' : Int) < (L : Int) := by omega
        have p2 : p' ≤ 160 := by omega
        by_cases h59 : hr I L p' = 59
        · rw [if_pos h59] at hB hO
          simp only [s142_31, s142_32, s142_33, s142_34, s142_35, s142_36, s142_37, s142_38, s142_39, s142_40, s142_41, s142_42, e162, s162_0, s162_1, s162_2, s162_3, s162_4, s162_5, s162_6, s162_7, s162_8, s162_9, s162_10, s162_11, s162_12, s162_13, s162_14, s162_15, s162_16, s162_17, Option.toList_some, Option.toList_none, List.cons_append, List.nil_append, Nat.le_refl, true_and, and_true, true_or, or_true, false_or, or_false, true_implies, false_implies, implies_true, not_true_eq_false, not_false_eq_true, eq_self, Nat.reduceLT, Nat.reduceLeDiff, Nat.reduceEqDiff, Nat.reduceAdd, Nat.reduceSub, Int.reduceLT, Int.reduceLE, Int.reduceEq, Int.reduceNeg, Int.reduceNe, Int.reduceAdd, Int.reduceSub, Int.reduceMul, Int.reduceToNat, Int.toNat_zero, Int.toNat_one, Int.toNat_natCast, am_cats, am_cat, am_st1, am_st2, am_clr, up2_na, up2_nj, up2_same, List.getElem?_cons_zero, List.getElem?_cons_succ, List.set_cons_zero, List.set_cons_succ, ne_eq, tk_152 hh, kh, h59, pI_18, pI_19, pu_18, hL, u1, w32_s (show p' ≤ 1080 by omega)]
          refine wpc_mono (ih (p' + 1) (k + 1) (n + la.length + lc.length) 0 0 nm1 X1 W1 _ _ _ (by omega) (by omega) (by omega) (by omega) g2 yF yH yG hB (fun h0 nm2 X3 W3 F3 H3 G3 y1 y2 y3 y4 y5 y6 => ?_)) (fun v g hv => ?_)
          · have e1 : k + ((n + la.length, n + la.length + lc.length) :: (lwS (hr I L) L r (p' + 1) (k + 1) (n + la.length + lc.length)).2.2).length = k + 1 + (lwS (hr I L) L r (p' + 1) (k + 1) (n + la.length + lc.length)).2.2.length := by rw [List.length_cons]; omega
            have e2 : n + (la ++ lc ++ (lwS (hr I L) L r (p' + 1) (k + 1) (n + la.length + lc.length)).2.1).length = n + la.length + lc.length + (lwS (hr I L) L r (p' + 1) (k + 1) (n + la.length + lc.length)).2.1.length := by rw [List.length_append, List.length_append]; omega
            have fin := hO h0 nm2 X3 W3 F3 H3 G3 (by show k + (_ :: _).length ≤ 12; rw [e1]; exact y1) (by show n + (la ++ lc ++ _).length ≤ 160; rw [e2]; exact y2) y3 y4 y5 (yO_cat g1 g3 y6)
            have fin : wp codeT mX (e + 8) 142 49 [some (.inr (.inr (some 152))), some (.inl a), some (.inl zn), some (.inl 1), p4, p5] [] (185, s, T, pI I (L : Int) fa 0 ((n + (la ++ lc ++ (lwS (hr I L) L r (p' + 1) (k + 1) (n + la.length + lc.length)).2.1).length : Nat) : Int) 0 ((k + ((n + la.length, n + la.length + lc.length) :: (lwS (hr I L) L r (p' + 1) (k + 1) (n + la.length + lc.length)).2.2).length : Nat) : Int) nm2 X3 W3 F3 H3 G3, J, R) Q := fin
            rw [e1, e2] at fin
            exact fin
          · obtain ⟨v1, z, v2, v3, v4⟩ := hv
            subst v2
            refine ⟨v1, ?_⟩
            rcases v3 with v3 | v3
            · subst v3
              simp only [s142_43, s142_46, s142_47, s142_48, Option.toList_some, Option.toList_none, List.cons_append, List.nil_append, Nat.le_refl, true_and, and_true, true_or, or_true, false_or, or_false, true_implies, false_implies, implies_true, not_true_eq_false, not_false_eq_true, eq_self, Nat.reduceLT, Nat.reduceLeDiff, Nat.reduceEqDiff, Nat.reduceAdd, Nat.reduceSub, Int.reduceLT, Int.reduceLE, Int.reduceEq, Int.reduceNeg, Int.reduceNe, Int.reduceAdd, Int.reduceSub, Int.reduceMul, Int.reduceToNat, Int.toNat_zero, Int.toNat_one, Int.toNat_natCast, am_cats, am_cat, am_st1, am_st2, am_clr, up2_na, up2_nj, up2_same, List.getElem?_cons_zero, List.getElem?_cons_succ, List.set_cons_zero, List.set_cons_succ, ne_eq]
              exact v4
            · subst v3
              simp only [s142_43, s142_44, s142_45, s142_47, s142_48, Option.toList_some, Option.toList_none, List.cons_append, List.nil_append, Nat.le_refl, true_and, and_true, true_or, or_true, false_or, or_false, true_implies, false_implies, implies_true, not_true_eq_false, not_false_eq_true, eq_self, Nat.reduceLT, Nat.reduceLeDiff, Nat.reduceEqDiff, Nat.reduceAdd, Nat.reduceSub, Int.reduceLT, Int.reduceLE, Int.reduceEq, Int.reduceNeg, Int.reduceNe, Int.reduceAdd, Int.reduceSub, Int.reduceMul, Int.reduceToNat, Int.toNat_zero, Int.toNat_one, Int.toNat_natCast, am_cats, am_cat, am_st1, am_st2, am_clr, up2_na, up2_nj, up2_same, List.getElem?_cons_zero, List.getElem?_cons_succ, List.set_cons_zero, List.set_cons_succ, ne_eq]
              exact v4
        · rw [if_neg h59] at hB
          have f0 : ¬ (-1000 * 1 - (p' : Int)) = 0 := by omega
          have fin := hB _ rfl f0 p' 0 ((n + la.length + lc.length : Nat) : Int) 0 ((k + 1 : Nat) : Int) nm1 X1 W1 (sx F k (n : Int)) (sx H k ((n + la.length : Nat) : Int)) (sx G k ((n + la.length + lc.length : Nat) : Int))
          simp only [s142_31, s142_32, s142_33, s142_34, s142_35, s142_36, s142_37, s142_38, s142_39, s142_40, s142_46, s142_47, s142_48, e162, s162_0, s162_1, s162_2, s162_3, s162_4, s162_5, s162_6, s162_7, s162_8, s162_9, s162_10, s162_11, s162_12, s162_13, s162_14, s162_15, s162_16, s162_17, Option.toList_some, Option.toList_none, List.cons_append, List.nil_append, Nat.le_refl, true_and, and_true, true_or, or_true, false_or, or_false, true_implies, false_implies, implies_true, not_true_eq_false, not_false_eq_true, eq_self, Nat.reduceLT, Nat.reduceLeDiff, Nat.reduceEqDiff, Nat.reduceAdd, Nat.reduceSub, Int.reduceLT, Int.reduceLE, Int.reduceEq, Int.reduceNeg, Int.reduceNe, Int.reduceAdd, Int.reduceSub, Int.reduceMul, Int.reduceToNat, Int.toNat_zero, Int.toNat_one, Int.toNat_natCast, am_cats, am_cat, am_st1, am_st2, am_clr, up2_na, up2_nj, up2_same, List.getElem?_cons_zero, List.getElem?_cons_succ, List.set_cons_zero, List.set_cons_succ, ne_eq, tk_152 hh, kh, h59, pI_18, pI_19, hL, u1, m145 hh (by decide : (1 : Int) ≤ 1 ∧ (1 : Int) ≤ 9) p2]
          refine s142_30.mpr ?_
          simp only [s142_31, Option.toList_some, Option.toList_none, List.cons_append, List.nil_append, Nat.le_refl, true_and, and_true, true_or, or_true, false_or, or_false, true_implies, false_implies, implies_true, not_true_eq_false, not_false_eq_true, eq_self, Nat.reduceLT, Nat.reduceLeDiff, Nat.reduceEqDiff, Nat.reduceAdd, Nat.reduceSub, Int.reduceLT, Int.reduceLE, Int.reduceEq, Int.reduceNeg, Int.reduceNe, Int.reduceAdd, Int.reduceSub, Int.reduceMul, Int.reduceToNat, Int.toNat_zero, Int.toNat_one, Int.toNat_natCast, am_cats, am_cat, am_st1, am_st2, am_clr, up2_na, up2_nj, up2_same, List.getElem?_cons_zero, List.getElem?_cons_succ, List.set_cons_zero, List.set_cons_succ, ne_eq]
          exact fin
      · have el : p' = L := by omega
        subst el
        rw [if_neg (Nat.lt_irrefl _)] at hO
        have e2 : n + (la ++ lc).length = n + la.length + lc.length := by rw [List.length_append]; omega
        have fin := hO rfl nm1 X1 W1 _ _ _ (by show k + 1 ≤ 12; omega) (by show n + (la ++ lc).length ≤ 160; omega) yF yH yG (yO_end g1 g3)
        have fin : wp codeT mX (e + 8) 142 49 [some (.inr (.inr (some 152))), some (.inl a), some (.inl zn), some (.inl 1), p4, p5] [] (185, s, T, pI I (p' : Int) fa 0 ((n + (la ++ lc).length : Nat) : Int) 0 ((k + 1 : Nat) : Int) nm1 X1 W1 (sx F k (n : Int)) (sx H k ((n + la.length : Nat) : Int)) (sx G k ((n + la.length + lc.length : Nat) : Int)), J, R) Q := fin
        rw [e2] at fin
        simp only [s142_31, s142_32, s142_33, s142_34, s142_35, s142_36, Option.toList_some, Option.toList_none, List.cons_append, List.nil_append, Nat.le_refl, true_and, and_true, true_or, or_true, false_or, or_false, true_implies, false_implies, implies_true, not_true_eq_false, not_false_eq_true, eq_self, Nat.reduceLT, Nat.reduceLeDiff, Nat.reduceEqDiff, Nat.reduceAdd, Nat.reduceSub, Int.reduceLT, Int.reduceLE, Int.reduceEq, Int.reduceNeg, Int.reduceNe, Int.reduceAdd, Int.reduceSub, Int.reduceMul, Int.reduceToNat, Int.toNat_zero, Int.toNat_one, Int.toNat_natCast, am_cats, am_cat, am_st1, am_st2, am_clr, up2_na, up2_nj, up2_same, List.getElem?_cons_zero, List.getElem?_cons_succ, List.set_cons_zero, List.set_cons_succ, ne_eq, tk_152 hh, pI_18, pI_19, hL, Int.lt_irrefl]
        exact fin
end
