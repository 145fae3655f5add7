/-! the law by hand, 15: again, as far as X -/
theorem drw_bd (x : Int) : -65535 ≤ drw x ∧ drw x ≤ 65535 := by
  unfold drw
  generalize w32 (w32 (25173 * x) + 13849) = y
  have := (trem_bd (x := y) (y := 65536) (by decide)).2
  rw [w32_eq (by omega) (by omega)]
  omega
section
variable {d s : Nat} {T : Nat → Nat × Nat} {I J : Nat → Nat → Int} {R : Nat → Nat → Option Nat} {Q : Option AV → AH → Prop}
theorem p207 (hd : 20 ≤ d) {N : Nat} (hN : I 152 4 = N) (hN2 : N ≤ 200) {x : Int} (hQ : ∀ z I1 J1 R1, I1 152 6 = x → Q (some (.inl z)) (185, s, T, I1, J1, R1)) : ∀ (r i : Nat) (n : Int) (I1 J1 : Nat → Nat → Int) (R1 : Nat → Nat → Option Nat), i + r = N → eH (185, s, T, I1, J1, R1) → scr (185, s, T, I1, J1, R1) → (∀ a j, inM cn174.2.2.2.1 a j = false → I1 a j = I a j) → wp codeT mX (d + 1) 207 11 [some (.inr (.inr (some 152))), some (.inl x), some (.inl n), some (.inl (i : Int))] [] (185, s, T, I1, J1, R1) Q := by
  intro r
  induction r with
  | zero =>
    intro i n I1 J1 R1 hi hH hs hI
    have hi : i = N := by omega
    subst hi
    have hh := hp_of (eH5_of hH)
    have f4 : I1 152 4 = I 152 4 := hI 152 4 (by decide +kernel)
    rw [hN] at f4
    refine s207_11.mpr ?_
    simp only [s207_12, s207_13, s207_14, s207_48, s207_49, s207_50, s207_51, s207_52, Option.toList_some, Option.toList_none, List.cons_append, List.nil_append, Nat.le_refl, true_and, and_true, true_or, or_true, false_or, or_false, true_implies, false_implies, implies_true, not_true_eq_false, not_false_eq_true, eq_self, Nat.reduceLT, Nat.reduceLeDiff, Nat.reduceEqDiff, Nat.reduceAdd, Nat.reduceSub, Int.reduceLT, Int.reduceLE, Int.reduceEq, Int.reduceNeg, Int.reduceNe, Int.reduceAdd, Int.reduceSub, Int.reduceMul, Int.reduceToNat, Int.toNat_zero, Int.toNat_one, Int.toNat_natCast, am_cats, am_cat, am_st1, am_st2, am_clr, up2_na, up2_nj, up2_same, List.getElem?_cons_zero, List.getElem?_cons_succ, List.set_cons_zero, List.set_cons_succ, ne_eq, tk_152 hh, f4, Int.lt_irrefl]
    exact hQ _ _ _ _ (up2_same _ _ _ _)
  | succ r ih =>
    intro i n I1 J1 R1 hi hH hs hI
    have hh := hp_of (eH5_of hH)
    have f4 : I1 152 4 = I 152 4 := hI 152 4 (by decide +kernel)
    rw [hN] at f4
    have u1 : (i : Int) < (N : Int) := by omega
    have u2 : 0 ≤ (i : Int) ∧ (i : Int) < ((200 : Nat) : Int) := by omega
    have i199 : (i : Int) ≤ 199 := by omega
    have i200 : i < 200 := by omega
    have o6 : (i : Int) + 1 = ((i + 1 : Nat) : Int) := by omega
    have o7 : i + 1 ≤ 2000000000 := by omega
    have hir : i + 1 + r = N := by omega
    have v4 := w32_c o6 o7
    by_cases h1 : I1 161 i = -1
    · have nx := ih (i + 1) n I1 J1 R1 hir hH hs hI
      refine s207_11.mpr ?_
      simp only [s207_12, s207_13, s207_14, s207_15, s207_16, s207_17, s207_18, s207_19, s207_20, s207_21, s207_46, s207_47, Option.toList_some, Option.toList_none, List.cons_append, List.nil_append, Nat.le_refl, true_and, and_true, true_or, or_true, false_or, or_false, true_implies, false_implies, implies_true, not_true_eq_false, not_false_eq_true, eq_self, Nat.reduceLT, Nat.reduceLeDiff, Nat.reduceEqDiff, Nat.reduceAdd, Nat.reduceSub, Int.reduceLT, Int.reduceLE, Int.reduceEq, Int.reduceNeg, Int.reduceNe, Int.reduceAdd, Int.reduceSub, Int.reduceMul, Int.reduceToNat, Int.toNat_zero, Int.toNat_one, Int.toNat_natCast, am_cats, am_cat, am_st1, am_st2, am_clr, up2_na, up2_nj, up2_same, List.getElem?_cons_zero, List.getElem?_cons_succ, List.set_cons_zero, List.set_cons_succ, ne_eq, tk_152 hh, tk_161 hh, rk_152_15 hh, f4, u1, u2, v4, h1]
      exact nx
    · have bh : 0 ≤ I1 157 i ∧ I1 157 i ≤ 5 := ebd hH (by decide) i200 ((bI_hi (by decide)).trans (by decide))
      have bt : 0 ≤ I1 158 i ∧ I1 158 i ≤ 7 := ebd hH (by decide) i200 ((bI_hi (by decide)).trans (by decide))
      have bd : 0 ≤ I1 159 i ∧ I1 159 i ≤ 299 := ebd hH (by decide) i200 ((bI_hi (by decide)).trans (by decide))
      have hc144 := cn_all 144 (by decide) cn144 rfl
      have tail : ∀ v g, conQ cn144 (185, s, T, I1, J1, R1) v g → (185 ≤ g.1 ∧ s ≤ g.2.1) ∧ wp codeT mX (d + 1) 207 43 [some (.inr (.inr (some 152))), some (.inl x), some (.inl n), some (.inl (i : Int))] (v.toList ++ [.inl (I1 158 i), .inr (.inr (some 152)), .inl n]) g Q := by
        rintro v ⟨c1, sa, Ta, I2, J2, R2⟩ ⟨r1, r2, r3⟩
        obtain ⟨z, rfl⟩ : ∃ z : Int, v = some (.inl z) := ansB_r (lg := false) (c := cn144) rfl r1
        have ec : c1 = 185 := r2.1
        have es : sa = s := r3.2.1
        have eT : Ta = T := r3.2.2.1
        subst ec es eT
        have hh2 := hp_of (eH5_of r2)
        have hs2 := scr_M (by decide +kernel) r3 hs
        obtain ⟨t, ht⟩ : ∃ t : Nat, I1 158 i = t := ⟨(I1 158 i).toNat, by omega⟩
        have t8 : t < 8 := by omega
        have bx := drw_bd (I2 152 6)
        have hH3 : eH (185, sa, Ta, up2 I2 152 6 (drw (I2 152 6)), J2, R2) := eH_mk (eH5_up (eH5_of r2) (by show (-2147483648 : Int) ≤ drw (I2 152 6); omega) (by show drw (I2 152 6) ≤ (2147483647 : Int); omega)) (eW_of (g := (185, sa, Ta, I2, J2, R2)) (fun q hq => by
          have hq : q = 17 ∨ q = 25 ∨ q = 26 ∨ q = 27 ∨ q = 28 ∨ q = 29 ∨ q = 30 ∨ q = 168 ∨ q = 169 ∨ q = 170 ∨ q = 171 ∨ q = 172 := by simpa [wIds] using hq
          funext j
          exact up2_na (by omega)) r2.2.2.2.2.2)
        have hs3 : scr (185, sa, Ta, up2 I2 152 6 (drw (I2 152 6)), J2, R2) := ⟨hs2.1, hs2.2.1, fun j => by
          show rg32 (up2 I2 152 6 (drw (I2 152 6)) 1000000 j)
          rw [up2_na (by decide)]
          exact hs2.2.2 j⟩
        have hI3 : ∀ a j, inM cn174.2.2.2.1 a j = false → up2 I2 152 6 (drw (I2 152 6)) a j = I a j := by
          intro a j hj
          have h6 : ¬ (a = 152 ∧ j = 6) := by
            rintro ⟨rfl, rfl⟩
            exact absurd hj (by decide +kernel)
          rw [up2_ne _ _ h6]
          exact ((r3.2.2.2 a j (subM_r (by decide +kernel) hj)).1).trans (hI a j hj)
        have nx := ih (i + 1) (w32 (n + rtM (I2 156 t) z (drw (I2 152 6)))) _ J2 R2 hir hH3 hs3 hI3
        refine ⟨⟨Nat.le_refl _, Nat.le_refl _⟩, ?_⟩
        rw [ht]
        simp only [s207_43, s207_44, s207_45, s207_46, s207_47, Option.toList_some, Option.toList_none, List.cons_append, List.nil_append, Nat.le_refl, true_and, and_true, true_or, or_true, false_or, or_false, true_implies, false_implies, implies_true, not_true_eq_false, not_false_eq_true, eq_self, Nat.reduceLT, Nat.reduceLeDiff, Nat.reduceEqDiff, Nat.reduceAdd, Nat.reduceSub, Int.reduceLT, Int.reduceLE, Int.reduceEq, Int.reduceNeg, Int.reduceNe, Int.reduceAdd, Int.reduceSub, Int.reduceMul, Int.reduceToNat, Int.toNat_zero, Int.toNat_one, Int.toNat_natCast, am_cats, am_cat, am_st1, am_st2, am_clr, up2_na, up2_nj, up2_same, List.getElem?_cons_zero, List.getElem?_cons_succ, List.set_cons_zero, List.set_cons_succ, ne_eq, tk_152 hh2, k172 hh2 t8, v4]
        exact nx
      have cl := hc144 (185, s, T, I1, J1, R1) [some (.inr (.inr (some 152))), some (.inl (I1 157 i)), some (.inl (I1 158 i)), some (.inl (i : Int)), some (.inl (I1 159 i)), none, none, none] hH hs ⟨⟨⟨rfl, List.mem_singleton.mpr rfl, by decide, by decide⟩, ⟨rfl, bh.1, bh.2⟩, ⟨rfl, bt.1, bt.2⟩, ⟨rfl, u2.1, i199⟩, ⟨rfl, bd.1, bd.2⟩, trivial, trivial, trivial, trivial⟩, fun e he => (List.not_mem_nil he).elim, fun e he => (List.not_mem_nil he).elim, fun e he => (List.not_mem_nil he).elim⟩ d (Nat.le_trans (by decide) hd)
      refine s207_11.mpr ?_
      simp only [s207_12, s207_13, s207_14, s207_15, s207_16, s207_17, s207_18, s207_19, s207_20, s207_21, s207_22, s207_23, s207_24, s207_25, s207_26, s207_27, s207_28, s207_29, s207_30, s207_31, s207_32, s207_33, s207_34, s207_35, s207_36, s207_37, s207_38, s207_39, s207_40, s207_41, s207_42, Option.toList_some, Option.toList_none, List.cons_append, List.nil_append, Nat.le_refl, true_and, and_true, true_or, or_true, false_or, or_false, true_implies, false_implies, implies_true, not_true_eq_false, not_false_eq_true, eq_self, Nat.reduceLT, Nat.reduceLeDiff, Nat.reduceEqDiff, Nat.reduceAdd, Nat.reduceSub, Int.reduceLT, Int.reduceLE, Int.reduceEq, Int.reduceNeg, Int.reduceNe, Int.reduceAdd, Int.reduceSub, Int.reduceMul, Int.reduceToNat, Int.toNat_zero, Int.toNat_one, Int.toNat_natCast, am_cats, am_cat, am_st1, am_st2, am_clr, up2_na, up2_nj, up2_same, List.getElem?_cons_zero, List.getElem?_cons_succ, List.set_cons_zero, List.set_cons_succ, ne_eq, tk_152 hh, tk_157 hh, tk_158 hh, tk_159 hh, tk_161 hh, rk_152_11 hh, rk_152_12 hh, rk_152_13 hh, rk_152_15 hh, f4, u1, u2, h1]
      exact wp_mono codeT mX cl tail
theorem x207 (hd : 20 ≤ d) (hH : eH (185, s, T, I, J, R)) (hs : scr (185, s, T, I, J, R)) (hQ : ∀ z I1 J1 R1, I1 152 6 = I 152 6 → Q (some (.inl z)) (185, s, T, I1, J1, R1)) : wpc codeT mX (d + 1) 207 [.inr (.inr (some 152))] (185, s, T, I, J, R) Q := by
  have hh := hp_of (eH5_of hH)
  have b4 : 0 ≤ I 152 4 ∧ I 152 4 ≤ 200 := ebd hH (by decide) (by decide) (by decide)
  have b5 : -2147483648 ≤ I 152 5 ∧ I 152 5 ≤ 2147483647 := ebd hH (by decide) (by decide) (by decide)
  obtain ⟨N, hN⟩ : ∃ n : Nat, I 152 4 = n := ⟨(I 152 4).toNat, by omega⟩
  have hH3 : eH (185, s, T, up2 I 152 6 (I 152 5), J, R) := eH_mk (eH5_up (eH5_of hH) (by show (-2147483648 : Int) ≤ I 152 5; omega) (by show I 152 5 ≤ (2147483647 : Int); omega)) (eW_of (g := (185, s, T, I, J, R)) (fun q hq => by
    have hq : q = 17 ∨ q = 25 ∨ q = 26 ∨ q = 27 ∨ q = 28 ∨ q = 29 ∨ q = 30 ∨ q = 168 ∨ q = 169 ∨ q = 170 ∨ q = 171 ∨ q = 172 := by simpa [wIds] using hq
    funext j
    exact up2_na (by omega)) hH.2.2.2.2.2)
  have hs3 : scr (185, s, T, up2 I 152 6 (I 152 5), J, R) := ⟨hs.1, hs.2.1, fun j => by
    show rg32 (up2 I 152 6 (I 152 5) 1000000 j)
    rw [up2_na (by decide)]
    exact hs.2.2 j⟩
  have lp := p207 (d := d) (s := s) (T := T) (I := I) (Q := Q) hd hN (by omega) (x := I 152 6) hQ N 0 0 _ J R (by omega) hH3 hs3 (fun a j hj => up2_ne _ _ (by
    rintro ⟨rfl, rfl⟩
    exact absurd hj (by decide +kernel)))
  simp only [s207_0, s207_1, s207_2, s207_3, s207_4, s207_5, s207_6, s207_7, s207_8, s207_9, s207_10, e207, Option.toList_some, Option.toList_none, List.cons_append, List.nil_append, Nat.le_refl, true_and, and_true, true_or, or_true, false_or, or_false, true_implies, false_implies, implies_true, not_true_eq_false, not_false_eq_true, eq_self, Nat.reduceLT, Nat.reduceLeDiff, Nat.reduceEqDiff, Nat.reduceAdd, Nat.reduceSub, Int.reduceLT, Int.reduceLE, Int.reduceEq, Int.reduceNeg, Int.reduceNe, Int.reduceAdd, Int.reduceSub, Int.reduceMul, Int.reduceToNat, Int.toNat_zero, Int.toNat_one, Int.toNat_natCast, am_cats, am_cat, am_st1, am_st2, am_clr, up2_na, up2_nj, up2_same, List.getElem?_cons_zero, List.getElem?_cons_succ, List.set_cons_zero, List.set_cons_succ, ne_eq, tk_152 hh]
  exact lp
end
section
variable {L s d : Nat} {X : Nat → Int}
theorem pr_again (hL : L ≤ 3072) (hX : ∀ j, rg32 (X j)) (hd : 40 ≤ d) : pr L X s LKP d 125 207 0 false false := by
  refine pr_mk (cx := cn130) (cm := cn174) (nx := 6) (nm := 3) hL hX (cn_all 130 (by decide) cn130 rfl) (cn_all 174 (by decide) cn174 rfl) rfl hd (fun as g hl hr hH hs hP => ?_)
  obtain rfl : as = [] := List.eq_nil_of_length_eq_zero hl
  obtain ⟨d, rfl⟩ : ∃ e, d = e + 1 := ⟨d - 1, by omega⟩
  refine con_only (C := cn130) (r := 0) (k := 0) (n := 6) (as := []) (cn_all 130 (by decide) cn130 rfl) rfl (Nat.le_trans (show cn130.2.2.2.2.1 ≤ 40 by decide) hd) rfl (fun z hz => by cases hz) hH hs ?_
  rintro v ⟨c1, sa, Ta, I1, J1, R1⟩ r1 r2 r3 _ hH1 m1 sc1
  obtain ⟨a, e⟩ := ansB_r (lg := false) (c := cn130) rfl r1
  refine ⟨a, e, ?_⟩
  have ec : c1 = 185 := r2.1
  subst ec
  show wpc codeT mX (d + 1) 207 [.inr (.inr (some 152))] (185, sa, Ta, I1, J1, R1) _
  refine x207 (by omega) hH1 sc1 (fun z I2 J2 R2 hx _ hH2 m2 => ⟨z, rfl, fun q => (by cases q), ?_⟩)
  have hP1 : LKP (185, sa, Ta, I1, J1, R1) := rdS_M LK_S (by decide +kernel : disj cn130.2.2.2.1 sA = true) m1 hP
  have hP1 : LK I1 := hP1
  obtain ⟨l0, l1, l2, l3, l4, l5, l6, l7, l8, l9, l10, l11, l12, l13, l14, l15⟩ := hP1
  have hP : LK g.2.2.2.1 := hP
  have mm := m2
  have e4 : I2 0 4 = I1 0 4 := (m2.2.2.2 0 4 (by decide +kernel)).1
  obtain ⟨k0, k1, k2, k3, k4, k5, k6, k7, k8, k9, k10, k11, k12, k13, k14, k15⟩ := hP
  exact ⟨rdS_M (twn_S 0 0 152 0) (by decide +kernel : disj cn174.2.2.2.1 _ = true) m2 l0, rdS_M (twn_S 0 1 152 1) (by decide +kernel : disj cn174.2.2.2.1 _ = true) m2 l1, rdS_M (twn_S 0 2 152 2) (by decide +kernel : disj cn174.2.2.2.1 _ = true) m2 l2, rdS_M (twn_S 0 3 152 5) (by decide +kernel : disj cn174.2.2.2.1 _ = true) m2 l3, (by show I2 0 4 = I2 152 6; rw [hx, e4]; exact l4), rdS_M (twn_S 3 3 152 3) (by decide +kernel : disj cn174.2.2.2.1 _ = true) m2 l5, rdS_M (twn_S 17 3 152 4) (by decide +kernel : disj cn174.2.2.2.1 _ = true) m2 l6, rdS_M (twn_S 102 3 152 46) (by decide +kernel : disj cn174.2.2.2.1 _ = true) m2 l7, rdS_M (twn_S 1 1 152 17) (by decide +kernel : disj cn174.2.2.2.1 _ = true) m2 l8, rdS_M lkY_S (by decide +kernel : disj cn174.2.2.2.1 _ = true) m2 l9, rdS_M lkS_S (by decide +kernel : disj cn174.2.2.2.1 _ = true) m2 l10, rdS_M lkT_S (by decide +kernel : disj cn174.2.2.2.1 _ = true) m2 l11, rdS_M lkB_S (by decide +kernel : disj cn174.2.2.2.1 _ = true) m2 l12, rdS_M lkO_S (by decide +kernel : disj cn174.2.2.2.1 _ = true) m2 l13, rdS_M lkC_S (by decide +kernel : disj cn174.2.2.2.1 _ = true) m2 l14, rdS_M lkQ_S (by decide +kernel : disj cn174.2.2.2.1 _ = true) m2 l15⟩
end
