/-! the law by hand, 8: the reference's law, in general (as con_law) -/
set_option maxHeartbeats 2000000 in
theorem w_law {d s : Nat} {T : Nat → Nat × Nat} {I J : Nat → Nat → Int} {R : Nat → Nat → Option Nat} {a n : Int} {p3 p4 p5 : Option AV} {QQ : Option AV → AH → Prop} (hH : eH (185, s, T, I, J, R)) (neg : ¬ ((0 ≤ a ∧ a < I 152 1) ∧ (1 ≤ n ∧ n ≤ 160) ∧ n ≤ I 152 17) → QQ (some (.inl (-1))) (185, s, T, I, J, R)) (finF : ((0 ≤ a ∧ a < I 152 1) ∧ (1 ≤ n ∧ n ≤ 160) ∧ n ≤ I 152 17) → ∀ (p fa op cm w sm nm : Int) (X W F H G : Nat → Int), (0 ≤ p ∧ p ≤ 160) → rg fa → rg op → (0 ≤ cm ∧ cm ≤ 180) → (0 ≤ w ∧ w ≤ 180) → (0 ≤ sm ∧ sm ≤ 12) → rg nm → XB X → XB W → YB F → YB H → YB G → QQ (some (.inl fa)) (185, s, T, pI (mI I 0 n (I 168) (I 169) (I 170) (I 171) (I 172)) p fa op cm w sm nm X W F H G, J, R)) (finS : ((0 ≤ a ∧ a < I 152 1) ∧ (1 ≤ n ∧ n ≤ 160) ∧ n ≤ I 152 17) → ∀ (a' : Nat), a = (a' : Int) → ∀ (p fa op w nm : Int) (cm k : Nat) (X W F H G : Nat → Int), (0 ≤ p ∧ p ≤ 160) → rg fa → rg op → cm ≤ 160 → (0 ≤ w ∧ w ≤ 180) → k ≤ 12 → rg nm → XB X → XB W → YB F → YB H → YB G → CLz X F H G cm k → QQ (some (.inl (k : Int))) (185, s, T, pI (mI I 0 n (cG 180 (I 168) X a' cm) (sx (I 169) a' (k : Int)) (cG 12 (I 170) (fun j => 180 * (a' : Int) + F j) a' k) (cG 12 (I 171) (fun j => 180 * (a' : Int) + H j) a' k) (cG 12 (I 172) (fun j => 180 * (a' : Int) + G j) a' k)) p fa op (cm : Int) w (k : Int) nm X W F H G, J, R)) : wp codeT mX (d + 8) 142 0 [some (.inr (.inr (some 152))), some (.inl a), some (.inl n), p3, p4, p5] [] (185, s, T, I, J, R) QQ := by
  have h5 := eH5_of hH
  have hm := mdl_of h5
  have t152 : T 152 = (12, 53) := hm.1 152 (by decide)
  have t169 : T 169 = (100, 6) := hm.1 169 (by decide)
  have r2 : R 152 32 = some 169 := hm.2 32 169 (by decide +kernel) (by decide)
  have hst : 0 ≤ I 152 1 ∧ I 152 1 ≤ 6 := eB h5 (a := 152) (j := 1) (by decide) (by decide)
  have htp : 0 ≤ I 152 17 ∧ I 152 17 ≤ 200 := eB h5 (a := 152) (j := 17) (by decide) (by decide)
  have key : 0 ≤ a → a < 6 → 1 ≤ n → n ≤ 160 → ((0 ≤ a ∧ a < I 152 1) ∧ (1 ≤ n ∧ n ≤ 160) ∧ n ≤ I 152 17) → wp codeT mX (d + 8) 142 15 [some (.inr (.inr (some 152))), some (.inl a), some (.inl n), p3, p4, p5] [] (185, s, T, I, J, R) QQ := by
    intro a0 a6 n1 n160 hG0
    replace finF := finF hG0
    replace finS := finS hG0
    clear hG0 neg
    obtain ⟨a, rfl⟩ : ∃ k : Nat, a = (k : Int) := ⟨a.toNat, by omega⟩
    obtain ⟨L, rfl⟩ : ∃ k : Nat, n = (k : Int) := ⟨n.toNat, by omega⟩
    have ha : a < 6 := by omega
    have hL2 : L ≤ 160 := by omega
    have bd : ∀ {x j : Nat} {lo hi : Int}, x < nO → j < (tT.getD x (0, 0)).2 → bI x j = (lo, hi) → lo ≤ I x j ∧ I x j ≤ hi := by
      intro x j lo hi h1 h2 h3
      have := eB h5 h1 h2
      rw [h3] at this
      exact this
    have hfa : rg (I 152 20) := bd (by decide) (by decide) (by decide)
    have hop : rg (I 152 21) := bd (by decide) (by decide) (by decide)
    have hnm : rg (I 152 25) := bd (by decide) (by decide) (by decide)
    have hw : 0 ≤ I 152 23 ∧ I 152 23 ≤ 180 := bd (by decide) (by decide) (by decide)
    have hX : XB (I 163) := fun j hj => bd (by decide) hj ((bI_hi (by decide)).trans (by decide))
    have hWW : XB (I 164) := fun j hj => bd (by decide) hj ((bI_hi (by decide)).trans (by decide))
    have hF : YB (I 165) := fun j hj => bd (by decide) hj ((bI_hi (by decide)).trans (by decide))
    have hHH : YB (I 166) := fun j hj => bd (by decide) hj ((bI_hi (by decide)).trans (by decide))
    have hG : YB (I 167) := fun j hj => bd (by decide) hj ((bI_hi (by decide)).trans (by decide))
    have hA : ∀ j, j < 1080 → rg (I 168 j) := fun j hj => bd (by decide) hj ((bI_hi (by decide)).trans (by decide))
    have hB : ∀ j, j < 6 → 0 ≤ I 169 j ∧ I 169 j ≤ 12 := fun j hj => bd (by decide) hj ((bI_hi (by decide)).trans (by decide))
    have hC : ∀ j, j < 72 → 0 ≤ I 170 j ∧ I 170 j ≤ 1080 := fun j hj => bd (by decide) hj ((bI_hi (by decide)).trans (by decide))
    have hD : ∀ j, j < 72 → 0 ≤ I 171 j ∧ I 171 j ≤ 1080 := fun j hj => bd (by decide) hj ((bI_hi (by decide)).trans (by decide))
    have hE : ∀ j, j < 72 → 0 ≤ I 172 j ∧ I 172 j ≤ 1080 := fun j hj => bd (by decide) hj ((bI_hi (by decide)).trans (by decide))
    obtain ⟨w, hww⟩ : ∃ k : Nat, I 152 23 = (k : Int) := ⟨(I 152 23).toNat, by omega⟩
    have fail : ∀ g, bdH s T (mI I (I 152 17) (L : Int) (I 168) (I 169) (I 170) (I 171) (I 172)) J R (some (.inl 0)) g → wp codeT mX (d + 8) 142 30 [some (.inr (.inr (some 152))), some (.inl (a : Int)), some (.inl (L : Int)), some (.inl 0), p4, p5] [] g QQ := by
      intro g hg
      obtain ⟨-, p, fa, op, cm, w, sm, nm, X, W, F, H, G, y1, y2, y3, y4, y5, y6, y7, y8, y9, y10, y11, y12, rfl⟩ := hg
      have := finF p fa op cm w sm nm X W F H G y1 y2 y3 y4 y5 y6 y7 y8 y9 y10 y11 y12
      refine s142_30.mpr ?_
      simp only [s142_31, s142_49, s142_50, s142_51, s142_52, s142_53, s142_54, s142_55, s142_56, Option.toList_some, Option.toList_none, List.cons_append, List.nil_append, Nat.le_refl, true_and, and_true, true_or, or_true, false_or, or_false, true_implies, false_implies, implies_true, not_true_eq_false, not_false_eq_true, eq_self, Nat.reduceLT, Nat.reduceLeDiff, Nat.reduceEqDiff, Nat.reduceAdd, Nat.reduceSub, Int.reduceLT, Int.reduceLE, Int.reduceEq, Int.reduceNeg, Int.reduceNe, Int.reduceAdd, Int.reduceSub, Int.reduceMul, Int.reduceToNat, Int.toNat_zero, Int.toNat_one, Int.toNat_natCast, am_cats, am_cat, am_st1, am_st2, am_clr, up2_na, up2_nj, up2_same, List.getElem?_cons_zero, List.getElem?_cons_succ, List.set_cons_zero, List.set_cons_succ, ne_eq, t152, u_17, pI_20]
      exact this
    have succ : ∀ (p cm k : Nat) (X W F H G : Nat → Int) (op nm : Int), p ≤ L → cm ≤ p → k ≤ 12 → XB X → XB W → YB F → YB H → YB G → rg op → rg nm → CLz X F H G cm k → wp codeT mX (d + 8) 142 49 [some (.inr (.inr (some 152))), some (.inl (a : Int)), some (.inl (L : Int)), some (.inl 1), p4, p5] [] (185, s, T, pI (mI I (I 152 17) (L : Int) (I 168) (I 169) (I 170) (I 171) (I 172)) (p : Int) (I 152 20) op (cm : Int) 0 (k : Int) nm X W F H G, J, R) QQ := by
      intro p cm k X W F H G op nm y1 y2 y3 y4 y5 y6 y7 y8 y9 y10 y11
      have fin := finS a rfl (p : Int) (I 152 20) op 0 nm cm k X W F H G (by omega) hfa y9 (by omega) (by decide) y3 y10 y4 y5 y6 y7 y8 y11
      have c2 := c2_loop (d := d) (s := s) (T := T) (I := I) (J := J) (R := R) (nz := (L : Int)) (g := 1) hm ha y3 y6 y7 y8 fin k 0 p5 (by omega)
      rw [cG_0, cG_0, cG_0] at c2
      have c1 := cp_loop (d := d) (s := s) (T := T) (I := I) (J := J) (R := R) (Q := QQ) (nz := (L : Int)) (g := 1) (l5 := p5) (tp := 0) (len := (L : Int)) (A0 := I 168) (X := X) (B := sx (I 169) a (k : Int)) (C := I 170) (D := I 171) (E := I 172) (p := (p : Int)) (fa := I 152 20) (op := op) (w := 0) (nm := nm) (W := W) (F := F) (H := H) (G := G) (a := a) (cm := cm) (sm := (k : Int)) hm ha (by omega) (by
        refine s142_83.mpr ?_
        simp only [s142_84, Option.toList_some, Option.toList_none, List.cons_append, List.nil_append, Nat.le_refl, true_and, and_true, true_or, or_true, false_or, or_false, true_implies, false_implies, implies_true, not_true_eq_false, not_false_eq_true, eq_self, Nat.reduceLT, Nat.reduceLeDiff, Nat.reduceEqDiff, Nat.reduceAdd, Nat.reduceSub, Int.reduceLT, Int.reduceLE, Int.reduceEq, Int.reduceNeg, Int.reduceNe, Int.reduceAdd, Int.reduceSub, Int.reduceMul, Int.reduceToNat, Int.toNat_zero, Int.toNat_one, Int.toNat_natCast, am_cats, am_cat, am_st1, am_st2, am_clr, up2_na, up2_nj, up2_same, List.getElem?_cons_zero, List.getElem?_cons_succ, List.set_cons_zero, List.set_cons_succ, ne_eq]
        exact c2) cm 0 (by omega)
      rw [cG_0] at c1
      have ba : 0 ≤ (a : Int) ∧ (a : Int) < ((6 : Nat) : Int) := by omega
      refine s142_49.mpr ?_
      simp only [s142_50, s142_51, s142_52, s142_53, s142_57, s142_58, s142_59, s142_60, s142_61, s142_62, s142_63, s142_64, Option.toList_some, Option.toList_none, List.cons_append, List.nil_append, Nat.le_refl, true_and, and_true, true_or, or_true, false_or, or_false, true_implies, false_implies, implies_true, not_true_eq_false, not_false_eq_true, eq_self, Nat.reduceLT, Nat.reduceLeDiff, Nat.reduceEqDiff, Nat.reduceAdd, Nat.reduceSub, Int.reduceLT, Int.reduceLE, Int.reduceEq, Int.reduceNeg, Int.reduceNe, Int.reduceAdd, Int.reduceSub, Int.reduceMul, Int.reduceToNat, Int.toNat_zero, Int.toNat_one, Int.toNat_natCast, am_cats, am_cat, am_st1, am_st2, am_clr, up2_na, up2_nj, up2_same, List.getElem?_cons_zero, List.getElem?_cons_succ, List.set_cons_zero, List.set_cons_succ, ne_eq, t152, t169, r2, u_17, u_169, pI_24, ba]
      exact c1
    have lw := lw_loop (d := d) (s := s) (T := T) (I := I) (J := J) (R := R) (nz := (L : Int)) hm hL2 ha hfa succ fail
    have cl := w_clause (d := d) (s := s) (T := T) (I := mI I (I 152 17) (L : Int) (I 168) (I 169) (I 170) (I 171) (I 172)) (J := J) (R := R) (L := L) (Q := fun v h1 => (185 ≤ h1.1 ∧ s ≤ h1.2.1) ∧ wp codeT mX (d + 8) 142 29 [some (.inr (.inr (some 152))), some (.inl (a : Int)), some (.inl (L : Int)), p3, p4, p5] (v.toList ++ []) h1 QQ) (X := I 163) (W := I 164) (F := I 165) (H := I 166) (G := I 167) (fa := I 152 20) (op := I 152 21) (nm := I 152 25) (p := 0) (f := 0) (w := w) (k := 0) hm rfl hL2 (Nat.zero_le _) (Nat.le_refl 0) hX hWW hop hnm (by omega) hfa (by decide) hF hHH hG (fun q hq => absurd hq (Nat.not_lt_zero q)) ?_ ?_
    · refine s142_15.mpr ?_
      rw [← pm_id (I := I), hww]
      simp only [s142_16, s142_17, s142_18, s142_19, s142_20, s142_21, s142_22, s142_23, s142_24, s142_25, s142_26, s142_27, s142_28, Option.toList_some, Option.toList_none, List.cons_append, List.nil_append, Nat.le_refl, true_and, and_true, true_or, or_true, false_or, or_false, true_implies, false_implies, implies_true, not_true_eq_false, not_false_eq_true, eq_self, Nat.reduceLT, Nat.reduceLeDiff, Nat.reduceEqDiff, Nat.reduceAdd, Nat.reduceSub, Int.reduceLT, Int.reduceLE, Int.reduceEq, Int.reduceNeg, Int.reduceNe, Int.reduceAdd, Int.reduceSub, Int.reduceMul, Int.reduceToNat, Int.toNat_zero, Int.toNat_one, Int.toNat_natCast, am_cats, am_cat, am_st1, am_st2, am_clr, up2_na, up2_nj, up2_same, List.getElem?_cons_zero, List.getElem?_cons_succ, List.set_cons_zero, List.set_cons_succ, ne_eq, t152, pu_18, pu_22, pu_24, u_19]
      exact cl
    · intro n2 p2 k2 X2 W2 F2 H2 G2 op2 nm2 z1 z2 z3 z4 z5 z6 z7 z8 z9 z10 z11 z12
      have go := lw (L - p2) p2 n2 k2 X2 W2 F2 H2 G2 op2 nm2 (by omega) z3 z4 z5 z6 z7 z8 z9 z10 z11 z12
      refine ⟨⟨Nat.le_refl _, Nat.le_refl _⟩, ?_⟩
      simp only [s142_29, Option.toList_some, Option.toList_none, List.cons_append, List.nil_append, Nat.le_refl, true_and, and_true, true_or, or_true, false_or, or_false, true_implies, false_implies, implies_true, not_true_eq_false, not_false_eq_true, eq_self, Nat.reduceLT, Nat.reduceLeDiff, Nat.reduceEqDiff, Nat.reduceAdd, Nat.reduceSub, Int.reduceLT, Int.reduceLE, Int.reduceEq, Int.reduceNeg, Int.reduceNe, Int.reduceAdd, Int.reduceSub, Int.reduceMul, Int.reduceToNat, Int.toNat_zero, Int.toNat_one, Int.toNat_natCast, am_cats, am_cat, am_st1, am_st2, am_clr, up2_na, up2_nj, up2_same, List.getElem?_cons_zero, List.getElem?_cons_succ, List.set_cons_zero, List.set_cons_succ, ne_eq]
      exact go
    · intro g hg
      obtain ⟨I2, rfl⟩ := bd_ge hg
      have := fail _ hg
      refine ⟨⟨Nat.le_refl _, Nat.le_refl _⟩, ?_⟩
      simp only [s142_29, Option.toList_some, Option.toList_none, List.cons_append, List.nil_append, Nat.le_refl, true_and, and_true, true_or, or_true, false_or, or_false, true_implies, false_implies, implies_true, not_true_eq_false, not_false_eq_true, eq_self, Nat.reduceLT, Nat.reduceLeDiff, Nat.reduceEqDiff, Nat.reduceAdd, Nat.reduceSub, Int.reduceLT, Int.reduceLE, Int.reduceEq, Int.reduceNeg, Int.reduceNe, Int.reduceAdd, Int.reduceSub, Int.reduceMul, Int.reduceToNat, Int.toNat_zero, Int.toNat_one, Int.toNat_natCast, am_cats, am_cat, am_st1, am_st2, am_clr, up2_na, up2_nj, up2_same, List.getElem?_cons_zero, List.getElem?_cons_succ, List.set_cons_zero, List.set_cons_succ, ne_eq]
      exact this
  by_cases z1 : a < 0
  · simp only [s142_0, s142_1, s142_2, s142_3, s142_13, s142_14, e135, s135_0, s135_1, s135_2, s135_3, s135_4, s135_5, s135_6, s135_7, s135_8, s135_9, Option.toList_some, Option.toList_none, List.cons_append, List.nil_append, Nat.le_refl, true_and, and_true, true_or, or_true, false_or, or_false, true_implies, false_implies, implies_true, not_true_eq_false, not_false_eq_true, eq_self, Nat.reduceLT, Nat.reduceLeDiff, Nat.reduceEqDiff, Nat.reduceAdd, Nat.reduceSub, Int.reduceLT, Int.reduceLE, Int.reduceEq, Int.reduceNeg, Int.reduceNe, Int.reduceAdd, Int.reduceSub, Int.reduceMul, Int.reduceToNat, Int.toNat_zero, Int.toNat_one, Int.toNat_natCast, am_cats, am_cat, am_st1, am_st2, am_clr, up2_na, up2_nj, up2_same, List.getElem?_cons_zero, List.getElem?_cons_succ, List.set_cons_zero, List.set_cons_succ, ne_eq, t152, z1]
    exact neg (fun q => by omega)
  by_cases z2 : a < I 152 1
  · by_cases z3 : n < 1
    · simp only [s142_0, s142_1, s142_2, s142_3, s142_4, s142_5, s142_6, s142_7, s142_8, s142_13, s142_14, e135, s135_0, s135_1, s135_2, s135_3, s135_4, s135_5, s135_6, s135_7, s135_8, s135_9, e136, s136_0, s136_1, s136_2, s136_3, s136_4, s136_5, s136_6, s136_7, s136_8, s136_9, Option.toList_some, Option.toList_none, List.cons_append, List.nil_append, Nat.le_refl, true_and, and_true, true_or, or_true, false_or, or_false, true_implies, false_implies, implies_true, not_true_eq_false, not_false_eq_true, eq_self, Nat.reduceLT, Nat.reduceLeDiff, Nat.reduceEqDiff, Nat.reduceAdd, Nat.reduceSub, Int.reduceLT, Int.reduceLE, Int.reduceEq, Int.reduceNeg, Int.reduceNe, Int.reduceAdd, Int.reduceSub, Int.reduceMul, Int.reduceToNat, Int.toNat_zero, Int.toNat_one, Int.toNat_natCast, am_cats, am_cat, am_st1, am_st2, am_clr, up2_na, up2_nj, up2_same, List.getElem?_cons_zero, List.getElem?_cons_succ, List.set_cons_zero, List.set_cons_succ, ne_eq, t152, z1, z2, z3]
      exact neg (fun q => by omega)
    by_cases z4 : 160 < n
    · simp only [s142_0, s142_1, s142_2, s142_3, s142_4, s142_5, s142_6, s142_7, s142_8, s142_13, s142_14, e135, s135_0, s135_1, s135_2, s135_3, s135_4, s135_5, s135_6, s135_7, s135_8, s135_9, e136, s136_0, s136_1, s136_2, s136_3, s136_4, s136_5, s136_6, s136_7, s136_8, s136_9, Option.toList_some, Option.toList_none, List.cons_append, List.nil_append, Nat.le_refl, true_and, and_true, true_or, or_true, false_or, or_false, true_implies, false_implies, implies_true, not_true_eq_false, not_false_eq_true, eq_self, Nat.reduceLT, Nat.reduceLeDiff, Nat.reduceEqDiff, Nat.reduceAdd, Nat.reduceSub, Int.reduceLT, Int.reduceLE, Int.reduceEq, Int.reduceNeg, Int.reduceNe, Int.reduceAdd, Int.reduceSub, Int.reduceMul, Int.reduceToNat, Int.toNat_zero, Int.toNat_one, Int.toNat_natCast, am_cats, am_cat, am_st1, am_st2, am_clr, up2_na, up2_nj, up2_same, List.getElem?_cons_zero, List.getElem?_cons_succ, List.set_cons_zero, List.set_cons_succ, ne_eq, t152, z1, z2, z3, z4]
      exact neg (fun q => by omega)
    have key := fun z5 : n ≤ I 152 17 => key (by omega) (by omega) (by omega) (by omega) ⟨⟨by omega, by omega⟩, ⟨by omega, by omega⟩, z5⟩
    by_cases z5 : I 152 17 < n
    · simp only [s142_0, s142_1, s142_2, s142_3, s142_4, s142_5, s142_6, s142_7, s142_8, s142_9, s142_10, s142_11, s142_12, s142_13, s142_14, e135, s135_0, s135_1, s135_2, s135_3, s135_4, s135_5, s135_6, s135_7, s135_8, s135_9, e136, s136_0, s136_1, s136_2, s136_3, s136_4, s136_5, s136_6, s136_7, s136_8, s136_9, Option.toList_some, Option.toList_none, List.cons_append, List.nil_append, Nat.le_refl, true_and, and_true, true_or, or_true, false_or, or_false, true_implies, false_implies, implies_true, not_true_eq_false, not_false_eq_true, eq_self, Nat.reduceLT, Nat.reduceLeDiff, Nat.reduceEqDiff, Nat.reduceAdd, Nat.reduceSub, Int.reduceLT, Int.reduceLE, Int.reduceEq, Int.reduceNeg, Int.reduceNe, Int.reduceAdd, Int.reduceSub, Int.reduceMul, Int.reduceToNat, Int.toNat_zero, Int.toNat_one, Int.toNat_natCast, am_cats, am_cat, am_st1, am_st2, am_clr, up2_na, up2_nj, up2_same, List.getElem?_cons_zero, List.getElem?_cons_succ, List.set_cons_zero, List.set_cons_succ, ne_eq, t152, z1, z2, z3, z4, z5]
      exact neg (fun q => by omega)
    · simp only [s142_0, s142_1, s142_2, s142_3, s142_4, s142_5, s142_6, s142_7, s142_8, s142_9, s142_10, s142_11, s142_12, e135, s135_0, s135_1, s135_2, s135_3, s135_4, s135_5, s135_6, s135_7, s135_8, s135_9, e136, s136_0, s136_1, s136_2, s136_3, s136_4, s136_5, s136_6, s136_7, s136_8, s136_9, Option.toList_some, Option.toList_none, List.cons_append, List.nil_append, Nat.le_refl, true_and, and_true, true_or, or_true, false_or, or_false, true_implies, false_implies, implies_true, not_true_eq_false, not_false_eq_true, eq_self, Nat.reduceLT, Nat.reduceLeDiff, Nat.reduceEqDiff, Nat.reduceAdd, Nat.reduceSub, Int.reduceLT, Int.reduceLE, Int.reduceEq, Int.reduceNeg, Int.reduceNe, Int.reduceAdd, Int.reduceSub, Int.reduceMul, Int.reduceToNat, Int.toNat_zero, Int.toNat_one, Int.toNat_natCast, am_cats, am_cat, am_st1, am_st2, am_clr, up2_na, up2_nj, up2_same, List.getElem?_cons_zero, List.getElem?_cons_succ, List.set_cons_zero, List.set_cons_succ, ne_eq, t152, z1, z2, z3, z4, z5]
      exact key (by omega)
  · simp only [s142_0, s142_1, s142_2, s142_3, s142_13, s142_14, e135, s135_0, s135_1, s135_2, s135_3, s135_4, s135_5, s135_6, s135_7, s135_8, s135_9, Option.toList_some, Option.toList_none, List.cons_append, List.nil_append, Nat.le_refl, true_and, and_true, true_or, or_true, false_or, or_false, true_implies, false_implies, implies_true, not_true_eq_false, not_false_eq_true, eq_self, Nat.reduceLT, Nat.reduceLeDiff, Nat.reduceEqDiff, Nat.reduceAdd, Nat.reduceSub, Int.reduceLT, Int.reduceLE, Int.reduceEq, Int.reduceNeg, Int.reduceNe, Int.reduceAdd, Int.reduceSub, Int.reduceMul, Int.reduceToNat, Int.toNat_zero, Int.toNat_one, Int.toNat_natCast, am_cats, am_cat, am_st1, am_st2, am_clr, up2_na, up2_nj, up2_same, List.getElem?_cons_zero, List.getElem?_cons_succ, List.set_cons_zero, List.set_cons_succ, ne_eq, t152, z1, z2]
    exact neg (fun q => by omega)

/-! the pair law, as to the tape -/
section
variable {L s d : Nat} {X : Nat → Int}
theorem lawI : ∀ i, i ∈ [81, 116, 122, 128, 134, 140, 146] → tT.getD i (0, 0) = (4, 9) ∧ i < 185 := by decide +kernel
theorem lkT_80 {T : Nat → Nat × Nat} {R : Nat → Nat → Option Nat} {c s : Nat} {I J : Nat → Nat → Int} (h : eH (c, s, T, I, J, R)) {k : Nat} (hk : k < 6) : ∃ i, R 80 k = some i ∧ T i = (4, 9) ∧ i < 185 ∧ i ∈ [81, 116, 122, 128, 134, 140, 146] := by
  have hb : ∀ q, q < 6 → bR 80 q = [81, 116, 122, 128, 134, 140, 146] := by decide +kernel
  have h5 := eH5_of h
  obtain ⟨i, m, e⟩ := h5.2.2.2.2 80 k (by decide) hk (by rw [hb k hk]; intro z; cases z)
  rw [hb k hk] at m
  exact ⟨i, e, (h5.2.1 i (lawI i m).2).trans (lawI i m).1, (lawI i m).2, m⟩
theorem lkT_12 {T : Nat → Nat × Nat} {R : Nat → Nat → Option Nat} {c s : Nat} {I J : Nat → Nat → Int} (h : eH (c, s, T, I, J, R)) : ∃ i, R 0 12 = some i ∧ T i = (4, 9) ∧ i < 185 ∧ i ∈ [81, 116, 122, 128, 134, 140, 146] := by
  have hb : bR 0 12 = [81, 116, 122, 128, 134, 140, 146] := by decide +kernel
  have h5 := eH5_of h
  obtain ⟨i, m, e⟩ := h5.2.2.2.2 0 12 (by decide) (by decide) (by rw [hb]; intro z; cases z)
  rw [hb] at m
  exact ⟨i, e, (h5.2.1 i (lawI i m).2).trans (lawI i m).1, (lawI i m).2, m⟩
/-- the class's law, as far as its tape -/
theorem x26 {d s : Nat} {T : Nat → Nat × Nat} {I J : Nat → Nat → Int} {R : Nat → Nat → Option Nat} {Q : Option AV → AH → Prop} {a n : Int} (hd : 40 ≤ d) (hH : eH (185, s, T, I, J, R)) (hs : scr (185, s, T, I, J, R)) (q0 : ¬ ((0 ≤ a ∧ a < I 0 1) ∧ (1 ≤ n ∧ n ≤ 160) ∧ n ≤ I 1 1) → Q (some (.inl (-1))) (185, s, T, I, J, R)) (q1 : ((0 ≤ a ∧ a < I 0 1) ∧ (1 ≤ n ∧ n ≤ 160) ∧ n ≤ I 1 1) → ∀ z I1 J1 R1, I1 1 1 = 0 → Q (some (.inl z)) (185, s, T, I1, J1, R1)) : wpc codeT mX (d + 1) 26 [.inr (.inr (some 0)), .inl a, .inl n] (185, s, T, I, J, R) Q := by
  have hh := hp_of (eH5_of hH)
  have b1 : 0 ≤ I 0 1 ∧ I 0 1 ≤ 6 := ebd hH (by decide) (by decide) (by decide)
  by_cases hg : (0 ≤ a ∧ a < I 0 1) ∧ (1 ≤ n ∧ n ≤ 160) ∧ n ≤ I 1 1
  · replace q1 := q1 hg
    clear q0
    obtain ⟨g1, g2, g3⟩ := hg
    have g3' : ¬ I 1 1 < n := by omega
    obtain ⟨sp, e12, tsp, sp185, msp⟩ := lkT_12 hH
    obtain ⟨k, rfl⟩ : ∃ n : Nat, a = n := ⟨a.toNat, by omega⟩
    have hc72 := cn_all 72 (by decide) cn72 rfl
    have hrd := hc72 (185, s, T, I, J, R) [some (.inr (.inr (some 79))), some (.inr (.inr (some 2))), some (.inl n), some (.inr (.inr (some sp))), none] hH hs ⟨⟨⟨rfl, List.mem_singleton.mpr rfl, by decide, by decide⟩, ⟨rfl, List.mem_singleton.mpr rfl, by decide, by decide⟩, ⟨rfl, g2.1, g2.2⟩, ⟨rfl, msp, by
      simp only [List.mem_cons, List.not_mem_nil, or_false] at msp
      show (81 : Int) ≤ (sp : Int)
      omega, by
      simp only [List.mem_cons, List.not_mem_nil, or_false] at msp
      show (sp : Int) ≤ 146
      omega⟩, trivial, trivial⟩, fun e he => (List.not_mem_nil he).elim, fun e he => (List.not_mem_nil he).elim, fun e he => (List.not_mem_nil he).elim⟩ d (Nat.le_trans (by decide) hd)
    have tail : ∀ v g1, conQ cn72 (185, s, T, I, J, R) v g1 → (185 ≤ g1.1 ∧ s ≤ g1.2.1) ∧ wp codeT mX (d + 1) 26 25 [some (.inr (.inr (some 0))), some (.inl (k : Int)), some (.inl n), none, none] (v.toList ++ []) g1 Q := by
      rintro v ⟨c1, s1, T1, I1, J1, R1⟩ ⟨r1, r2, r3⟩
      obtain ⟨z, rfl⟩ : ∃ z : Int, v = some (.inl z) := ansB_r (lg := false) (c := cn72) rfl r1
      have ec : c1 = 185 := r2.1
      have es : s1 = s := r3.2.1
      have eT : T1 = T := r3.2.2.1
      subst ec es eT
      have hh1 := hp_of (eH5_of r2)
      obtain ⟨i1, f1, t1, l1, -⟩ := lkT_80 r2 (k := k) (by omega)
      obtain ⟨i2, f2, t2, l2, -⟩ := lkT_12 r2
      have u1 : 0 ≤ (k : Int) ∧ (k : Int) < ((6 : Nat) : Int) := by omega
      refine ⟨⟨Nat.le_refl _, Nat.le_refl _⟩, ?_⟩
      simp only [s26_25, s26_26, s26_27, s26_28, s26_29, s26_30, s26_31, s26_32, s26_33, s26_34, s26_35, s26_36, s26_37, s26_38, s26_39, s26_40, s26_41, s26_42, s26_43, s26_44, s26_45, s26_46, s26_47, s26_48, s26_49, s26_50, s26_51, s26_52, e49, s49_0, s49_1, s49_2, s49_3, Option.toList_some, Option.toList_none, List.cons_append, List.nil_append, Nat.le_refl, true_and, and_true, true_or, or_true, false_or, or_false, true_implies, false_implies, implies_true, not_true_eq_false, not_false_eq_true, eq_self, Nat.reduceLT, Nat.reduceLeDiff, Nat.reduceEqDiff, Nat.reduceAdd, Nat.reduceSub, Int.reduceLT, Int.reduceLE, Int.reduceEq, Int.reduceNeg, Int.reduceNe, Int.reduceAdd, Int.reduceSub, Int.reduceMul, Int.reduceToNat, Int.toNat_zero, Int.toNat_one, Int.toNat_natCast, am_cats, am_cat, am_st1, am_st2, am_clr, up2_na, up2_nj, up2_same, List.getElem?_cons_zero, List.getElem?_cons_succ, List.set_cons_zero, List.set_cons_succ, ne_eq, tk_0 hh1, tk_1 hh1, tk_80 hh1, rk_0_5 hh1, rk_0_11 hh1, f1, f2, t1, t2, l1, l2, u1]
      exact ⟨fun _ => q1 _ _ _ _ (up2_same _ _ _ _), fun _ => q1 _ _ _ _ (up2_same _ _ _ _)⟩
    simp only [s26_0, s26_1, s26_2, s26_3, s26_4, s26_5, s26_6, s26_7, s26_8, s26_9, s26_10, s26_11, s26_12, s26_13, s26_14, s26_15, s26_16, s26_17, s26_18, s26_19, s26_20, s26_21, s26_22, s26_23, s26_24, e26, Option.toList_some, Option.toList_none, List.cons_append, List.nil_append, Nat.le_refl, true_and, and_true, true_or, or_true, false_or, or_false, true_implies, false_implies, implies_true, not_true_eq_false, not_false_eq_true, eq_self, Nat.reduceLT, Nat.reduceLeDiff, Nat.reduceEqDiff, Nat.reduceAdd, Nat.reduceSub, Int.reduceLT, Int.reduceLE, Int.reduceEq, Int.reduceNeg, Int.reduceNe, Int.reduceAdd, Int.reduceSub, Int.reduceMul, Int.reduceToNat, Int.toNat_zero, Int.toNat_one, Int.toNat_natCast, am_cats, am_cat, am_st1, am_st2, am_clr, up2_na, up2_nj, up2_same, List.getElem?_cons_zero, List.getElem?_cons_succ, List.set_cons_zero, List.set_cons_succ, ne_eq, tk_0 hh, tk_1 hh, tk_79 hh, rk_0_5 hh, rk_0_10 hh, rk_1_0 hh, k17 hh, k18, i10, g1, g2, g3', e12]
    exact wp_mono codeT mX hrd tail
  · clear q1
    replace q0 := q0 hg
    simp only [s26_0, s26_1, s26_2, s26_3, s26_4, s26_5, s26_6, s26_7, s26_8, s26_9, s26_10, s26_11, s26_12, s26_13, s26_14, s26_15, e26, Option.toList_some, Option.toList_none, List.cons_append, List.nil_append, Nat.le_refl, true_and, and_true, true_or, or_true, false_or, or_false, true_implies, false_implies, implies_true, not_true_eq_false, not_false_eq_true, eq_self, Nat.reduceLT, Nat.reduceLeDiff, Nat.reduceEqDiff, Nat.reduceAdd, Nat.reduceSub, Int.reduceLT, Int.reduceLE, Int.reduceEq, Int.reduceNeg, Int.reduceNe, Int.reduceAdd, Int.reduceSub, Int.reduceMul, Int.reduceToNat, Int.toNat_zero, Int.toNat_one, Int.toNat_natCast, am_cats, am_cat, am_st1, am_st2, am_clr, up2_na, up2_nj, up2_same, List.getElem?_cons_zero, List.getElem?_cons_succ, List.set_cons_zero, List.set_cons_succ, ne_eq, tk_0 hh, tk_1 hh, rk_0_5 hh, k17 hh, k18, i10, Classical.not_not]
    exact ⟨fun _ => q0, fun z1 => ⟨fun _ => q0, fun z2 => ⟨fun _ => q0, fun z3 => absurd ⟨z1, z2, by omega⟩ hg⟩⟩⟩
theorem pr_law (hL : L ≤ 3072) (hX : ∀ j, rg32 (X j)) (hd : 48 ≤ d) : pr L X s LKP d 26 142 2 false false := by
  refine pr_mk (cx := cn73) (cm := cn178) (nx := 2) (nm := 3) hL hX (cn_all 73 (by decide) cn73 rfl) (cn_all 178 (by decide) cn178 rfl) rfl (Nat.le_trans (by decide) hd) (fun as g hl hr hH hs hP => ?_)
  obtain ⟨a, n, rfl⟩ := len2 hl
  obtain ⟨c, s, T, I, J, R⟩ := g
  have hc : c = 185 := hH.1
  subst hc
  have hP : LK I := hP
  obtain ⟨l0, l1, l2, l3, l4, l5, l6, l7, l8, l9, l10, l11, l12, l13, l14, l15⟩ := hP
  have e1 : I 0 1 = I 152 1 := l1
  have e8 : I 1 1 = I 152 17 := l8
  obtain ⟨d, rfl⟩ : ∃ e, d = e + 8 := ⟨d - 8, by omega⟩
  show wpc codeT mX (d + 7 + 1) 26 [.inr (.inr (some 0)), .inl a, .inl n] _ _
  refine x26 (by omega) hH hs (fun hg _ hH1 m1 s1 => ⟨_, rfl, ?_⟩) (fun hg z I1 J1 R1 hz _ hH1 m1 s1 => ⟨_, rfl, ?_⟩)
  · have hg2 : ¬ ((0 ≤ a ∧ a < I 152 1) ∧ (1 ≤ n ∧ n ≤ 160) ∧ n ≤ I 152 17) := by rw [← e1, ← e8]; exact hg
    show wp codeT mX (d + 8) 142 0 [some (.inr (.inr (some 152))), some (.inl a), some (.inl n), none, none, none] [] (185, s, T, I, J, R) _
    refine w_law hH (fun _ _ hH2 m2 => ?_) (fun h => absurd h hg2) (fun h => absurd h hg2)
    exact ⟨_, rfl, fun z => (by cases z), l0, l1, l2, l3, l4, l5, l6, l7, l8, l9, l10, l11, l12, l13, l14, l15⟩
  · have w1 : I1 152 1 = I 152 1 := (m1.2.2.2 152 1 (by decide +kernel)).1
    have w8 : I1 152 17 = I 152 17 := (m1.2.2.2 152 17 (by decide +kernel)).1
    have hg2 : ((0 ≤ a ∧ a < I1 152 1) ∧ (1 ≤ n ∧ n ≤ 160) ∧ n ≤ I1 152 17) := by rw [w1, w8, ← e1, ← e8]; exact hg
    show wp codeT mX (d + 8) 142 0 [some (.inr (.inr (some 152))), some (.inl a), some (.inl n), none, none, none] [] (185, s, T, I1, J1, R1) _
    have fin : ∀ I2 J2 R2, I2 152 17 = 0 → I2 1 1 = 0 → eM cn178.2.2.2.1 (185, s, T, I1, J1, R1) (185, s, T, I2, J2, R2) → LKP (185, s, T, I2, J2, R2) := by
      intro I2 J2 R2 h1 h2 m2
      refine ⟨rdS_2 (twn_S 0 0 152 0) (by decide +kernel : (disj cn73.2.2.2.1 _ && disj cn178.2.2.2.1 _) = true) m1 m2 l0, rdS_2 (twn_S 0 1 152 1) (by decide +kernel : (disj cn73.2.2.2.1 _ && disj cn178.2.2.2.1 _) = true) m1 m2 l1, rdS_2 (twn_S 0 2 152 2) (by decide +kernel : (disj cn73.2.2.2.1 _ && disj cn178.2.2.2.1 _) = true) m1 m2 l2, rdS_2 (twn_S 0 3 152 5) (by decide +kernel : (disj cn73.2.2.2.1 _ && disj cn178.2.2.2.1 _) = true) m1 m2 l3, rdS_2 (twn_S 0 4 152 6) (by decide +kernel : (disj cn73.2.2.2.1 _ && disj cn178.2.2.2.1 _) = true) m1 m2 l4, rdS_2 (twn_S 3 3 152 3) (by decide +kernel : (disj cn73.2.2.2.1 _ && disj cn178.2.2.2.1 _) = true) m1 m2 l5, rdS_2 (twn_S 17 3 152 4) (by decide +kernel : (disj cn73.2.2.2.1 _ && disj cn178.2.2.2.1 _) = true) m1 m2 l6, rdS_2 (twn_S 102 3 152 46) (by decide +kernel : (disj cn73.2.2.2.1 _ && disj cn178.2.2.2.1 _) = true) m1 m2 l7, ?_, ?_, rdS_2 (lkS_S) (by decide +kernel : (disj cn73.2.2.2.1 _ && disj cn178.2.2.2.1 _) = true) m1 m2 l10, rdS_2 (lkT_S) (by decide +kernel : (disj cn73.2.2.2.1 _ && disj cn178.2.2.2.1 _) = true) m1 m2 l11, rdS_2 (lkB_S) (by decide +kernel : (disj cn73.2.2.2.1 _ && disj cn178.2.2.2.1 _) = true) m1 m2 l12, rdS_2 (lkO_S) (by decide +kernel : (disj cn73.2.2.2.1 _ && disj cn178.2.2.2.1 _) = true) m1 m2 l13, rdS_2 (lkC_S) (by decide +kernel : (disj cn73.2.2.2.1 _ && disj cn178.2.2.2.1 _) = true) m1 m2 l14, rdS_2 (lkQ_S) (by decide +kernel : (disj cn73.2.2.2.1 _ && disj cn178.2.2.2.1 _) = true) m1 m2 l15⟩
      · exact h2.trans h1.symm
      · intro j hj
        have hj : (j : Int) < I2 1 1 := hj
        rw [h2] at hj
        omega
    refine w_law hH1 (fun h => absurd hg2 h) (fun _ p fa op cm w sm nm X W F H G _ _ _ _ _ _ _ _ _ _ _ _ _ hH2 m2 => ?_) (fun _ a' _ p fa op w nm cm k X W F H G _ _ _ _ _ _ _ _ _ _ _ _ _ _ hH2 m2 => ?_)
    · exact ⟨_, rfl, fun z => (by cases z), fin _ _ _ rfl hz m2⟩
    · exact ⟨_, rfl, fun z => (by cases z), fin _ _ _ rfl hz m2⟩
end
