/-! by hand, 15: the law's reader: readsCompared -/
theorem bd_ge {s : Nat} {T : Nat → Nat × Nat} {I J : Nat → Nat → Int} {R : Nat → Nat → Option Nat} {g : AH} (h : bdH s T I J R (some (.inl 0)) g) : ∃ (I2 : Nat → Nat → Int), g = (185, s, T, I2, J, R) := by
  obtain ⟨-, p3, fa3, op3, cm3, w3, sm3, nm3, X3, W3, F3, H3, G3, -, -, -, -, -, -, -, -, -, -, -, -, rfl⟩ := h
  exact ⟨_, rfl⟩
section
variable {d s : Nat} {T : Nat → Nat × Nat} {I J : Nat → Nat → Int} {R : Nat → Nat → Option Nat} {Q : Option AV → AH → Prop} {L : Nat} {fa op sm nm : Int} {X W F H G X0 : Nat → Int} {f n p : Nat}
set_option maxHeartbeats 1000000 in
theorem w_compared (hm : mdl T R) (hL : I 152 19 = (L : Int)) (hL2 : L ≤ 160) (hfa : rg fa) (hsm : 0 ≤ sm ∧ sm ≤ 12) (hF : YB F) (hH : YB H) (hG : YB G) (hop : rg op) (hnm : rg nm) {k : Nat} (hS : CS L X0 f 0 0 X W n (k + 1) p) (h1 : ∀ (n' k' p' : Nat) (X' W' : Nat → Int) (op' nm' : Int), CS L X0 f 0 1 X' W' n' (k' + 1) p' → p ≤ p' → rg op' → rg nm' → Q (some (.inl 1)) (185, s, T, pI I (p' : Int) fa op' ((f + n' : Nat) : Int) ((k' + 1 : Nat) : Int) sm nm' X' W' F H G, J, R)) (h0 : ∀ g, bdH s T I J R (some (.inl 0)) g → Q (some (.inl 0)) g) : wpc codeT mX (d + 5) 158 [.inr (.inr (some 152))] (185, s, T, pI I (p : Int) fa op ((f + n : Nat) : Int) ((k + 1 : Nat) : Int) sm nm X W F H G, J, R) Q := by
  have t152 : T 152 = (12, 53) := hm.1 152 (by decide)
  have t163 : T 163 = (100, 180) := hm.1 163 (by decide)
  have r1 : R 152 26 = some 163 := hm.2 26 163 (by decide +kernel) (by decide)
  have ⟨a1, a2, a3, a4, a5, a6, a7, a8, a9, a10, a11, a12⟩ := hS
  simp only [s158_0, s158_1, e158, Option.toList_some, Option.toList_none, List.cons_append, List.nil_append, Nat.le_refl, true_and, and_true, true_or, or_true, false_or, or_false, true_implies, false_implies, implies_true, not_true_eq_false, not_false_eq_true, eq_self, Nat.reduceLT, Nat.reduceLeDiff, Nat.reduceEqDiff, Nat.reduceAdd, Nat.reduceSub, Int.reduceLT, Int.reduceLE, Int.reduceEq, Int.reduceNeg, Int.reduceNe, Int.reduceAdd, Int.reduceSub, Int.reduceMul, Int.reduceToNat, Int.toNat_zero, Int.toNat_one, Int.toNat_natCast, am_cats, am_cat, am_st1, am_st2, am_clr, up2_na, up2_nj, up2_same, List.getElem?_cons_zero, List.getElem?_cons_succ, List.set_cons_zero, List.set_cons_succ, ne_eq, t152]
  refine w_sum (n0 := 0) (e := 0) hm hL hL2 hfa hsm hF hH hG hop hnm a1 a2 a3 a4 a5 (fun i hi => (a6 i hi).1) a11 a12 ?_ ?_
  · intro n2 p2 X2 W2 op2 nm2 g1 g2 g3 g4
    have hS2 := CS_of hS g1
    have hp2 : p2 ≤ L := hS2.2.2.2.2.1
    have kh := k_here (J := J) (s := s) hm hL hL2 hp2
    have hpL : ∀ c, hr I L p2 = c → c ≠ -1 → p2 < L := fun c z1 z2 => hr_lt z1 z2
    generalize hr I L p2 = c at *
    have hpL : c ≠ -1 → p2 < L := hpL c rfl
    have ⟨b1, b2, b3, b4, b5, b6, b7, b8, b9, b10, b11, b12⟩ := hS2
    have g0 : ∀ fa, rg fa → Q (some (.inl 0)) (185, s, T, pI I (p2 : Int) fa op2 ((f + n2 : Nat) : Int) ((k + 1 : Nat) : Int) sm nm2 X2 W2 F H G, J, R) := fun fa' hfa' => h0 _ (bd_i (by omega) hfa' g3 (by omega) (by omega) hsm g4 b11 b12 hF hH hG)
    have key : ∀ o : Int, 7 ≤ o ∧ o ≤ 9 → c ≠ -1 → wp codeT mX (d + 5) 158 34 [some (.inr (.inr (some 152))), some (.inl o)] [] (185, s, T, pI I (p2 : Int) fa op2 ((f + n2 : Nat) : Int) ((k + 1 : Nat) : Int) sm nm2 X2 W2 F H G, J, R) Q := by
      intro o ho hc
      have hpL := hpL hc
      have hS3 := CS_tk hS2 hpL
      have ⟨c1, c2, c3, c4, c5, c6, c7, c8, c9, c10, c11, c12⟩ := hS3
      have pn : p2 ≤ 1080 := by omega
      have w1 := w32_s pn
      refine s158_34.mpr ?_
      simp only [s158_35, s158_36, s158_37, s158_38, s158_39, s158_40, s158_41, Option.toList_some, Option.toList_none, List.cons_append, List.nil_append, Nat.le_refl, true_and, and_true, true_or, or_true, false_or, or_false, true_implies, false_implies, implies_true, not_true_eq_false, not_false_eq_true, eq_self, Nat.reduceLT, Nat.reduceLeDiff, Nat.reduceEqDiff, Nat.reduceAdd, Nat.reduceSub, Int.reduceLT, Int.reduceLE, Int.reduceEq, Int.reduceNeg, Int.reduceNe, Int.reduceAdd, Int.reduceSub, Int.reduceMul, Int.reduceToNat, Int.toNat_zero, Int.toNat_one, Int.toNat_natCast, am_cats, am_cat, am_st1, am_st2, am_clr, up2_na, up2_nj, up2_same, List.getElem?_cons_zero, List.getElem?_cons_succ, List.set_cons_zero, List.set_cons_succ, ne_eq, t152, pI_18, pu_18, w1]
      refine w_sum (n0 := 1) (e := 1) hm hL hL2 hfa hsm hF hH hG g3 g4 c1 c2 c3 c4 c5 (fun i hi => (c6 i hi).1) c11 c12 ?_ ?_
      · intro n4 p4 X4 W4 op4 nm4 q1 q2 q3 q4
        clear w1
        refine ⟨⟨Nat.le_refl _, Nat.le_refl _⟩, ?_⟩
        have hS4 := CS_of hS3 q1
        have ⟨e1, e2, e3, e4, e5, e6, e7, e8, e9, e10, e11, e12⟩ := hS4
        obtain ⟨oc, ov⟩ := cOp_c (o := o) (v := 0) (by omega) (by decide) (by decide)
        rw [Int.add_zero] at oc
        have hS5 := CS_code (c := 1048576 * o) (D2 := 1) hS4 (by omega) (by omega) (by unfold cNeed; rw [if_neg (by omega), if_neg (by omega)]; decide) (by unfold cEff; rw [if_neg (by omega), if_neg (by omega)]; rfl)
        have fn : f + n4 ≤ 1080 := by omega
        have b1 : 0 ≤ ((f + n4 : Nat) : Int) ∧ ((f + n4 : Nat) : Int) < ((180 : Nat) : Int) := by omega
        have pp : p ≤ p4 := Nat.le_trans g2 (Nat.le_trans (Nat.le_succ _) q2)
        have eo : w32 (1048576 * o) = 1048576 * o := w32_eq (by omega) (by omega)
        have w2 := w32_s fn
        have en := w_ends (d := d + 3) (s := s) (T := T) (J := J) (R := R) (I := I) (fa := fa) (sm := sm) (nm := nm4) (F := F) (H := H) (G := G) (Q := fun v h1 => (185 ≤ h1.1 ∧ s ≤ h1.2.1) ∧ wp codeT mX (d + 5) 158 51 [some (.inr (.inr (some 152))), some (.inl o)] (v.toList ++ []) h1 Q) hm hL2 k (n4 + 1) _ op4 hS5 q3 (fun n' k' X' op' y1 y2 => ⟨⟨Nat.le_refl _, Nat.le_refl _⟩, by
          have := h1 n' k' p4 X' W4 op' nm4 y1 pp y2 q4
          simp only [s158_51, s158_52, Option.toList_some, Option.toList_none, List.cons_append, List.nil_append, Nat.le_refl, true_and, and_true, true_or, or_true, false_or, or_false, true_implies, false_implies, implies_true, not_true_eq_false, not_false_eq_true, eq_self, Nat.reduceLT, Nat.reduceLeDiff, Nat.reduceEqDiff, Nat.reduceAdd, Nat.reduceSub, Int.reduceLT, Int.reduceLE, Int.reduceEq, Int.reduceNeg, Int.reduceNe, Int.reduceAdd, Int.reduceSub, Int.reduceMul, Int.reduceToNat, Int.toNat_zero, Int.toNat_one, Int.toNat_natCast, am_cats, am_cat, am_st1, am_st2, am_clr, up2_na, up2_nj, up2_same, List.getElem?_cons_zero, List.getElem?_cons_succ, List.set_cons_zero, List.set_cons_succ, ne_eq]
          exact this⟩)
        simp only [s158_42, s158_45, s158_46, s158_47, s158_48, s158_49, s158_50, e151, s151_0, s151_1, s151_2, s151_3, s151_4, s151_5, s151_6, s151_7, s151_8, s151_9, s151_10, s151_11, s151_12, s151_13, s151_14, s151_15, s151_16, e159, Option.toList_some, Option.toList_none, List.cons_append, List.nil_append, Nat.le_refl, true_and, and_true, true_or, or_true, false_or, or_false, true_implies, false_implies, implies_true, not_true_eq_false, not_false_eq_true, eq_self, Nat.reduceLT, Nat.reduceLeDiff, Nat.reduceEqDiff, Nat.reduceAdd, Nat.reduceSub, Int.reduceLT, Int.reduceLE, Int.reduceEq, Int.reduceNeg, Int.reduceNe, Int.reduceAdd, Int.reduceSub, Int.reduceMul, Int.reduceToNat, Int.toNat_zero, Int.toNat_one, Int.toNat_natCast, am_cats, am_cat, am_st1, am_st2, am_clr, up2_na, up2_nj, up2_same, List.getElem?_cons_zero, List.getElem?_cons_succ, List.set_cons_zero, List.set_cons_succ, ne_eq, t152, t163, r1, pI_22, pu_22, pu_163, b1, eo, w2, Int.add_zero]
        exact en
      · intro g hg
        obtain ⟨I2, rfl⟩ := bd_ge hg
        have := h0 _ hg
        refine ⟨⟨Nat.le_refl _, Nat.le_refl _⟩, ?_⟩
        simp only [s158_42, s158_43, s158_44, Option.toList_some, Option.toList_none, List.cons_append, List.nil_append, Nat.le_refl, true_and, and_true, true_or, or_true, false_or, or_false, true_implies, false_implies, implies_true, not_true_eq_false, not_false_eq_true, eq_self, Nat.reduceLT, Nat.reduceLeDiff, Nat.reduceEqDiff, Nat.reduceAdd, Nat.reduceSub, Int.reduceLT, Int.reduceLE, Int.reduceEq, Int.reduceNeg, Int.reduceNe, Int.reduceAdd, Int.reduceSub, Int.reduceMul, Int.reduceToNat, Int.toNat_zero, Int.toNat_one, Int.toNat_natCast, am_cats, am_cat, am_st1, am_st2, am_clr, up2_na, up2_nj, up2_same, List.getElem?_cons_zero, List.getElem?_cons_succ, List.set_cons_zero, List.set_cons_succ, ne_eq]
        exact this
    refine ⟨⟨Nat.le_refl _, Nat.le_refl _⟩, ?_⟩
    by_cases c60 : c = 60
    · subst c60
      have := key 7 (by decide) (by decide)
      simp only [s158_2, s158_5, s158_6, s158_7, s158_8, s158_9, s158_10, s158_24, s158_25, s158_26, s158_27, Option.toList_some, Option.toList_none, List.cons_append, List.nil_append, Nat.le_refl, true_and, and_true, true_or, or_true, false_or, or_false, true_implies, false_implies, implies_true, not_true_eq_false, not_false_eq_true, eq_self, Nat.reduceLT, Nat.reduceLeDiff, Nat.reduceEqDiff, Nat.reduceAdd, Nat.reduceSub, Int.reduceLT, Int.reduceLE, Int.reduceEq, Int.reduceNeg, Int.reduceNe, Int.reduceAdd, Int.reduceSub, Int.reduceMul, Int.reduceToNat, Int.toNat_zero, Int.toNat_one, Int.toNat_natCast, am_cats, am_cat, am_st1, am_st2, am_clr, up2_na, up2_nj, up2_same, List.getElem?_cons_zero, List.getElem?_cons_succ, List.set_cons_zero, List.set_cons_succ, ne_eq, t152, kh]
      exact this
    · by_cases c62 : c = 62
      · subst c62
        have := key 8 (by decide) (by decide)
        simp only [s158_2, s158_5, s158_6, s158_7, s158_8, s158_11, s158_12, s158_13, s158_14, s158_15, s158_16, s158_24, s158_25, s158_26, s158_27, Option.toList_some, Option.toList_none, List.cons_append, List.nil_append, Nat.le_refl, true_and, and_true, true_or, or_true, false_or, or_false, true_implies, false_implies, implies_true, not_true_eq_false, not_false_eq_true, eq_self, Nat.reduceLT, Nat.reduceLeDiff, Nat.reduceEqDiff, Nat.reduceAdd, Nat.reduceSub, Int.reduceLT, Int.reduceLE, Int.reduceEq, Int.reduceNeg, Int.reduceNe, Int.reduceAdd, Int.reduceSub, Int.reduceMul, Int.reduceToNat, Int.toNat_zero, Int.toNat_one, Int.toNat_natCast, am_cats, am_cat, am_st1, am_st2, am_clr, up2_na, up2_nj, up2_same, List.getElem?_cons_zero, List.getElem?_cons_succ, List.set_cons_zero, List.set_cons_succ, ne_eq, t152, kh]
        exact this
      · by_cases c61 : c = 61
        · subst c61
          have := key 9 (by decide) (by decide)
          simp only [s158_2, s158_5, s158_6, s158_7, s158_8, s158_11, s158_12, s158_13, s158_14, s158_17, s158_18, s158_19, s158_20, s158_21, s158_22, s158_24, s158_25, s158_26, s158_27, Option.toList_some, Option.toList_none, List.cons_append, List.nil_append, Nat.le_refl, true_and, and_true, true_or, or_true, false_or, or_false, true_implies, false_implies, implies_true, not_true_eq_false, not_false_eq_true, eq_self, Nat.reduceLT, Nat.reduceLeDiff, Nat.reduceEqDiff, Nat.reduceAdd, Nat.reduceSub, Int.reduceLT, Int.reduceLE, Int.reduceEq, Int.reduceNeg, Int.reduceNe, Int.reduceAdd, Int.reduceSub, Int.reduceMul, Int.reduceToNat, Int.toNat_zero, Int.toNat_one, Int.toNat_natCast, am_cats, am_cat, am_st1, am_st2, am_clr, up2_na, up2_nj, up2_same, List.getElem?_cons_zero, List.getElem?_cons_succ, List.set_cons_zero, List.set_cons_succ, ne_eq, t152, kh]
          exact this
        · simp only [s158_2, s158_5, s158_6, s158_7, s158_8, s158_11, s158_12, s158_13, s158_14, s158_17, s158_18, s158_19, s158_20, s158_23, s158_24, s158_25, s158_26, s158_27, s158_28, s158_29, s158_30, s158_31, s158_32, s158_33, e145, s145_0, s145_1, s145_2, s145_3, s145_4, s145_5, s145_6, s145_7, s145_8, Option.toList_some, Option.toList_none, List.cons_append, List.nil_append, Nat.le_refl, true_and, and_true, true_or, or_true, false_or, or_false, true_implies, false_implies, implies_true, not_true_eq_false, not_false_eq_true, eq_self, Nat.reduceLT, Nat.reduceLeDiff, Nat.reduceEqDiff, Nat.reduceAdd, Nat.reduceSub, Int.reduceLT, Int.reduceLE, Int.reduceEq, Int.reduceNeg, Int.reduceNe, Int.reduceAdd, Int.reduceSub, Int.reduceMul, Int.reduceToNat, Int.toNat_zero, Int.toNat_one, Int.toNat_natCast, am_cats, am_cat, am_st1, am_st2, am_clr, up2_na, up2_nj, up2_same, List.getElem?_cons_zero, List.getElem?_cons_succ, List.set_cons_zero, List.set_cons_succ, ne_eq, t152, kh, c60, c61, c62, pI_18, pu_20]
          exact g0 _ (w32_lo _)
  · intro g hg
    obtain ⟨I2, rfl⟩ := bd_ge hg
    have := h0 _ hg
    refine ⟨⟨Nat.le_refl _, Nat.le_refl _⟩, ?_⟩
    simp only [s158_2, s158_3, s158_4, Option.toList_some, Option.toList_none, List.cons_append, List.nil_append, Nat.le_refl, true_and, and_true, true_or, or_true, false_or, or_false, true_implies, false_implies, implies_true, not_true_eq_false, not_false_eq_true, eq_self, Nat.reduceLT, Nat.reduceLeDiff, Nat.reduceEqDiff, Nat.reduceAdd, Nat.reduceSub, Int.reduceLT, Int.reduceLE, Int.reduceEq, Int.reduceNeg, Int.reduceNe, Int.reduceAdd, Int.reduceSub, Int.reduceMul, Int.reduceToNat, Int.toNat_zero, Int.toNat_one, Int.toNat_natCast, am_cats, am_cat, am_st1, am_st2, am_clr, up2_na, up2_nj, up2_same, List.getElem?_cons_zero, List.getElem?_cons_succ, List.set_cons_zero, List.set_cons_succ, ne_eq]
    exact this
end
