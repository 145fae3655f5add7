/-! by hand, 10: the law's reader: readsFactor -/
section
variable {d s : Nat} {T : Nat → Nat × Nat} {I J : Nat → Nat → Int} {R : Nat → Nat → Option Nat} {Q : Option AV → AH → Prop} {L : Nat} {fa sm : Int} {X F H G X0 W0 : Nat → Int} {f n1 w0 n0 e n : Nat}
set_option maxHeartbeats 1000000 in
theorem rf_loop (hm : mdl T R) (hL : I 152 19 = (L : Int)) (hL2 : L ≤ 160) (hfa : rg fa) (hsm : 0 ≤ sm ∧ sm ≤ 12) (hF : YB F) (hH : YB H) (hG : YB G) {pb : Nat} (h1 : ∀ (n' w' p' : Nat) (X' W' : Nat → Int) (op' nm' : Int), SS L X0 W0 f n1 w0 n0 e X' W' n' w' p' 1 → pb ≤ p' → rg op' → rg nm' → Q (some (.inl 1)) (185, s, T, pI I (p' : Int) fa op' ((f + n' : Nat) : Int) (w' : Int) sm nm' X' W' F H G, J, R)) (h0 : ∀ g, bdH s T I J R (some (.inl 0)) g → Q (some (.inl 0)) g) : ∀ (r p w : Nat) (W : Nat → Int) (op nm : Int), p + r = L → pb ≤ p → SS L X0 W0 f n1 w0 n0 e X W n w p 0 → rg op → rg nm → wp codeT mX (d + 3) 147 0 [some (.inr (.inr (some 152))), none] [] (185, s, T, pI I (p : Int) fa op ((f + n : Nat) : Int) (w : Int) sm nm X W F H G, J, R) Q := by
  have t152 : T 152 = (12, 53) := hm.1 152 (by decide)
  have t163 : T 163 = (100, 180) := hm.1 163 (by decide)
  have t164 : T 164 = (100, 180) := hm.1 164 (by decide)
  have r1 : R 152 26 = some 163 := hm.2 26 163 (by decide +kernel) (by decide)
  have r2 : R 152 27 = some 164 := hm.2 27 164 (by decide +kernel) (by decide)
  intro r
  induction r with
  | zero =>
    intro p w W op nm hr0 hpb hS hop hnm
    have hp : p ≤ L := by omega
    have kh := k_here (J := J) (s := s) hm hL hL2 hp
    have hc : hr I L p = -1 := by unfold hr; rw [if_neg (by omega)]
    rw [hc] at kh
    have ⟨a1, a2, a3, a4, a5, a6, a7, a8, a9, a10, a11, a12, a13⟩ := hS
    have kf : ∀ (d : Nat) (h : AH) (Q : Option AV → AH → Prop), wpc codeT mX d 152 [.inl (-1)] h Q ↔ Q (some (.inl (-1))) h := fun d h Q => by
      obtain ⟨z, hz, hw⟩ := w_factOf (-1)
      have hz : z = -1 := by omega
      subst hz
      exact wpc_det (hw d h)
    have g0 : ∀ fa, rg fa → Q (some (.inl 0)) (185, s, T, pI I (p : Int) fa op ((f + n : Nat) : Int) (w : Int) sm nm X W F H G, J, R) := fun fa' hfa' => h0 _ (bd_i (by omega) hfa' hop (by omega) (by omega) hsm hnm a12 a13 hF hH hG)
    refine s147_0.mpr ?_
    simp only [s147_1, s147_2, s147_3, s147_4, s147_5, s147_6, s147_7, s147_8, s147_9, s147_10, s147_11, s147_12, s147_13, s147_14, s147_15, s147_16, s147_17, s147_18, s147_19, s147_20, s147_21, s147_22, s147_23, s147_24, s147_25, s147_26, s147_27, s147_28, s147_29, s147_30, s147_31, s147_32, s147_33, s147_34, s147_35, s147_36, s147_37, s147_38, s147_39, s147_40, s147_41, s147_42, s147_43, s147_44, s147_45, s147_46, s147_47, s147_48, s147_49, e149, s149_0, s149_1, s149_2, s149_3, s149_4, s149_5, s149_6, s149_7, s149_8, s149_9, s149_10, s149_11, e145, s145_0, s145_1, s145_2, s145_3, s145_4, s145_5, s145_6, s145_7, s145_8, Option.toList_some, Option.toList_none, List.cons_append, List.nil_append, Nat.le_refl, true_and, and_true, true_or, or_true, false_or, or_false, true_implies, false_implies, implies_true, not_true_eq_false, not_false_eq_true, eq_self, Nat.reduceLT, Nat.reduceLeDiff, Nat.reduceEqDiff, Nat.reduceAdd, Nat.reduceSub, Int.reduceLT, Int.reduceLE, Int.reduceEq, Int.reduceNeg, Int.reduceNe, Int.reduceAdd, Int.reduceSub, Int.reduceMul, Int.reduceToNat, Int.toNat_zero, Int.toNat_one, Int.toNat_natCast, am_cats, am_cat, am_st1, am_st2, am_clr, up2_na, up2_nj, up2_same, List.getElem?_cons_zero, List.getElem?_cons_succ, List.set_cons_zero, List.set_cons_succ, ne_eq, t152, kh, kf, pI_18, pu_20]
    exact g0 _ (w32_lo _)
  | succ r ih =>
    intro p w W op nm hr0 hpb hS hop hnm
    have hp : p ≤ L := by omega
    have kh := k_here (J := J) (s := s) hm hL hL2 hp
    have ⟨a1, a2, a3, a4, a5, a6, a7, a8, a9, a10, a11, a12, a13⟩ := hS
    have g0 : ∀ fa, rg fa → Q (some (.inl 0)) (185, s, T, pI I (p : Int) fa op ((f + n : Nat) : Int) (w : Int) sm nm X W F H G, J, R) := fun fa' hfa' => h0 _ (bd_i (by omega) hfa' hop (by omega) (by omega) hsm hnm a12 a13 hF hH hG)
    have hpL : p < L := by omega
    have pn : p ≤ 1080 := by omega
    have wn : w ≤ 1080 := by omega
    have fnn : f + n ≤ 1080 := by omega
    have b1 : 0 ≤ ((f + n : Nat) : Int) ∧ ((f + n : Nat) : Int) < ((180 : Nat) : Int) := by omega
    have b2 : 0 ≤ (w : Int) ∧ (w : Int) < ((180 : Nat) : Int) := by omega
    have pq : ∀ q, ¬ (48 ≤ hr I L q ∧ hr I L q ≤ 57) → 48 ≤ hr I L p ∧ hr I L p ≤ 57 → q ≠ p := by
      intro q z1 z2 z3
      subst z3
      exact z1 z2
    generalize hr I L p = c at *
    refine s147_0.mpr ?_
    by_cases c91 : c = 91
    · subst c91
      by_cases o6 : op = 6
      · subst o6
        simp only [s147_1, s147_2, s147_3, s147_4, s147_5, s147_6, s147_7, s147_8, s147_9, s147_10, s147_11, s147_12, s147_13, s147_14, s147_15, s147_16, s147_17, s147_18, s147_19, s147_20, s147_21, s147_22, s147_23, s147_24, s147_25, s147_26, s147_27, s147_28, s147_29, s147_30, s147_31, s147_32, s147_33, s147_34, s147_35, s147_36, s147_37, s147_38, s147_39, s147_40, s147_41, s147_42, s147_43, s147_44, s147_45, s147_46, s147_47, s147_48, s147_49, e148, s148_0, s148_1, s148_2, s148_3, s148_4, s148_5, s148_6, s148_7, s148_8, s148_9, s148_10, s148_11, s148_12, s148_13, s148_14, s148_15, s148_16, s148_17, s148_18, s148_19, s148_20, s148_21, s148_22, s148_23, s148_24, s148_25, s148_26, s148_27, s148_28, s148_29, s148_30, s148_31, s148_32, s148_33, s148_34, s148_35, s148_36, s148_37, e145, s145_0, s145_1, s145_2, s145_3, s145_4, s145_5, s145_6, s145_7, s145_8, Option.toList_some, Option.toList_none, List.cons_append, List.nil_append, Nat.le_refl, true_and, and_true, true_or, or_true, false_or, or_false, true_implies, false_implies, implies_true, not_true_eq_false, not_false_eq_true, eq_self, Nat.reduceLT, Nat.reduceLeDiff, Nat.reduceEqDiff, Nat.reduceAdd, Nat.reduceSub, Int.reduceLT, Int.reduceLE, Int.reduceEq, Int.reduceNeg, Int.reduceNe, Int.reduceAdd, Int.reduceSub, Int.reduceMul, Int.reduceToNat, Int.toNat_zero, Int.toNat_one, Int.toNat_natCast, am_cats, am_cat, am_st1, am_st2, am_clr, up2_na, up2_nj, up2_same, List.getElem?_cons_zero, List.getElem?_cons_succ, List.set_cons_zero, List.set_cons_succ, ne_eq, t152, kh, pI_18, pI_21, pu_20]
        exact g0 _ (w32_lo _)
      · have go := ih (p + 1) (w + 1) (sx W w 14680064) (w32 (op + 1)) nm (by omega) (by omega) (SS_push hS (Or.inr ⟨by decide, rfl⟩) (by decide) hpL) (w32_lo _) hnm
        have w1 := w32_s pn
        have w2 := w32_s wn
        simp only [s147_1, s147_2, s147_3, s147_4, s147_5, s147_6, s147_7, s147_8, s147_9, s147_10, s147_11, s147_12, s147_13, s147_14, s147_15, s147_16, s147_17, s147_18, s147_19, s147_20, s147_21, s147_22, s147_23, s147_24, s147_25, s147_26, s147_27, s147_28, s147_29, s147_30, s147_31, s147_32, s147_33, s147_34, s147_35, s147_36, s147_37, s147_38, s147_39, s147_40, s147_41, s147_42, s147_43, s147_44, s147_45, s147_46, s147_47, s147_48, s147_49, e148, s148_0, s148_1, s148_2, s148_3, s148_4, s148_5, s148_6, s148_7, s148_8, s148_9, s148_10, s148_11, s148_12, s148_13, s148_14, s148_15, s148_16, s148_17, s148_18, s148_19, s148_20, s148_21, s148_22, s148_23, s148_24, s148_25, s148_26, s148_27, s148_28, s148_29, s148_30, s148_31, s148_32, s148_33, s148_34, s148_35, s148_36, s148_37, Option.toList_some, Option.toList_none, List.cons_append, List.nil_append, Nat.le_refl, true_and, and_true, true_or, or_true, false_or, or_false, true_implies, false_implies, implies_true, not_true_eq_false, not_false_eq_true, eq_self, Nat.reduceLT, Nat.reduceLeDiff, Nat.reduceEqDiff, Nat.reduceAdd, Nat.reduceSub, Int.reduceLT, Int.reduceLE, Int.reduceEq, Int.reduceNeg, Int.reduceNe, Int.reduceAdd, Int.reduceSub, Int.reduceMul, Int.reduceToNat, Int.toNat_zero, Int.toNat_one, Int.toNat_natCast, am_cats, am_cat, am_st1, am_st2, am_clr, up2_na, up2_nj, up2_same, List.getElem?_cons_zero, List.getElem?_cons_succ, List.set_cons_zero, List.set_cons_succ, ne_eq, t152, t164, r2, kh, o6, pI_18, pI_21, pI_23, pu_18, pu_21, pu_23, pu_164, w1, w2, w32_eq, b2]
        exact go
    · by_cases dg : c < 48 ∨ 57 < c
      · obtain ⟨z, hz, hw⟩ := w_factOf c
        have kf : ∀ (d : Nat) (h : AH) (Q : Option AV → AH → Prop), wpc codeT mX d 152 [.inl c] h Q ↔ Q (some (.inl z)) h := fun d h Q => wpc_det (hw d h)
        have key : wp codeT mX (d + 3) 147 25 [some (.inr (.inr (some 152))), none] [] (185, s, T, pI I (p : Int) fa op ((f + n : Nat) : Int) (w : Int) sm nm X W F H G, J, R) Q := by
          refine s147_25.mpr ?_
          by_cases z1 : z = -1
          · subst z1
            simp only [s147_26, s147_27, s147_28, s147_29, s147_30, s147_31, s147_32, s147_33, s147_34, s147_35, s147_36, s147_37, e145, s145_0, s145_1, s145_2, s145_3, s145_4, s145_5, s145_6, s145_7, s145_8, Option.toList_some, Option.toList_none, List.cons_append, List.nil_append, Nat.le_refl, true_and, and_true, true_or, or_true, false_or, or_false, true_implies, false_implies, implies_true, not_true_eq_false, not_false_eq_true, eq_self, Nat.reduceLT, Nat.reduceLeDiff, Nat.reduceEqDiff, Nat.reduceAdd, Nat.reduceSub, Int.reduceLT, Int.reduceLE, Int.reduceEq, Int.reduceNeg, Int.reduceNe, Int.reduceAdd, Int.reduceSub, Int.reduceMul, Int.reduceToNat, Int.toNat_zero, Int.toNat_one, Int.toNat_natCast, am_cats, am_cat, am_st1, am_st2, am_clr, up2_na, up2_nj, up2_same, List.getElem?_cons_zero, List.getElem?_cons_succ, List.set_cons_zero, List.set_cons_succ, ne_eq, t152, kh, kf, pI_18, pu_20]
            exact g0 _ (w32_lo _)
          · have hz2 : 0 ≤ z ∧ z ≤ 8 := by omega
            obtain ⟨oc, ov⟩ := cOp_c (o := 1) (v := z) (by decide) hz2.1 (by omega)
            have go := h1 (n + 1) w (p + 1) (sx X (f + n) (1048576 * 1 + z)) W op nm (SS_lit hS (Or.inr oc) (fun _ => by rw [ov]; exact hz2.2) (by omega) (Nat.lt_succ_self p) (by omega)) (by omega) hop hnm
            have ez : w32 (1048576 + z) = 1048576 * 1 + z := w32_eq (by omega) (by omega)
            have w1 := w32_s pn
            have w2 := w32_s fnn
            simp only [s147_26, s147_27, s147_28, s147_29, s147_30, s147_31, s147_1, s147_2, s147_3, s147_4, s147_5, s147_6, s147_7, s147_8, s147_9, s147_10, s147_11, s147_12, s147_13, s147_14, s147_15, s147_16, s147_17, s147_18, s147_19, s147_20, s147_21, s147_22, s147_23, s147_24, s147_25, s147_26, s147_27, s147_28, s147_29, s147_30, s147_31, s147_32, s147_33, s147_34, s147_35, s147_36, s147_37, s147_38, s147_39, s147_40, s147_41, s147_42, s147_43, s147_44, s147_45, s147_46, s147_47, s147_48, s147_49, e151, s151_0, s151_1, s151_2, s151_3, s151_4, s151_5, s151_6, s151_7, s151_8, s151_9, s151_10, s151_11, s151_12, s151_13, s151_14, s151_15, s151_16, Option.toList_some, Option.toList_none, List.cons_append, List.nil_append, Nat.le_refl, true_and, and_true, true_or, or_true, false_or, or_false, true_implies, false_implies, implies_true, not_true_eq_false, not_false_eq_true, eq_self, Nat.reduceLT, Nat.reduceLeDiff, Nat.reduceEqDiff, Nat.reduceAdd, Nat.reduceSub, Int.reduceLT, Int.reduceLE, Int.reduceEq, Int.reduceNeg, Int.reduceNe, Int.reduceAdd, Int.reduceSub, Int.reduceMul, Int.reduceToNat, Int.toNat_zero, Int.toNat_one, Int.toNat_natCast, am_cats, am_cat, am_st1, am_st2, am_clr, up2_na, up2_nj, up2_same, List.getElem?_cons_zero, List.getElem?_cons_succ, List.set_cons_zero, List.set_cons_succ, ne_eq, t152, t163, r1, kh, kf, z1, pI_18, pI_22, pu_18, pu_22, pu_163, b1, w1, w2, w32_eq, ez]
            exact go
        rcases dg with dg | dg
        · simp only [s147_1, s147_2, s147_3, s147_10, s147_11, s147_12, e149, s149_0, s149_1, s149_2, s149_3, s149_4, s149_5, s149_6, s149_7, s149_8, s149_9, s149_10, s149_11, Option.toList_some, Option.toList_none, List.cons_append, List.nil_append, Nat.le_refl, true_and, and_true, true_or, or_true, false_or, or_false, true_implies, false_implies, implies_true, not_true_eq_false, not_false_eq_true, eq_self, Nat.reduceLT, Nat.reduceLeDiff, Nat.reduceEqDiff, Nat.reduceAdd, Nat.reduceSub, Int.reduceLT, Int.reduceLE, Int.reduceEq, Int.reduceNeg, Int.reduceNe, Int.reduceAdd, Int.reduceSub, Int.reduceMul, Int.reduceToNat, Int.toNat_zero, Int.toNat_one, Int.toNat_natCast, am_cats, am_cat, am_st1, am_st2, am_clr, up2_na, up2_nj, up2_same, List.getElem?_cons_zero, List.getElem?_cons_succ, List.set_cons_zero, List.set_cons_succ, ne_eq, t152, kh, c91, dg]
          exact key
        · by_cases c48 : c < 48
          · simp only [s147_1, s147_2, s147_3, s147_10, s147_11, s147_12, e149, s149_0, s149_1, s149_2, s149_3, s149_4, s149_5, s149_6, s149_7, s149_8, s149_9, s149_10, s149_11, Option.toList_some, Option.toList_none, List.cons_append, List.nil_append, Nat.le_refl, true_and, and_true, true_or, or_true, false_or, or_false, true_implies, false_implies, implies_true, not_true_eq_false, not_false_eq_true, eq_self, Nat.reduceLT, Nat.reduceLeDiff, Nat.reduceEqDiff, Nat.reduceAdd, Nat.reduceSub, Int.reduceLT, Int.reduceLE, Int.reduceEq, Int.reduceNeg, Int.reduceNe, Int.reduceAdd, Int.reduceSub, Int.reduceMul, Int.reduceToNat, Int.toNat_zero, Int.toNat_one, Int.toNat_natCast, am_cats, am_cat, am_st1, am_st2, am_clr, up2_na, up2_nj, up2_same, List.getElem?_cons_zero, List.getElem?_cons_succ, List.set_cons_zero, List.set_cons_succ, ne_eq, t152, kh, c91, c48]
            exact key
          · simp only [s147_1, s147_2, s147_3, s147_10, s147_11, s147_12, e149, s149_0, s149_1, s149_2, s149_3, s149_4, s149_5, s149_6, s149_7, s149_8, s149_9, s149_10, s149_11, Option.toList_some, Option.toList_none, List.cons_append, List.nil_append, Nat.le_refl, true_and, and_true, true_or, or_true, false_or, or_false, true_implies, false_implies, implies_true, not_true_eq_false, not_false_eq_true, eq_self, Nat.reduceLT, Nat.reduceLeDiff, Nat.reduceEqDiff, Nat.reduceAdd, Nat.reduceSub, Int.reduceLT, Int.reduceLE, Int.reduceEq, Int.reduceNeg, Int.reduceNe, Int.reduceAdd, Int.reduceSub, Int.reduceMul, Int.reduceToNat, Int.toNat_zero, Int.toNat_one, Int.toNat_natCast, am_cats, am_cat, am_st1, am_st2, am_clr, up2_na, up2_nj, up2_same, List.getElem?_cons_zero, List.getElem?_cons_succ, List.set_cons_zero, List.set_cons_succ, ne_eq, t152, kh, c91, dg, c48]
            exact key
      · have d1 : ¬ c < 48 := fun z => dg (Or.inl z)
        have d2 : ¬ 57 < c := fun z => dg (Or.inr z)
        simp only [s147_1, s147_2, s147_3, s147_4, s147_5, s147_6, s147_7, s147_8, s147_9, s147_10, s147_11, s147_12, s147_13, s147_14, s147_15, s147_16, s147_17, s147_18, s147_19, s147_20, s147_21, s147_22, s147_23, s147_24, s147_25, s147_26, s147_27, s147_28, s147_29, s147_30, s147_31, s147_32, s147_33, s147_34, s147_35, s147_36, s147_37, s147_38, s147_39, s147_40, s147_41, s147_42, s147_43, s147_44, s147_45, s147_46, s147_47, s147_48, s147_49, e149, s149_0, s149_1, s149_2, s149_3, s149_4, s149_5, s149_6, s149_7, s149_8, s149_9, s149_10, s149_11, s150_0, s150_1, s150_2, s150_3, s150_4, s150_5, e150, Option.toList_some, Option.toList_none, List.cons_append, List.nil_append, Nat.le_refl, true_and, and_true, true_or, or_true, false_or, or_false, true_implies, false_implies, implies_true, not_true_eq_false, not_false_eq_true, eq_self, Nat.reduceLT, Nat.reduceLeDiff, Nat.reduceEqDiff, Nat.reduceAdd, Nat.reduceSub, Int.reduceLT, Int.reduceLE, Int.reduceEq, Int.reduceNeg, Int.reduceNe, Int.reduceAdd, Int.reduceSub, Int.reduceMul, Int.reduceToNat, Int.toNat_zero, Int.toNat_one, Int.toNat_natCast, am_cats, am_cat, am_st1, am_st2, am_clr, up2_na, up2_nj, up2_same, List.getElem?_cons_zero, List.getElem?_cons_succ, List.set_cons_zero, List.set_cons_succ, ne_eq, t152, kh, c91, d1, d2, pI_18, pu_25]
        refine rn_loop (d := d) (p0 := p) hm hL hL2 ?_ ?_ 5 0 0 rfl hp (Int.le_refl 0) (by decide)
        · intro q nm2 q1 q2 q3 q4 q5
          have q6 : p < q := by
            have := pq q q5 ⟨by omega, by omega⟩
            omega
          refine ⟨⟨Nat.le_refl _, Nat.le_refl _⟩, ?_⟩
          obtain ⟨oc, ov⟩ := cOp_c (o := 0) (v := nm2) (by decide) q3 (by omega)
          rw [Int.mul_zero, Int.zero_add] at oc ov
          have go := h1 (n + 1) w q (sx X (f + n) nm2) W op nm2 (SS_lit hS (Or.inl oc) (fun z => absurd (oc.symm.trans z) (by decide)) (by omega) q6 q2) (by omega) hop ⟨by omega, by omega⟩
          have en : w32 nm2 = nm2 := w32_eq (by omega) (by omega)
          have w2 := w32_s fnn
          simp only [s147_15, s147_18, s147_19, s147_20, s147_21, s147_22, s147_23, s147_24, e151, s151_0, s151_1, s151_2, s151_3, s151_4, s151_5, s151_6, s151_7, s151_8, s151_9, s151_10, s151_11, s151_12, s151_13, s151_14, s151_15, s151_16, Option.toList_some, Option.toList_none, List.cons_append, List.nil_append, Nat.le_refl, true_and, and_true, true_or, or_true, false_or, or_false, true_implies, false_implies, implies_true, not_true_eq_false, not_false_eq_true, eq_self, Nat.reduceLT, Nat.reduceLeDiff, Nat.reduceEqDiff, Nat.reduceAdd, Nat.reduceSub, Int.reduceLT, Int.reduceLE, Int.reduceEq, Int.reduceNeg, Int.reduceNe, Int.reduceAdd, Int.reduceSub, Int.reduceMul, Int.reduceToNat, Int.toNat_zero, Int.toNat_one, Int.toNat_natCast, am_cats, am_cat, am_st1, am_st2, am_clr, up2_na, up2_nj, up2_same, List.getElem?_cons_zero, List.getElem?_cons_succ, List.set_cons_zero, List.set_cons_succ, ne_eq, t152, t163, r1, pI_22, pI_25, pu_22, pu_163, b1, w2, w32_eq, en, Int.zero_add]
          exact go
        · intro q fa2 nm2 q1 q2 q3
          refine ⟨⟨Nat.le_refl _, Nat.le_refl _⟩, ?_⟩
          have := h0 _ (bd_i (s := s) (T := T) (J := J) (R := R) (I := I) (p := q) (w := w) (cm := f + n) (by omega) q2 hop (by omega) (by omega) hsm q3 a12 a13 hF hH hG)
          simp only [s147_15, s147_16, s147_17, Option.toList_some, Option.toList_none, List.cons_append, List.nil_append, Nat.le_refl, true_and, and_true, true_or, or_true, false_or, or_false, true_implies, false_implies, implies_true, not_true_eq_false, not_false_eq_true, eq_self, Nat.reduceLT, Nat.reduceLeDiff, Nat.reduceEqDiff, Nat.reduceAdd, Nat.reduceSub, Int.reduceLT, Int.reduceLE, Int.reduceEq, Int.reduceNeg, Int.reduceNe, Int.reduceAdd, Int.reduceSub, Int.reduceMul, Int.reduceToNat, Int.toNat_zero, Int.toNat_one, Int.toNat_natCast, am_cats, am_cat, am_st1, am_st2, am_clr, up2_na, up2_nj, up2_same, List.getElem?_cons_zero, List.getElem?_cons_succ, List.set_cons_zero, List.set_cons_succ, ne_eq]
          exact this
end
