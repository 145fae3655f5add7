/-! by hand, 14: the law's reader: lands, endsPiece, readsCompared -/
section
variable {d s : Nat} {T : Nat → Nat × Nat} {I J : Nat → Nat → Int} {R : Nat → Nat → Option Nat} {Q : Option AV → AH → Prop} {L : Nat} {fa op sm nm : Int} {W F H G X0 : Nat → Int} {f n p : Nat}
set_option maxHeartbeats 1000000 in
theorem w_lands (hm : mdl T R) (hL2 : L ≤ 160) {b : Int} (hb : b = 0 ∨ b = 1) : ∀ (k : Nat) (X : Nat → Int) (l2 : Option AV), CS L X0 f 0 1 X W n (k + 1) p → (∀ (k' : Nat) (X' : Nat → Int), CS L X0 f 0 1 X' W n (k' + 1) p → cOp (W k') ≠ 11 → (b = 1 → cOp (W k') ≠ 12) → Q none (185, s, T, pI I (p : Int) fa op ((f + n : Nat) : Int) ((k' + 1 : Nat) : Int) sm nm X' W F H G, J, R)) → wp codeT mX (d + 1) 160 0 [some (.inr (.inr (some 152))), some (.inl b), l2] [] (185, s, T, pI I (p : Int) fa op ((f + n : Nat) : Int) ((k + 1 : Nat) : Int) sm nm X W F H G, J, R) Q := by
  have t152 : T 152 = (12, 53) := hm.1 152 (by decide)
  have t163 : T 163 = (100, 180) := hm.1 163 (by decide)
  have t164 : T 164 = (100, 180) := hm.1 164 (by decide)
  have r1 : R 152 26 = some 163 := hm.2 26 163 (by decide +kernel) (by decide)
  have r2 : R 152 27 = some 164 := hm.2 27 164 (by decide +kernel) (by decide)
  intro k
  induction k with
  | zero =>
    intro X l2 hS hQ
    have ⟨a1, a2, a3, a4, a5, a6, a7, a8, a9, a10, a11, a12⟩ := hS
    have h13 := a7 (by decide)
    have q := hQ 0 X hS (by omega) (fun _ => by omega)
    have ho := w32_op (k := 0) a12 (by decide)
    have w2 := w32_d (n := 0) (by decide)
    refine s160_0.mpr ?_
    rcases hb with rfl | rfl <;> simp only [s160_1, s160_2, s160_3, s160_4, s160_5, s160_6, s160_7, s160_8, s160_9, s160_10, s160_11, s160_12, s160_13, s160_14, s160_15, s160_16, s160_17, s160_18, s160_19, s160_20, s160_21, s160_22, s160_23, s160_24, s160_25, s160_26, s160_27, s160_28, s160_29, s160_30, s160_31, s160_32, s160_33, s160_34, s160_35, s160_36, s160_37, s160_38, s160_39, s160_40, s160_41, s160_42, e155, s155_0, s155_1, s155_2, s155_3, s155_4, s155_5, s155_6, s155_7, s155_8, s155_9, s155_10, s155_11, s155_12, s155_13, s155_14, Option.toList_some, Option.toList_none, List.cons_append, List.nil_append, Nat.le_refl, true_and, and_true, true_or, or_true, false_or, or_false, true_implies, false_implies, implies_true, not_true_eq_false, not_false_eq_true, eq_self, Nat.reduceLT, Nat.reduceLeDiff, Nat.reduceEqDiff, Nat.reduceAdd, Nat.reduceSub, Int.reduceLT, Int.reduceLE, Int.reduceEq, Int.reduceNeg, Int.reduceNe, Int.reduceAdd, Int.reduceSub, Int.reduceMul, Int.reduceToNat, Int.toNat_zero, Int.toNat_one, Int.toNat_natCast, am_cats, am_cat, am_st1, am_st2, am_clr, up2_na, up2_nj, up2_same, List.getElem?_cons_zero, List.getElem?_cons_succ, List.set_cons_zero, List.set_cons_succ, ne_eq, t152, t163, t164, r1, r2, pI_18, pI_22, pI_23, pI_163, pI_164, pu_22, pu_23, pu_163, pu_164, Nat.zero_add, Int.natCast_zero, Int.natCast_one, w2, ho, h13, w32_eq] at q ⊢
    · exact ⟨by decide, q⟩
    · exact ⟨by decide, by decide, q⟩
  | succ k ih =>
    intro X l2 hS hQ
    have ⟨a1, a2, a3, a4, a5, a6, a7, a8, a9, a10, a11, a12⟩ := hS
    have h6 := a6 (k + 1) (by omega)
    have stay := hQ (k + 1) X hS
    have ho := w32_op (k := k + 1) a12 (by omega)
    have kn : k + 1 ≤ 1080 := by omega
    have w2 := w32_d kn
    have hn0 : ¬ ((k + 1 + 1 : Nat) : Int) = 0 := by omega
    have b2 : 0 ≤ ((k + 1 : Nat) : Int) ∧ ((k + 1 : Nat) : Int) < ((180 : Nat) : Int) := by omega
    have land : (cOp (W (k + 1)) = 11 ∨ cOp (W (k + 1)) = 12) → wp codeT mX (d + 1) 160 10 [some (.inr (.inr (some 152))), some (.inl b), l2] [] (185, s, T, pI I (p : Int) fa op ((f + n : Nat) : Int) ((k + 1 + 1 : Nat) : Int) sm nm X W F H G, J, R) Q := by
      intro hj
      obtain ⟨q, q1, q2, q3, q4⟩ := a8 (k + 1) (by omega) hj
      have hx := a1 q q1
      have b1 : 0 ≤ ((f + q : Nat) : Int) ∧ ((f + q : Nat) : Int) < ((180 : Nat) : Int) := by omega
      have hox : 0 ≤ cOp (X (f + q)) ∧ cOp (X (f + q)) ≤ 12 := ⟨by omega, hx.2.1⟩
      obtain ⟨oc, ov⟩ := cOp_c (o := cOp (X (f + q))) (v := ((f + n : Nat) : Int)) hox.1 (by omega) (by omega)
      have go := ih (sx X (f + q) (1048576 * cOp (X (f + q)) + ((f + n : Nat) : Int))) (some (.inl ((f + q : Nat) : Int))) (CS_land hS q1 q3 q2 q4 hj ⟨oc, ov⟩ (by omega)) hQ
      have e1 : w32 (W (k + 1) - Int.tdiv (W (k + 1)) 1048576 * 1048576) = ((f + q : Nat) : Int) := by
        have : W (k + 1) - Int.tdiv (W (k + 1)) 1048576 * 1048576 = ((f + q : Nat) : Int) := q2
        rw [this]
        exact w32_eq (by omega) (by omega)
      have e2 : w32 (Int.tdiv (X (f + q)) 1048576) = cOp (X (f + q)) := w32_op a11 (by omega)
      have e3 : w32 (1048576 * cOp (X (f + q))) = 1048576 * cOp (X (f + q)) := w32_eq (by omega) (by omega)
      have e4 : w32 (1048576 * cOp (X (f + q)) + ((f + n : Nat) : Int)) = 1048576 * cOp (X (f + q)) + ((f + n : Nat) : Int) := w32_eq (by omega) (by omega)
      refine s160_10.mpr ?_
      simp only [s160_1, s160_2, s160_3, s160_4, s160_5, s160_6, s160_7, s160_8, s160_9, s160_11, s160_12, s160_13, s160_14, s160_15, s160_16, s160_17, s160_18, s160_19, s160_20, s160_21, s160_22, s160_23, s160_24, s160_25, s160_26, s160_27, s160_28, s160_29, s160_30, s160_31, s160_32, s160_33, s160_34, s160_35, s160_36, s160_37, s160_38, s160_39, s160_40, s160_41, s160_42, Option.toList_some, Option.toList_none, List.cons_append, List.nil_append, Nat.le_refl, true_and, and_true, true_or, or_true, false_or, or_false, true_implies, false_implies, implies_true, not_true_eq_false, not_false_eq_true, eq_self, Nat.reduceLT, Nat.reduceLeDiff, Nat.reduceEqDiff, Nat.reduceAdd, Nat.reduceSub, Int.reduceLT, Int.reduceLE, Int.reduceEq, Int.reduceNeg, Int.reduceNe, Int.reduceAdd, Int.reduceSub, Int.reduceMul, Int.reduceToNat, Int.toNat_zero, Int.toNat_one, Int.toNat_natCast, am_cats, am_cat, am_st1, am_st2, am_clr, up2_na, up2_nj, up2_same, List.getElem?_cons_zero, List.getElem?_cons_succ, List.set_cons_zero, List.set_cons_succ, ne_eq, t152, t163, t164, r1, r2, pI_22, pI_23, pI_163, pI_164, pu_23, pu_163, b1, b2, w2, e1, e2, e3, e4]
      exact go
    clear ih
    refine s160_0.mpr ?_
    by_cases h11 : cOp (W (k + 1)) = 11
    · have := land (Or.inl h11)
      simp only [s160_1, s160_2, s160_3, e155, s155_0, s155_1, s155_2, s155_3, s155_4, s155_5, s155_6, s155_7, s155_8, s155_9, s155_10, s155_11, s155_12, s155_13, s155_14, Option.toList_some, Option.toList_none, List.cons_append, List.nil_append, Nat.le_refl, true_and, and_true, true_or, or_true, false_or, or_false, true_implies, false_implies, implies_true, not_true_eq_false, not_false_eq_true, eq_self, Nat.reduceLT, Nat.reduceLeDiff, Nat.reduceEqDiff, Nat.reduceAdd, Nat.reduceSub, Int.reduceLT, Int.reduceLE, Int.reduceEq, Int.reduceNeg, Int.reduceNe, Int.reduceAdd, Int.reduceSub, Int.reduceMul, Int.reduceToNat, Int.toNat_zero, Int.toNat_one, Int.toNat_natCast, am_cats, am_cat, am_st1, am_st2, am_clr, up2_na, up2_nj, up2_same, List.getElem?_cons_zero, List.getElem?_cons_succ, List.set_cons_zero, List.set_cons_succ, ne_eq, t152, t164, r2, pI_23, pI_164, hn0, b2, w2, ho, h11]
      exact this
    · by_cases h12 : cOp (W (k + 1)) = 12
      · have l := land (Or.inr h12)
        have st := stay h11
        rcases hb with rfl | rfl
        · have := st (fun z => absurd z (by decide))
          simp only [s160_1, s160_2, s160_3, s160_4, s160_5, s160_42, e155, s155_0, s155_1, s155_2, s155_3, s155_4, s155_5, s155_6, s155_7, s155_8, s155_9, s155_10, s155_11, s155_12, s155_13, s155_14, Option.toList_some, Option.toList_none, List.cons_append, List.nil_append, Nat.le_refl, true_and, and_true, true_or, or_true, false_or, or_false, true_implies, false_implies, implies_true, not_true_eq_false, not_false_eq_true, eq_self, Nat.reduceLT, Nat.reduceLeDiff, Nat.reduceEqDiff, Nat.reduceAdd, Nat.reduceSub, Int.reduceLT, Int.reduceLE, Int.reduceEq, Int.reduceNeg, Int.reduceNe, Int.reduceAdd, Int.reduceSub, Int.reduceMul, Int.reduceToNat, Int.toNat_zero, Int.toNat_one, Int.toNat_natCast, am_cats, am_cat, am_st1, am_st2, am_clr, up2_na, up2_nj, up2_same, List.getElem?_cons_zero, List.getElem?_cons_succ, List.set_cons_zero, List.set_cons_succ, ne_eq, t152, t164, r2, pI_23, pI_164, hn0, b2, w2, ho, h12]
          exact this
        · simp only [s160_1, s160_2, s160_3, s160_4, s160_5, s160_6, s160_7, s160_8, s160_9, e155, s155_0, s155_1, s155_2, s155_3, s155_4, s155_5, s155_6, s155_7, s155_8, s155_9, s155_10, s155_11, s155_12, s155_13, s155_14, Option.toList_some, Option.toList_none, List.cons_append, List.nil_append, Nat.le_refl, true_and, and_true, true_or, or_true, false_or, or_false, true_implies, false_implies, implies_true, not_true_eq_false, not_false_eq_true, eq_self, Nat.reduceLT, Nat.reduceLeDiff, Nat.reduceEqDiff, Nat.reduceAdd, Nat.reduceSub, Int.reduceLT, Int.reduceLE, Int.reduceEq, Int.reduceNeg, Int.reduceNe, Int.reduceAdd, Int.reduceSub, Int.reduceMul, Int.reduceToNat, Int.toNat_zero, Int.toNat_one, Int.toNat_natCast, am_cats, am_cat, am_st1, am_st2, am_clr, up2_na, up2_nj, up2_same, List.getElem?_cons_zero, List.getElem?_cons_succ, List.set_cons_zero, List.set_cons_succ, ne_eq, t152, t164, r2, pI_23, pI_164, hn0, b2, w2, ho, h12]
          exact l
      · have st := stay h11 (fun _ => h12)
        rcases hb with rfl | rfl <;> simp only [s160_1, s160_2, s160_3, s160_4, s160_5, s160_6, s160_7, s160_8, s160_9, s160_42, e155, s155_0, s155_1, s155_2, s155_3, s155_4, s155_5, s155_6, s155_7, s155_8, s155_9, s155_10, s155_11, s155_12, s155_13, s155_14, Option.toList_some, Option.toList_none, List.cons_append, List.nil_append, Nat.le_refl, true_and, and_true, true_or, or_true, false_or, or_false, true_implies, false_implies, implies_true, not_true_eq_false, not_false_eq_true, eq_self, Nat.reduceLT, Nat.reduceLeDiff, Nat.reduceEqDiff, Nat.reduceAdd, Nat.reduceSub, Int.reduceLT, Int.reduceLE, Int.reduceEq, Int.reduceNeg, Int.reduceNe, Int.reduceAdd, Int.reduceSub, Int.reduceMul, Int.reduceToNat, Int.toNat_zero, Int.toNat_one, Int.toNat_natCast, am_cats, am_cat, am_st1, am_st2, am_clr, up2_na, up2_nj, up2_same, List.getElem?_cons_zero, List.getElem?_cons_succ, List.set_cons_zero, List.set_cons_succ, ne_eq, t152, t164, r2, pI_23, pI_164, hn0, b2, w2, ho, h11, h12]
        · exact st
        · exact st
set_option maxHeartbeats 1000000 in
theorem w_ends (hm : mdl T R) (hL2 : L ≤ 160) : ∀ (k n : Nat) (X : Nat → Int) (op : Int), CS L X0 f 0 1 X W n (k + 1) p → rg op → (∀ (n' k' : Nat) (X' : Nat → Int) (op' : Int), CS L X0 f 0 1 X' W n' (k' + 1) p → rg op' → Q none (185, s, T, pI I (p : Int) fa op' ((f + n' : Nat) : Int) ((k' + 1 : Nat) : Int) sm nm X' W F H G, J, R)) → wp codeT mX (d + 1) 159 0 [some (.inr (.inr (some 152)))] [] (185, s, T, pI I (p : Int) fa op ((f + n : Nat) : Int) ((k + 1 : Nat) : Int) sm nm X W F H G, J, R) Q := by
  have t152 : T 152 = (12, 53) := hm.1 152 (by decide)
  have t163 : T 163 = (100, 180) := hm.1 163 (by decide)
  have t164 : T 164 = (100, 180) := hm.1 164 (by decide)
  have r1 : R 152 26 = some 163 := hm.2 26 163 (by decide +kernel) (by decide)
  have r2 : R 152 27 = some 164 := hm.2 27 164 (by decide +kernel) (by decide)
  intro k
  induction k with
  | zero =>
    intro n X op hS hop hQ
    have ⟨a1, a2, a3, a4, a5, a6, a7, a8, a9, a10, a11, a12⟩ := hS
    have h13 := a7 (by decide)
    have q := hQ n 0 X op hS hop
    have ho := w32_op (k := 0) a12 (by decide)
    have w2 := w32_d (n := 0) (by decide)
    refine s159_0.mpr ?_
    simp only [s159_1, s159_2, s159_3, s159_4, s159_5, s159_6, s159_7, s159_8, s159_9, s159_10, s159_11, s159_12, s159_13, s159_14, s159_15, s159_16, s159_17, s159_18, s159_19, s159_20, s159_21, e155, s155_0, s155_1, s155_2, s155_3, s155_4, s155_5, s155_6, s155_7, s155_8, s155_9, s155_10, s155_11, s155_12, s155_13, s155_14, Option.toList_some, Option.toList_none, List.cons_append, List.nil_append, Nat.le_refl, true_and, and_true, true_or, or_true, false_or, or_false, true_implies, false_implies, implies_true, not_true_eq_false, not_false_eq_true, eq_self, Nat.reduceLT, Nat.reduceLeDiff, Nat.reduceEqDiff, Nat.reduceAdd, Nat.reduceSub, Int.reduceLT, Int.reduceLE, Int.reduceEq, Int.reduceNeg, Int.reduceNe, Int.reduceAdd, Int.reduceSub, Int.reduceMul, Int.reduceToNat, Int.toNat_zero, Int.toNat_one, Int.toNat_natCast, am_cats, am_cat, am_st1, am_st2, am_clr, up2_na, up2_nj, up2_same, List.getElem?_cons_zero, List.getElem?_cons_succ, List.set_cons_zero, List.set_cons_succ, ne_eq, t152, t163, t164, r1, r2, pI_18, pI_22, pI_23, pI_163, pI_164, pu_22, pu_23, pu_163, pu_164, Nat.zero_add, Int.natCast_zero, Int.natCast_one, w2, ho, h13, w32_eq] at q ⊢
    exact ⟨by decide, q⟩
  | succ k ih =>
    intro n X op hS hop hQ
    have ⟨a1, a2, a3, a4, a5, a6, a7, a8, a9, a10, a11, a12⟩ := hS
    have st := hQ n (k + 1) X op hS hop
    have ho := w32_op (k := k + 1) a12 (by omega)
    have kn : k + 1 ≤ 1080 := by omega
    have fn : f + n ≤ 1080 := by omega
    have hn0 : ¬ ((k + 1 + 1 : Nat) : Int) = 0 := by omega
    have b2 : 0 ≤ ((k + 1 : Nat) : Int) ∧ ((k + 1 : Nat) : Int) < ((180 : Nat) : Int) := by omega
    have b1 : 0 ≤ ((f + n : Nat) : Int) ∧ ((f + n : Nat) : Int) < ((180 : Nat) : Int) := by omega
    by_cases h10 : cOp (W (k + 1)) = 10
    · have go := ih (n + 1) (sx X (f + n) 10485760) (w32 (op - 1)) (CS_code (c := 10485760) (CS_pop hS (by omega)) (by decide) (by decide) (by decide) (by decide)) (w32_lo _) hQ
      have w1 := w32_s fn
      have w2 := w32_d kn
      refine s159_0.mpr ?_
      simp only [s159_1, s159_2, s159_3, s159_4, s159_5, s159_6, s159_7, s159_8, s159_9, s159_10, s159_11, s159_12, s159_13, s159_14, s159_15, s159_16, s159_17, s159_18, s159_19, s159_20, s159_21, e155, s155_0, s155_1, s155_2, s155_3, s155_4, s155_5, s155_6, s155_7, s155_8, s155_9, s155_10, s155_11, s155_12, s155_13, s155_14, e151, s151_0, s151_1, s151_2, s151_3, s151_4, s151_5, s151_6, s151_7, s151_8, s151_9, s151_10, s151_11, s151_12, s151_13, s151_14, s151_15, s151_16, Option.toList_some, Option.toList_none, List.cons_append, List.nil_append, Nat.le_refl, true_and, and_true, true_or, or_true, false_or, or_false, true_implies, false_implies, implies_true, not_true_eq_false, not_false_eq_true, eq_self, Nat.reduceLT, Nat.reduceLeDiff, Nat.reduceEqDiff, Nat.reduceAdd, Nat.reduceSub, Int.reduceLT, Int.reduceLE, Int.reduceEq, Int.reduceNeg, Int.reduceNe, Int.reduceAdd, Int.reduceSub, Int.reduceMul, Int.reduceToNat, Int.toNat_zero, Int.toNat_one, Int.toNat_natCast, am_cats, am_cat, am_st1, am_st2, am_clr, up2_na, up2_nj, up2_same, List.getElem?_cons_zero, List.getElem?_cons_succ, List.set_cons_zero, List.set_cons_succ, ne_eq, t152, t163, t164, r1, r2, pI_21, pI_22, pI_23, pI_163, pI_164, pu_21, pu_22, pu_23, pu_163, pu_164, hn0, b1, b2, w1, w2, ho, h10, w32_eq, Int.add_zero, Int.reduceMul, Int.reduceAdd]
      exact go
    · have w2 := w32_d kn
      refine s159_0.mpr ?_
      simp only [s159_1, s159_2, s159_3, s159_21, e155, s155_0, s155_1, s155_2, s155_3, s155_4, s155_5, s155_6, s155_7, s155_8, s155_9, s155_10, s155_11, s155_12, s155_13, s155_14, Option.toList_some, Option.toList_none, List.cons_append, List.nil_append, Nat.le_refl, true_and, and_true, true_or, or_true, false_or, or_false, true_implies, false_implies, implies_true, not_true_eq_false, not_false_eq_true, eq_self, Nat.reduceLT, Nat.reduceLeDiff, Nat.reduceEqDiff, Nat.reduceAdd, Nat.reduceSub, Int.reduceLT, Int.reduceLE, Int.reduceEq, Int.reduceNeg, Int.reduceNe, Int.reduceAdd, Int.reduceSub, Int.reduceMul, Int.reduceToNat, Int.toNat_zero, Int.toNat_one, Int.toNat_natCast, am_cats, am_cat, am_st1, am_st2, am_clr, up2_na, up2_nj, up2_same, List.getElem?_cons_zero, List.getElem?_cons_succ, List.set_cons_zero, List.set_cons_succ, ne_eq, t152, t164, r2, pI_23, pI_164, hn0, b2, w2, ho, h10]
      exact st
end
