/-! the law's two readers, 21: count, answer, can answer alike -/
section
variable {L s d mx mm k nx nm : Nat} {X : Nat → Int} {lg : Bool} {cx cm : CON} {P : AH → Prop}
/-- a question of which both answers are walked -/
theorem px_ans (hL : L ≤ 3072) (hX : ∀ j, rg32 (X j)) (hx : conS cx) (hm : conS cm) (hb : pairB cx cm mx mm k nx nm = true) (hd : 40 ≤ d) (hS : (disj cx.2.2.2.1 sA && disj cm.2.2.2.1 sA) = true) (hp : ∀ g, P g → LKP g) (w : ∀ (as : List Int) (s : Nat) (T : Nat → Nat × Nat) (I J : Nat → Nat → Int) (R : Nat → Nat → Option Nat), as.length = k → (∀ z ∈ as, rg32 z) → eH (185, s, T, I, J, R) → P (185, s, T, I, J, R) → ∃ a : Int, wpc codeT mX d mx (.inr (.inr (some 0)) :: as.map (fun z => (Sum.inl z : AV))) (185, s, T, I, J, R) (fun v g1 => v = some (ansV lg a) ∧ (eH g1 → eM cx.2.2.2.1 (185, s, T, I, J, R) g1 → wpc codeT mX d mm (.inr (.inr (some 152)) :: as.map (fun z => (Sum.inl z : AV))) g1 (fun v2 _ => v2 = some (ansV lg a))))) : prx L X s P LKP d mx mm k lg true := by
  rw [Bool.and_eq_true] at hS
  refine prx_mk hL hX hx hm hb hd (fun as g hl hr hH hs hP => ?_)
  obtain ⟨c, s, T, I, J, R⟩ := g
  have hc : c = 185 := hH.1
  subst hc
  obtain ⟨a, w1⟩ := w as s T I J R hl hr hH hP
  refine wpc_mono w1 (fun v g1 q r1 r2 r3 sc => ?_)
  obtain ⟨e, w2⟩ := q
  refine ⟨a, e, wpc_mono (w2 r2 r3) (fun v2 g2 e2 t1 t2 t3 => ?_)⟩
  exact ⟨a, e2, fun _ => rfl, rdS_M LK_S hS.2 t3 (rdS_M LK_S hS.1 r3 (hp _ hP))⟩
end
section
variable {s d : Nat} {T : Nat → Nat × Nat} {I J : Nat → Nat → Int} {R : Nat → Nat → Option Nat} {Q : Option AV → AH → Prop}
/-- of what count tells -/
def ctF (I : Nat → Nat → Int) (a : Int) : Int := if a = 0 then I 0 0 else if a = 1 then I 0 1 else if a = 2 then I 0 2 else if a = 3 then I 3 3 else if a = 4 then I 17 3 else if a = 5 then I 102 3 else if a = 6 then I 1 1 else if a = 7 then I 0 4 else if 10 ≤ a ∧ a - 10 < I 0 1 then I 169 (a - 10).toNat else -1
theorem x129 (hh : hp T R) (b1 : 0 ≤ I 0 1 ∧ I 0 1 ≤ 6) (hw : LKW (185, s, T, I, J, R)) {a : Int} (ha : rg32 a) (hQ : Q (some (.inl (ctF I a))) (185, s, T, I, J, R)) : wpc codeT mX (d + 1) 129 [.inr (.inr (some 0)), .inl a] (185, s, T, I, J, R) Q := by
  unfold ctF at hQ
  by_cases h0 : a = 0
  · subst h0
    simp only [e129, s129_0, s129_1, s129_2, s129_3, s129_4, s129_5, s129_6, s129_7, s129_8, s129_9, s129_10, s129_11, s129_12, s129_13, s129_14, s129_15, s129_16, s129_17, s129_18, s129_19, s129_20, s129_21, s129_22, s129_23, s129_24, s129_25, s129_26, s129_27, s129_28, s129_29, s129_30, s129_31, s129_32, s129_33, s129_34, s129_35, s129_36, s129_37, s129_38, s129_39, s129_40, s129_41, s129_42, s129_43, s129_44, s129_45, s129_46, s129_47, s129_48, Option.toList_some, Option.toList_none, List.cons_append, List.nil_append, Nat.le_refl, true_and, and_true, true_or, or_true, false_or, or_false, true_implies, false_implies, implies_true, not_true_eq_false, not_false_eq_true, eq_self, Nat.reduceLT, Nat.reduceLeDiff, Nat.reduceEqDiff, Nat.reduceAdd, Nat.reduceSub, Int.reduceLT, Int.reduceLE, Int.reduceEq, Int.reduceNeg, Int.reduceNe, Int.reduceAdd, Int.reduceSub, Int.reduceMul, Int.reduceToNat, Int.toNat_zero, Int.toNat_one, Int.toNat_natCast, am_cats, am_cat, am_st1, am_st2, am_clr, up2_na, up2_nj, up2_same, List.getElem?_cons_zero, List.getElem?_cons_succ, List.set_cons_zero, List.set_cons_succ, ne_eq, tk_0 hh]
    exact hQ
  by_cases h1 : a = 1
  · subst h1
    simp only [e129, s129_0, s129_1, s129_2, s129_3, s129_4, s129_5, s129_6, s129_7, s129_8, s129_9, s129_10, s129_11, s129_12, s129_13, s129_14, s129_15, s129_16, s129_17, s129_18, s129_19, s129_20, s129_21, s129_22, s129_23, s129_24, s129_25, s129_26, s129_27, s129_28, s129_29, s129_30, s129_31, s129_32, s129_33, s129_34, s129_35, s129_36, s129_37, s129_38, s129_39, s129_40, s129_41, s129_42, s129_43, s129_44, s129_45, s129_46, s129_47, s129_48, Option.toList_some, Option.toList_none, List.cons_append, List.nil_append, Nat.le_refl, true_and, and_true, true_or, or_true, false_or, or_false, true_implies, false_implies, implies_true, not_true_eq_false, not_false_eq_true, eq_self, Nat.reduceLT, Nat.reduceLeDiff, Nat.reduceEqDiff, Nat.reduceAdd, Nat.reduceSub, Int.reduceLT, Int.reduceLE, Int.reduceEq, Int.reduceNeg, Int.reduceNe, Int.reduceAdd, Int.reduceSub, Int.reduceMul, Int.reduceToNat, Int.toNat_zero, Int.toNat_one, Int.toNat_natCast, am_cats, am_cat, am_st1, am_st2, am_clr, up2_na, up2_nj, up2_same, List.getElem?_cons_zero, List.getElem?_cons_succ, List.set_cons_zero, List.set_cons_succ, ne_eq, tk_0 hh]
    exact hQ
  by_cases h2 : a = 2
  · subst h2
    simp only [e129, s129_0, s129_1, s129_2, s129_3, s129_4, s129_5, s129_6, s129_7, s129_8, s129_9, s129_10, s129_11, s129_12, s129_13, s129_14, s129_15, s129_16, s129_17, s129_18, s129_19, s129_20, s129_21, s129_22, s129_23, s129_24, s129_25, s129_26, s129_27, s129_28, s129_29, s129_30, s129_31, s129_32, s129_33, s129_34, s129_35, s129_36, s129_37, s129_38, s129_39, s129_40, s129_41, s129_42, s129_43, s129_44, s129_45, s129_46, s129_47, s129_48, Option.toList_some, Option.toList_none, List.cons_append, List.nil_append, Nat.le_refl, true_and, and_true, true_or, or_true, false_or, or_false, true_implies, false_implies, implies_true, not_true_eq_false, not_false_eq_true, eq_self, Nat.reduceLT, Nat.reduceLeDiff, Nat.reduceEqDiff, Nat.reduceAdd, Nat.reduceSub, Int.reduceLT, Int.reduceLE, Int.reduceEq, Int.reduceNeg, Int.reduceNe, Int.reduceAdd, Int.reduceSub, Int.reduceMul, Int.reduceToNat, Int.toNat_zero, Int.toNat_one, Int.toNat_natCast, am_cats, am_cat, am_st1, am_st2, am_clr, up2_na, up2_nj, up2_same, List.getElem?_cons_zero, List.getElem?_cons_succ, List.set_cons_zero, List.set_cons_succ, ne_eq, tk_0 hh]
    exact hQ
  by_cases h3 : a = 3
  · subst h3
    simp only [e129, s129_0, s129_1, s129_2, s129_3, s129_4, s129_5, s129_6, s129_7, s129_8, s129_9, s129_10, s129_11, s129_12, s129_13, s129_14, s129_15, s129_16, s129_17, s129_18, s129_19, s129_20, s129_21, s129_22, s129_23, s129_24, s129_25, s129_26, s129_27, s129_28, s129_29, s129_30, s129_31, s129_32, s129_33, s129_34, s129_35, s129_36, s129_37, s129_38, s129_39, s129_40, s129_41, s129_42, s129_43, s129_44, s129_45, s129_46, s129_47, s129_48, Option.toList_some, Option.toList_none, List.cons_append, List.nil_append, Nat.le_refl, true_and, and_true, true_or, or_true, false_or, or_false, true_implies, false_implies, implies_true, not_true_eq_false, not_false_eq_true, eq_self, Nat.reduceLT, Nat.reduceLeDiff, Nat.reduceEqDiff, Nat.reduceAdd, Nat.reduceSub, Int.reduceLT, Int.reduceLE, Int.reduceEq, Int.reduceNeg, Int.reduceNe, Int.reduceAdd, Int.reduceSub, Int.reduceMul, Int.reduceToNat, Int.toNat_zero, Int.toNat_one, Int.toNat_natCast, am_cats, am_cat, am_st1, am_st2, am_clr, up2_na, up2_nj, up2_same, List.getElem?_cons_zero, List.getElem?_cons_succ, List.set_cons_zero, List.set_cons_succ, ne_eq, tk_0 hh, tk_3 hh, rk_0_6 hh]
    exact hQ
  by_cases h4 : a = 4
  · subst h4
    simp only [e129, s129_0, s129_1, s129_2, s129_3, s129_4, s129_5, s129_6, s129_7, s129_8, s129_9, s129_10, s129_11, s129_12, s129_13, s129_14, s129_15, s129_16, s129_17, s129_18, s129_19, s129_20, s129_21, s129_22, s129_23, s129_24, s129_25, s129_26, s129_27, s129_28, s129_29, s129_30, s129_31, s129_32, s129_33, s129_34, s129_35, s129_36, s129_37, s129_38, s129_39, s129_40, s129_41, s129_42, s129_43, s129_44, s129_45, s129_46, s129_47, s129_48, Option.toList_some, Option.toList_none, List.cons_append, List.nil_append, Nat.le_refl, true_and, and_true, true_or, or_true, false_or, or_false, true_implies, false_implies, implies_true, not_true_eq_false, not_false_eq_true, eq_self, Nat.reduceLT, Nat.reduceLeDiff, Nat.reduceEqDiff, Nat.reduceAdd, Nat.reduceSub, Int.reduceLT, Int.reduceLE, Int.reduceEq, Int.reduceNeg, Int.reduceNe, Int.reduceAdd, Int.reduceSub, Int.reduceMul, Int.reduceToNat, Int.toNat_zero, Int.toNat_one, Int.toNat_natCast, am_cats, am_cat, am_st1, am_st2, am_clr, up2_na, up2_nj, up2_same, List.getElem?_cons_zero, List.getElem?_cons_succ, List.set_cons_zero, List.set_cons_succ, ne_eq, tk_0 hh, tk_17 hh, rk_0_7 hh]
    exact hQ
  by_cases h5 : a = 5
  · subst h5
    simp only [e129, s129_0, s129_1, s129_2, s129_3, s129_4, s129_5, s129_6, s129_7, s129_8, s129_9, s129_10, s129_11, s129_12, s129_13, s129_14, s129_15, s129_16, s129_17, s129_18, s129_19, s129_20, s129_21, s129_22, s129_23, s129_24, s129_25, s129_26, s129_27, s129_28, s129_29, s129_30, s129_31, s129_32, s129_33, s129_34, s129_35, s129_36, s129_37, s129_38, s129_39, s129_40, s129_41, s129_42, s129_43, s129_44, s129_45, s129_46, s129_47, s129_48, Option.toList_some, Option.toList_none, List.cons_append, List.nil_append, Nat.le_refl, true_and, and_true, true_or, or_true, false_or, or_false, true_implies, false_implies, implies_true, not_true_eq_false, not_false_eq_true, eq_self, Nat.reduceLT, Nat.reduceLeDiff, Nat.reduceEqDiff, Nat.reduceAdd, Nat.reduceSub, Int.reduceLT, Int.reduceLE, Int.reduceEq, Int.reduceNeg, Int.reduceNe, Int.reduceAdd, Int.reduceSub, Int.reduceMul, Int.reduceToNat, Int.toNat_zero, Int.toNat_one, Int.toNat_natCast, am_cats, am_cat, am_st1, am_st2, am_clr, up2_na, up2_nj, up2_same, List.getElem?_cons_zero, List.getElem?_cons_succ, List.set_cons_zero, List.set_cons_succ, ne_eq, tk_0 hh, tk_102 hh, rk_0_16 hh]
    exact hQ
  by_cases h6 : a = 6
  · subst h6
    simp only [e129, s129_0, s129_1, s129_2, s129_3, s129_4, s129_5, s129_6, s129_7, s129_8, s129_9, s129_10, s129_11, s129_12, s129_13, s129_14, s129_15, s129_16, s129_17, s129_18, s129_19, s129_20, s129_21, s129_22, s129_23, s129_24, s129_25, s129_26, s129_27, s129_28, s129_29, s129_30, s129_31, s129_32, s129_33, s129_34, s129_35, s129_36, s129_37, s129_38, s129_39, s129_40, s129_41, s129_42, s129_43, s129_44, s129_45, s129_46, s129_47, s129_48, Option.toList_some, Option.toList_none, List.cons_append, List.nil_append, Nat.le_refl, true_and, and_true, true_or, or_true, false_or, or_false, true_implies, false_implies, implies_true, not_true_eq_false, not_false_eq_true, eq_self, Nat.reduceLT, Nat.reduceLeDiff, Nat.reduceEqDiff, Nat.reduceAdd, Nat.reduceSub, Int.reduceLT, Int.reduceLE, Int.reduceEq, Int.reduceNeg, Int.reduceNe, Int.reduceAdd, Int.reduceSub, Int.reduceMul, Int.reduceToNat, Int.toNat_zero, Int.toNat_one, Int.toNat_natCast, am_cats, am_cat, am_st1, am_st2, am_clr, up2_na, up2_nj, up2_same, List.getElem?_cons_zero, List.getElem?_cons_succ, List.set_cons_zero, List.set_cons_succ, ne_eq, tk_0 hh, tk_1 hh, rk_0_5 hh]
    exact hQ
  by_cases h7 : a = 7
  · subst h7
    simp only [e129, s129_0, s129_1, s129_2, s129_3, s129_4, s129_5, s129_6, s129_7, s129_8, s129_9, s129_10, s129_11, s129_12, s129_13, s129_14, s129_15, s129_16, s129_17, s129_18, s129_19, s129_20, s129_21, s129_22, s129_23, s129_24, s129_25, s129_26, s129_27, s129_28, s129_29, s129_30, s129_31, s129_32, s129_33, s129_34, s129_35, s129_36, s129_37, s129_38, s129_39, s129_40, s129_41, s129_42, s129_43, s129_44, s129_45, s129_46, s129_47, s129_48, Option.toList_some, Option.toList_none, List.cons_append, List.nil_append, Nat.le_refl, true_and, and_true, true_or, or_true, false_or, or_false, true_implies, false_implies, implies_true, not_true_eq_false, not_false_eq_true, eq_self, Nat.reduceLT, Nat.reduceLeDiff, Nat.reduceEqDiff, Nat.reduceAdd, Nat.reduceSub, Int.reduceLT, Int.reduceLE, Int.reduceEq, Int.reduceNeg, Int.reduceNe, Int.reduceAdd, Int.reduceSub, Int.reduceMul, Int.reduceToNat, Int.toNat_zero, Int.toNat_one, Int.toNat_natCast, am_cats, am_cat, am_st1, am_st2, am_clr, up2_na, up2_nj, up2_same, List.getElem?_cons_zero, List.getElem?_cons_succ, List.set_cons_zero, List.set_cons_succ, ne_eq, tk_0 hh]
    exact hQ
  rw [if_neg h0, if_neg h1, if_neg h2, if_neg h3, if_neg h4, if_neg h5, if_neg h6, if_neg h7] at hQ
  by_cases h10 : 10 ≤ a ∧ a - 10 < I 0 1
  · rw [if_pos h10] at hQ
    obtain ⟨k, rfl⟩ : ∃ k : Nat, a = (k : Int) + 10 := ⟨(a - 10).toNat, by omega⟩
    have k6 : k < 6 := by omega
    have ek : ((k : Int) + 10 - 10).toNat = k := by omega
    rw [ek] at hQ
    obtain ⟨q, e, mq, co, b, m, hx, hm, hv⟩ := hw.2.1 k k6
    have e : R 80 k = some q := e
    have hx : lwX I q co b m := hx
    have hm : lwM I k co b m := hm
    rw [hm.1, ← hx.1] at hQ
    have hl := lawAt_of hh mq
    have tq := hl.2.2.1
    have u1 : ¬ (k : Int) + 10 < 10 := by omega
    have u2 : 0 ≤ (k : Int) ∧ (k : Int) < I 0 1 := by omega
    have u3 : 0 ≤ (k : Int) ∧ (k : Int) < ((6 : Nat) : Int) := by omega
    have u4 : q < 185 := by have := hl.2.1; omega
    have z1 : (k : Int) + 10 - 10 = (k : Int) := by omega
    have w1 := w32_c z1 (by omega)
    simp only [e129, s129_0, s129_1, s129_2, s129_3, s129_4, s129_5, s129_6, s129_7, s129_8, s129_9, s129_10, s129_11, s129_12, s129_13, s129_14, s129_15, s129_16, s129_17, s129_18, s129_19, s129_20, s129_21, s129_22, s129_23, s129_24, s129_25, s129_26, s129_27, s129_28, s129_29, s129_30, s129_31, s129_32, s129_33, s129_34, s129_35, s129_36, s129_37, s129_38, s129_39, s129_40, s129_41, s129_42, s129_43, s129_44, s129_45, s129_46, s129_47, s129_48, Option.toList_some, Option.toList_none, List.cons_append, List.nil_append, Nat.le_refl, true_and, and_true, true_or, or_true, false_or, or_false, true_implies, false_implies, implies_true, not_true_eq_false, not_false_eq_true, eq_self, Nat.reduceLT, Nat.reduceLeDiff, Nat.reduceEqDiff, Nat.reduceAdd, Nat.reduceSub, Int.reduceLT, Int.reduceLE, Int.reduceEq, Int.reduceNeg, Int.reduceNe, Int.reduceAdd, Int.reduceSub, Int.reduceMul, Int.reduceToNat, Int.toNat_zero, Int.toNat_one, Int.toNat_natCast, am_cats, am_cat, am_st1, am_st2, am_clr, up2_na, up2_nj, up2_same, List.getElem?_cons_zero, List.getElem?_cons_succ, List.set_cons_zero, List.set_cons_succ, ne_eq, tk_0 hh, tk_80 hh, rk_0_11 hh, k17 hh, i10, h0, h1, h2, h3, h4, h5, h6, h7, u1, u2, u3, u4, w1, e, tq]
    exact hQ
  · rw [if_neg h10] at hQ
    by_cases h9 : a < 10
    · simp only [e129, s129_0, s129_1, s129_2, s129_3, s129_4, s129_5, s129_6, s129_7, s129_8, s129_9, s129_10, s129_11, s129_12, s129_13, s129_14, s129_15, s129_16, s129_17, s129_18, s129_19, s129_20, s129_21, s129_22, s129_23, s129_24, s129_25, s129_26, s129_27, s129_28, s129_29, s129_30, s129_31, s129_32, s129_33, s129_34, s129_35, s129_36, s129_37, s129_38, s129_39, s129_40, s129_41, s129_42, s129_43, s129_44, s129_45, s129_46, s129_47, s129_48, Option.toList_some, Option.toList_none, List.cons_append, List.nil_append, Nat.le_refl, true_and, and_true, true_or, or_true, false_or, or_false, true_implies, false_implies, implies_true, not_true_eq_false, not_false_eq_true, eq_self, Nat.reduceLT, Nat.reduceLeDiff, Nat.reduceEqDiff, Nat.reduceAdd, Nat.reduceSub, Int.reduceLT, Int.reduceLE, Int.reduceEq, Int.reduceNeg, Int.reduceNe, Int.reduceAdd, Int.reduceSub, Int.reduceMul, Int.reduceToNat, Int.toNat_zero, Int.toNat_one, Int.toNat_natCast, am_cats, am_cat, am_st1, am_st2, am_clr, up2_na, up2_nj, up2_same, List.getElem?_cons_zero, List.getElem?_cons_succ, List.set_cons_zero, List.set_cons_succ, ne_eq, h0, h1, h2, h3, h4, h5, h6, h7, h9]
      exact hQ
    · have u2 : ¬ (0 ≤ a - 10 ∧ a - 10 < I 0 1) := by omega
      have hr := ha.2
      have w1 : w32 (a - 10) = a - 10 := w32_eq (by omega) (by omega)
      simp only [e129, s129_0, s129_1, s129_2, s129_3, s129_4, s129_5, s129_6, s129_7, s129_8, s129_9, s129_10, s129_11, s129_12, s129_13, s129_14, s129_15, s129_16, s129_17, s129_18, s129_19, s129_20, s129_21, s129_22, s129_23, s129_24, s129_25, s129_26, s129_27, s129_28, s129_29, s129_30, s129_31, s129_32, s129_33, s129_34, s129_35, s129_36, s129_37, s129_38, s129_39, s129_40, s129_41, s129_42, s129_43, s129_44, s129_45, s129_46, s129_47, s129_48, Option.toList_some, Option.toList_none, List.cons_append, List.nil_append, Nat.le_refl, true_and, and_true, true_or, or_true, false_or, or_false, true_implies, false_implies, implies_true, not_true_eq_false, not_false_eq_true, eq_self, Nat.reduceLT, Nat.reduceLeDiff, Nat.reduceEqDiff, Nat.reduceAdd, Nat.reduceSub, Int.reduceLT, Int.reduceLE, Int.reduceEq, Int.reduceNeg, Int.reduceNe, Int.reduceAdd, Int.reduceSub, Int.reduceMul, Int.reduceToNat, Int.toNat_zero, Int.toNat_one, Int.toNat_natCast, am_cats, am_cat, am_st1, am_st2, am_clr, up2_na, up2_nj, up2_same, List.getElem?_cons_zero, List.getElem?_cons_succ, List.set_cons_zero, List.set_cons_succ, ne_eq, tk_0 hh, k17 hh, i10, h0, h1, h2, h3, h4, h5, h6, h7, h9, w1, u2]
      exact hQ
theorem x210 (hh : hp T R) (b1 : 0 ≤ I 0 1 ∧ I 0 1 ≤ 6) (hK : LK I) {a : Int} (hQ : Q (some (.inl (ctF I a))) (185, s, T, I, J, R)) : wpc codeT mX (d + 1) 210 [.inr (.inr (some 152)), .inl a] (185, s, T, I, J, R) Q := by
  obtain ⟨l0, l1, l2, l3, l4, l5, l6, l7, l8, -⟩ := hK
  have l0 : I 0 0 = I 152 0 := l0
  have l1 : I 0 1 = I 152 1 := l1
  have l2 : I 0 2 = I 152 2 := l2
  have l4 : I 0 4 = I 152 6 := l4
  have l5 : I 3 3 = I 152 3 := l5
  have l6 : I 17 3 = I 152 4 := l6
  have l7 : I 102 3 = I 152 46 := l7
  have l8 : I 1 1 = I 152 17 := l8
  unfold ctF at hQ
  rw [l0, l1, l2, l4, l5, l6, l7, l8] at hQ
  rw [l1] at b1
  by_cases h0 : a = 0
  · subst h0
    simp only [e210, s210_0, s210_1, s210_2, s210_3, s210_4, s210_5, s210_6, s210_7, s210_8, s210_9, s210_10, s210_11, s210_12, s210_13, s210_14, s210_15, s210_16, s210_17, s210_18, s210_19, s210_20, s210_21, s210_22, s210_23, s210_24, s210_25, s210_26, s210_27, s210_28, s210_29, s210_30, s210_31, s210_32, s210_33, s210_34, s210_35, s210_36, s210_37, s210_38, s210_39, s210_40, s210_41, s210_42, Option.toList_some, Option.toList_none, List.cons_append, List.nil_append, Nat.le_refl, true_and, and_true, true_or, or_true, false_or, or_false, true_implies, false_implies, implies_true, not_true_eq_false, not_false_eq_true, eq_self, Nat.reduceLT, Nat.reduceLeDiff, Nat.reduceEqDiff, Nat.reduceAdd, Nat.reduceSub, Int.reduceLT, Int.reduceLE, Int.reduceEq, Int.reduceNeg, Int.reduceNe, Int.reduceAdd, Int.reduceSub, Int.reduceMul, Int.reduceToNat, Int.toNat_zero, Int.toNat_one, Int.toNat_natCast, am_cats, am_cat, am_st1, am_st2, am_clr, up2_na, up2_nj, up2_same, List.getElem?_cons_zero, List.getElem?_cons_succ, List.set_cons_zero, List.set_cons_succ, ne_eq, tk_152 hh]
    exact hQ
  by_cases h1 : a = 1
  · subst h1
    simp only [e210, s210_0, s210_1, s210_2, s210_3, s210_4, s210_5, s210_6, s210_7, s210_8, s210_9, s210_10, s210_11, s210_12, s210_13, s210_14, s210_15, s210_16, s210_17, s210_18, s210_19, s210_20, s210_21, s210_22, s210_23, s210_24, s210_25, s210_26, s210_27, s210_28, s210_29, s210_30, s210_31, s210_32, s210_33, s210_34, s210_35, s210_36, s210_37, s210_38, s210_39, s210_40, s210_41, s210_42, Option.toList_some, Option.toList_none, List.cons_append, List.nil_append, Nat.le_refl, true_and, and_true, true_or, or_true, false_or, or_false, true_implies, false_implies, implies_true, not_true_eq_false, not_false_eq_true, eq_self, Nat.reduceLT, Nat.reduceLeDiff, Nat.reduceEqDiff, Nat.reduceAdd, Nat.reduceSub, Int.reduceLT, Int.reduceLE, Int.reduceEq, Int.reduceNeg, Int.reduceNe, Int.reduceAdd, Int.reduceSub, Int.reduceMul, Int.reduceToNat, Int.toNat_zero, Int.toNat_one, Int.toNat_natCast, am_cats, am_cat, am_st1, am_st2, am_clr, up2_na, up2_nj, up2_same, List.getElem?_cons_zero, List.getElem?_cons_succ, List.set_cons_zero, List.set_cons_succ, ne_eq, tk_152 hh]
    exact hQ
  by_cases h2 : a = 2
  · subst h2
    simp only [e210, s210_0, s210_1, s210_2, s210_3, s210_4, s210_5, s210_6, s210_7, s210_8, s210_9, s210_10, s210_11, s210_12, s210_13, s210_14, s210_15, s210_16, s210_17, s210_18, s210_19, s210_20, s210_21, s210_22, s210_23, s210_24, s210_25, s210_26, s210_27, s210_28, s210_29, s210_30, s210_31, s210_32, s210_33, s210_34, s210_35, s210_36, s210_37, s210_38, s210_39, s210_40, s210_41, s210_42, Option.toList_some, Option.toList_none, List.cons_append, List.nil_append, Nat.le_refl, true_and, and_true, true_or, or_true, false_or, or_false, true_implies, false_implies, implies_true, not_true_eq_false, not_false_eq_true, eq_self, Nat.reduceLT, Nat.reduceLeDiff, Nat.reduceEqDiff, Nat.reduceAdd, Nat.reduceSub, Int.reduceLT, Int.reduceLE, Int.reduceEq, Int.reduceNeg, Int.reduceNe, Int.reduceAdd, Int.reduceSub, Int.reduceMul, Int.reduceToNat, Int.toNat_zero, Int.toNat_one, Int.toNat_natCast, am_cats, am_cat, am_st1, am_st2, am_clr, up2_na, up2_nj, up2_same, List.getElem?_cons_zero, List.getElem?_cons_succ, List.set_cons_zero, List.set_cons_succ, ne_eq, tk_152 hh]
    exact hQ
  by_cases h3 : a = 3
  · subst h3
    simp only [e210, s210_0, s210_1, s210_2, s210_3, s210_4, s210_5, s210_6, s210_7, s210_8, s210_9, s210_10, s210_11, s210_12, s210_13, s210_14, s210_15, s210_16, s210_17, s210_18, s210_19, s210_20, s210_21, s210_22, s210_23, s210_24, s210_25, s210_26, s210_27, s210_28, s210_29, s210_30, s210_31, s210_32, s210_33, s210_34, s210_35, s210_36, s210_37, s210_38, s210_39, s210_40, s210_41, s210_42, Option.toList_some, Option.toList_none, List.cons_append, List.nil_append, Nat.le_refl, true_and, and_true, true_or, or_true, false_or, or_false, true_implies, false_implies, implies_true, not_true_eq_false, not_false_eq_true, eq_self, Nat.reduceLT, Nat.reduceLeDiff, Nat.reduceEqDiff, Nat.reduceAdd, Nat.reduceSub, Int.reduceLT, Int.reduceLE, Int.reduceEq, Int.reduceNeg, Int.reduceNe, Int.reduceAdd, Int.reduceSub, Int.reduceMul, Int.reduceToNat, Int.toNat_zero, Int.toNat_one, Int.toNat_natCast, am_cats, am_cat, am_st1, am_st2, am_clr, up2_na, up2_nj, up2_same, List.getElem?_cons_zero, List.getElem?_cons_succ, List.set_cons_zero, List.set_cons_succ, ne_eq, tk_152 hh]
    exact hQ
  by_cases h4 : a = 4
  · subst h4
    simp only [e210, s210_0, s210_1, s210_2, s210_3, s210_4, s210_5, s210_6, s210_7, s210_8, s210_9, s210_10, s210_11, s210_12, s210_13, s210_14, s210_15, s210_16, s210_17, s210_18, s210_19, s210_20, s210_21, s210_22, s210_23, s210_24, s210_25, s210_26, s210_27, s210_28, s210_29, s210_30, s210_31, s210_32, s210_33, s210_34, s210_35, s210_36, s210_37, s210_38, s210_39, s210_40, s210_41, s210_42, Option.toList_some, Option.toList_none, List.cons_append, List.nil_append, Nat.le_refl, true_and, and_true, true_or, or_true, false_or, or_false, true_implies, false_implies, implies_true, not_true_eq_false, not_false_eq_true, eq_self, Nat.reduceLT, Nat.reduceLeDiff, Nat.reduceEqDiff, Nat.reduceAdd, Nat.reduceSub, Int.reduceLT, Int.reduceLE, Int.reduceEq, Int.reduceNeg, Int.reduceNe, Int.reduceAdd, Int.reduceSub, Int.reduceMul, Int.reduceToNat, Int.toNat_zero, Int.toNat_one, Int.toNat_natCast, am_cats, am_cat, am_st1, am_st2, am_clr, up2_na, up2_nj, up2_same, List.getElem?_cons_zero, List.getElem?_cons_succ, List.set_cons_zero, List.set_cons_succ, ne_eq, tk_152 hh]
    exact hQ
  by_cases h5 : a = 5
  · subst h5
    simp only [e210, s210_0, s210_1, s210_2, s210_3, s210_4, s210_5, s210_6, s210_7, s210_8, s210_9, s210_10, s210_11, s210_12, s210_13, s210_14, s210_15, s210_16, s210_17, s210_18, s210_19, s210_20, s210_21, s210_22, s210_23, s210_24, s210_25, s210_26, s210_27, s210_28, s210_29, s210_30, s210_31, s210_32, s210_33, s210_34, s210_35, s210_36, s210_37, s210_38, s210_39, s210_40, s210_41, s210_42, Option.toList_some, Option.toList_none, List.cons_append, List.nil_append, Nat.le_refl, true_and, and_true, true_or, or_true, false_or, or_false, true_implies, false_implies, implies_true, not_true_eq_false, not_false_eq_true, eq_self, Nat.reduceLT, Nat.reduceLeDiff, Nat.reduceEqDiff, Nat.reduceAdd, Nat.reduceSub, Int.reduceLT, Int.reduceLE, Int.reduceEq, Int.reduceNeg, Int.reduceNe, Int.reduceAdd, Int.reduceSub, Int.reduceMul, Int.reduceToNat, Int.toNat_zero, Int.toNat_one, Int.toNat_natCast, am_cats, am_cat, am_st1, am_st2, am_clr, up2_na, up2_nj, up2_same, List.getElem?_cons_zero, List.getElem?_cons_succ, List.set_cons_zero, List.set_cons_succ, ne_eq, tk_152 hh]
    exact hQ
  by_cases h6 : a = 6
  · subst h6
    simp only [e210, s210_0, s210_1, s210_2, s210_3, s210_4, s210_5, s210_6, s210_7, s210_8, s210_9, s210_10, s210_11, s210_12, s210_13, s210_14, s210_15, s210_16, s210_17, s210_18, s210_19, s210_20, s210_21, s210_22, s210_23, s210_24, s210_25, s210_26, s210_27, s210_28, s210_29, s210_30, s210_31, s210_32, s210_33, s210_34, s210_35, s210_36, s210_37, s210_38, s210_39, s210_40, s210_41, s210_42, Option.toList_some, Option.toList_none, List.cons_append, List.nil_append, Nat.le_refl, true_and, and_true, true_or, or_true, false_or, or_false, true_implies, false_implies, implies_true, not_true_eq_false, not_false_eq_true, eq_self, Nat.reduceLT, Nat.reduceLeDiff, Nat.reduceEqDiff, Nat.reduceAdd, Nat.reduceSub, Int.reduceLT, Int.reduceLE, Int.reduceEq, Int.reduceNeg, Int.reduceNe, Int.reduceAdd, Int.reduceSub, Int.reduceMul, Int.reduceToNat, Int.toNat_zero, Int.toNat_one, Int.toNat_natCast, am_cats, am_cat, am_st1, am_st2, am_clr, up2_na, up2_nj, up2_same, List.getElem?_cons_zero, List.getElem?_cons_succ, List.set_cons_zero, List.set_cons_succ, ne_eq, tk_152 hh]
    exact hQ
  by_cases h7 : a = 7
  · subst h7
    simp only [e210, s210_0, s210_1, s210_2, s210_3, s210_4, s210_5, s210_6, s210_7, s210_8, s210_9, s210_10, s210_11, s210_12, s210_13, s210_14, s210_15, s210_16, s210_17, s210_18, s210_19, s210_20, s210_21, s210_22, s210_23, s210_24, s210_25, s210_26, s210_27, s210_28, s210_29, s210_30, s210_31, s210_32, s210_33, s210_34, s210_35, s210_36, s210_37, s210_38, s210_39, s210_40, s210_41, s210_42, Option.toList_some, Option.toList_none, List.cons_append, List.nil_append, Nat.le_refl, true_and, and_true, true_or, or_true, false_or, or_false, true_implies, false_implies, implies_true, not_true_eq_false, not_false_eq_true, eq_self, Nat.reduceLT, Nat.reduceLeDiff, Nat.reduceEqDiff, Nat.reduceAdd, Nat.reduceSub, Int.reduceLT, Int.reduceLE, Int.reduceEq, Int.reduceNeg, Int.reduceNe, Int.reduceAdd, Int.reduceSub, Int.reduceMul, Int.reduceToNat, Int.toNat_zero, Int.toNat_one, Int.toNat_natCast, am_cats, am_cat, am_st1, am_st2, am_clr, up2_na, up2_nj, up2_same, List.getElem?_cons_zero, List.getElem?_cons_succ, List.set_cons_zero, List.set_cons_succ, ne_eq, tk_152 hh]
    exact hQ
  rw [if_neg h0, if_neg h1, if_neg h2, if_neg h3, if_neg h4, if_neg h5, if_neg h6, if_neg h7] at hQ
  have w9 : w32 (9 + I 152 1) = 9 + I 152 1 := w32_eq (by omega) (by omega)
  by_cases h10 : 10 ≤ a ∧ a - 10 < I 152 1
  · rw [if_pos h10] at hQ
    obtain ⟨k, rfl⟩ : ∃ k : Nat, a = (k : Int) + 10 := ⟨(a - 10).toNat, by omega⟩
    have k6 : k < 6 := by omega
    have ek : ((k : Int) + 10 - 10).toNat = k := by omega
    rw [ek] at hQ
    have u2 : 10 ≤ (k : Int) + 10 ∧ (k : Int) + 10 ≤ 9 + I 152 1 := by omega
    have u3 : 0 ≤ (k : Int) ∧ (k : Int) < ((6 : Nat) : Int) := by omega
    have z1 : (k : Int) + 10 - 10 = (k : Int) := by omega
    have w1 := w32_c z1 (by omega)
    simp only [e210, s210_0, s210_1, s210_2, s210_3, s210_4, s210_5, s210_6, s210_7, s210_8, s210_9, s210_10, s210_11, s210_12, s210_13, s210_14, s210_15, s210_16, s210_17, s210_18, s210_19, s210_20, s210_21, s210_22, s210_23, s210_24, s210_25, s210_26, s210_27, s210_28, s210_29, s210_30, s210_31, s210_32, s210_33, s210_34, s210_35, s210_36, s210_37, s210_38, s210_39, s210_40, s210_41, s210_42, Option.toList_some, Option.toList_none, List.cons_append, List.nil_append, Nat.le_refl, true_and, and_true, true_or, or_true, false_or, or_false, true_implies, false_implies, implies_true, not_true_eq_false, not_false_eq_true, eq_self, Nat.reduceLT, Nat.reduceLeDiff, Nat.reduceEqDiff, Nat.reduceAdd, Nat.reduceSub, Int.reduceLT, Int.reduceLE, Int.reduceEq, Int.reduceNeg, Int.reduceNe, Int.reduceAdd, Int.reduceSub, Int.reduceMul, Int.reduceToNat, Int.toNat_zero, Int.toNat_one, Int.toNat_natCast, am_cats, am_cat, am_st1, am_st2, am_clr, up2_na, up2_nj, up2_same, List.getElem?_cons_zero, List.getElem?_cons_succ, List.set_cons_zero, List.set_cons_succ, ne_eq, tk_152 hh, tk_169 hh, rk_152_32 hh, k136, i10, h0, h1, h2, h3, h4, h5, h6, h7, u2, u3, w1, w9]
    exact hQ
  · rw [if_neg h10] at hQ
    have u2 : ¬ (10 ≤ a ∧ a ≤ 9 + I 152 1) := by omega
    simp only [e210, s210_0, s210_1, s210_2, s210_3, s210_4, s210_5, s210_6, s210_7, s210_8, s210_9, s210_10, s210_11, s210_12, s210_13, s210_14, s210_15, s210_16, s210_17, s210_18, s210_19, s210_20, s210_21, s210_22, s210_23, s210_24, s210_25, s210_26, s210_27, s210_28, s210_29, s210_30, s210_31, s210_32, s210_33, s210_34, s210_35, s210_36, s210_37, s210_38, s210_39, s210_40, s210_41, s210_42, Option.toList_some, Option.toList_none, List.cons_append, List.nil_append, Nat.le_refl, true_and, and_true, true_or, or_true, false_or, or_false, true_implies, false_implies, implies_true, not_true_eq_false, not_false_eq_true, eq_self, Nat.reduceLT, Nat.reduceLeDiff, Nat.reduceEqDiff, Nat.reduceAdd, Nat.reduceSub, Int.reduceLT, Int.reduceLE, Int.reduceEq, Int.reduceNeg, Int.reduceNe, Int.reduceAdd, Int.reduceSub, Int.reduceMul, Int.reduceToNat, Int.toNat_zero, Int.toNat_one, Int.toNat_natCast, am_cats, am_cat, am_st1, am_st2, am_clr, up2_na, up2_nj, up2_same, List.getElem?_cons_zero, List.getElem?_cons_succ, List.set_cons_zero, List.set_cons_succ, ne_eq, tk_152 hh, k136, i10, h0, h1, h2, h3, h4, h5, h6, h7, w9, u2]
    exact hQ
end
section
variable {L s d : Nat} {X : Nat → Int}
theorem px_count (hL : L ≤ 3072) (hX : ∀ j, rg32 (X j)) (hd : 40 ≤ d) : prx L X s LAL LKP d 129 210 1 false true := by
  refine px_ans (cx := cn133) (cm := cn177) (nx := 0) (nm := 0) hL hX (cn_all 133 (by decide) cn133 rfl) (cn_all 177 (by decide) cn177 rfl) rfl hd (by decide +kernel) (fun g h => h.1) (fun as s T I J R hl hr hH hP => ?_)
  obtain ⟨a, rfl⟩ := len1 hl
  obtain ⟨e, rfl⟩ : ∃ e, d = e + 1 := ⟨d - 1, by omega⟩
  have hh := hp_of (eH5_of hH)
  have b1 : 0 ≤ I 0 1 ∧ I 0 1 ≤ 6 := ebd hH (by decide) (by decide) (by decide)
  exact ⟨ctF I a, x129 hh b1 hP.2.2 (hr a (List.mem_singleton.mpr rfl)) ⟨rfl, fun _ _ => x210 hh b1 hP.1 rfl⟩⟩
end
section
variable {s d h t : Nat} {T : Nat → Nat × Nat} {I J : Nat → Nat → Int} {R : Nat → Nat → Option Nat} {Q : Option AV → AH → Prop}
/-- of what answer tells -/
def asF (I : Nat → Nat → Int) (n : Nat) (a b : Int) : Int := if (0 ≤ a ∧ a < (n : Int)) ∧ (0 ≤ b ∧ b ≤ 4) then I (157 + b.toNat) a.toNat else -1
theorem x75 (hh : hp T R) {n : Nat} (n2 : n ≤ 200) (hn : I 17 3 = n) (hB : lkB I) (hR : lkR I) {a b : Int} (hQ : Q (some (.inl (asF I n a b))) (185, s, T, I, J, R)) : wpc codeT mX (d + 1) 75 [.inr (.inr (some 0)), .inl a, .inl b] (185, s, T, I, J, R) Q := by
  unfold asF at hQ
  have w1 : w32 ((n : Int) - 1) = (n : Int) - 1 := w32_eq (by omega) (by omega)
  by_cases g1 : 0 ≤ a ∧ a < (n : Int)
  · have g1' : 0 ≤ a ∧ a ≤ (n : Int) - 1 := by clear w1; omega
    by_cases g2 : 0 ≤ b ∧ b ≤ 4
    · rw [if_pos ⟨g1, g2⟩] at hQ
      obtain ⟨i, rfl⟩ : ∃ k : Nat, a = (k : Int) := ⟨a.toNat, by clear w1; omega⟩
      obtain ⟨k, rfl⟩ : ∃ k : Nat, b = (k : Int) := ⟨b.toNat, by clear w1; omega⟩
      have k5 : k < 5 := by clear w1; omega
      have u1 : 0 ≤ (k : Int) ∧ (k : Int) < ((5 : Nat) : Int) := by clear w1; omega
      have u2 : 0 ≤ (i : Int) ∧ (i : Int) < ((200 : Nat) : Int) := by clear w1; omega
      have ek : (k : Int).toNat = k := Int.toNat_natCast k
      have ei : (i : Int).toNat = i := Int.toNat_natCast i
      obtain ⟨q1, q2, q3⟩ := hB i (by rw [hn]; exact g1.2)
      obtain ⟨q4, q5⟩ := hR i (by rw [hn]; exact g1.2)
      rw [ek, ei] at hQ
      have kk : k = 0 ∨ k = 1 ∨ k = 2 ∨ k = 3 ∨ k = 4 := by clear w1; omega
      rcases kk with rfl | rfl | rfl | rfl | rfl
      · rw [show 157 + 0 = 157 from rfl, ← q1] at hQ
        simp only [e75, s75_0, s75_1, s75_2, s75_3, s75_4, s75_5, s75_6, s75_7, s75_8, s75_9, s75_10, s75_11, s75_12, s75_13, s75_14, s75_15, s75_16, s75_17, s75_18, s75_19, s75_20, s75_21, s75_22, s75_23, Option.toList_some, Option.toList_none, List.cons_append, List.nil_append, Nat.le_refl, true_and, and_true, true_or, or_true, false_or, or_false, true_implies, false_implies, implies_true, not_true_eq_false, not_false_eq_true, eq_self, Nat.reduceLT, Nat.reduceLeDiff, Nat.reduceEqDiff, Nat.reduceAdd, Nat.reduceSub, Int.reduceLT, Int.reduceLE, Int.reduceEq, Int.reduceNeg, Int.reduceNe, Int.reduceAdd, Int.reduceSub, Int.reduceMul, Int.reduceToNat, Int.toNat_zero, Int.toNat_one, Int.toNat_natCast, am_cats, am_cat, am_st1, am_st2, am_clr, up2_na, up2_nj, up2_same, List.getElem?_cons_zero, List.getElem?_cons_succ, List.set_cons_zero, List.set_cons_succ, ne_eq, tk_0 hh, tk_17 hh, tk_18 hh, tk_19 hh, rk_0_7 hh, rk_17_0 hh, rk_18_0 hh, k18, i10, i5, hn, w1, g1', g2, u1, u2]
        exact hQ
      · rw [show 157 + 1 = 158 from rfl, ← q2] at hQ
        simp only [e75, s75_0, s75_1, s75_2, s75_3, s75_4, s75_5, s75_6, s75_7, s75_8, s75_9, s75_10, s75_11, s75_12, s75_13, s75_14, s75_15, s75_16, s75_17, s75_18, s75_19, s75_20, s75_21, s75_22, s75_23, Option.toList_some, Option.toList_none, List.cons_append, List.nil_append, Nat.le_refl, true_and, and_true, true_or, or_true, false_or, or_false, true_implies, false_implies, implies_true, not_true_eq_false, not_false_eq_true, eq_self, Nat.reduceLT, Nat.reduceLeDiff, Nat.reduceEqDiff, Nat.reduceAdd, Nat.reduceSub, Int.reduceLT, Int.reduceLE, Int.reduceEq, Int.reduceNeg, Int.reduceNe, Int.reduceAdd, Int.reduceSub, Int.reduceMul, Int.reduceToNat, Int.toNat_zero, Int.toNat_one, Int.toNat_natCast, am_cats, am_cat, am_st1, am_st2, am_clr, up2_na, up2_nj, up2_same, List.getElem?_cons_zero, List.getElem?_cons_succ, List.set_cons_zero, List.set_cons_succ, ne_eq, tk_0 hh, tk_17 hh, tk_18 hh, tk_20 hh, rk_0_7 hh, rk_17_0 hh, rk_18_1 hh, k18, i10, i5, hn, w1, g1', g2, u1, u2]
        exact hQ
      · rw [show 157 + 2 = 159 from rfl, ← q3] at hQ
        simp only [e75, s75_0, s75_1, s75_2, s75_3, s75_4, s75_5, s75_6, s75_7, s75_8, s75_9, s75_10, s75_11, s75_12, s75_13, s75_14, s75_15, s75_16, s75_17, s75_18, s75_19, s75_20, s75_21, s75_22, s75_23, Option.toList_some, Option.toList_none, List.cons_append, List.nil_append, Nat.le_refl, true_and, and_true, true_or, or_true, false_or, or_false, true_implies, false_implies, implies_true, not_true_eq_false, not_false_eq_true, eq_self, Nat.reduceLT, Nat.reduceLeDiff, Nat.reduceEqDiff, Nat.reduceAdd, Nat.reduceSub, Int.reduceLT, Int.reduceLE, Int.reduceEq, Int.reduceNeg, Int.reduceNe, Int.reduceAdd, Int.reduceSub, Int.reduceMul, Int.reduceToNat, Int.toNat_zero, Int.toNat_one, Int.toNat_natCast, am_cats, am_cat, am_st1, am_st2, am_clr, up2_na, up2_nj, up2_same, List.getElem?_cons_zero, List.getElem?_cons_succ, List.set_cons_zero, List.set_cons_succ, ne_eq, tk_0 hh, tk_17 hh, tk_18 hh, tk_21 hh, rk_0_7 hh, rk_17_0 hh, rk_18_2 hh, k18, i10, i5, hn, w1, g1', g2, u1, u2]
        exact hQ
      · rw [show 157 + 3 = 160 from rfl, ← q4] at hQ
        simp only [e75, s75_0, s75_1, s75_2, s75_3, s75_4, s75_5, s75_6, s75_7, s75_8, s75_9, s75_10, s75_11, s75_12, s75_13, s75_14, s75_15, s75_16, s75_17, s75_18, s75_19, s75_20, s75_21, s75_22, s75_23, Option.toList_some, Option.toList_none, List.cons_append, List.nil_append, Nat.le_refl, true_and, and_true, true_or, or_true, false_or, or_false, true_implies, false_implies, implies_true, not_true_eq_false, not_false_eq_true, eq_self, Nat.reduceLT, Nat.reduceLeDiff, Nat.reduceEqDiff, Nat.reduceAdd, Nat.reduceSub, Int.reduceLT, Int.reduceLE, Int.reduceEq, Int.reduceNeg, Int.reduceNe, Int.reduceAdd, Int.reduceSub, Int.reduceMul, Int.reduceToNat, Int.toNat_zero, Int.toNat_one, Int.toNat_natCast, am_cats, am_cat, am_st1, am_st2, am_clr, up2_na, up2_nj, up2_same, List.getElem?_cons_zero, List.getElem?_cons_succ, List.set_cons_zero, List.set_cons_succ, ne_eq, tk_0 hh, tk_17 hh, tk_18 hh, tk_22 hh, rk_0_7 hh, rk_17_0 hh, rk_18_3 hh, k18, i10, i5, hn, w1, g1', g2, u1, u2]
        exact hQ
      · rw [show 157 + 4 = 161 from rfl, ← q5] at hQ
        simp only [e75, s75_0, s75_1, s75_2, s75_3, s75_4, s75_5, s75_6, s75_7, s75_8, s75_9, s75_10, s75_11, s75_12, s75_13, s75_14, s75_15, s75_16, s75_17, s75_18, s75_19, s75_20, s75_21, s75_22, s75_23, Option.toList_some, Option.toList_none, List.cons_append, List.nil_append, Nat.le_refl, true_and, and_true, true_or, or_true, false_or, or_false, true_implies, false_implies, implies_true, not_true_eq_false, not_false_eq_true, eq_self, Nat.reduceLT, Nat.reduceLeDiff, Nat.reduceEqDiff, Nat.reduceAdd, Nat.reduceSub, Int.reduceLT, Int.reduceLE, Int.reduceEq, Int.reduceNeg, Int.reduceNe, Int.reduceAdd, Int.reduceSub, Int.reduceMul, Int.reduceToNat, Int.toNat_zero, Int.toNat_one, Int.toNat_natCast, am_cats, am_cat, am_st1, am_st2, am_clr, up2_na, up2_nj, up2_same, List.getElem?_cons_zero, List.getElem?_cons_succ, List.set_cons_zero, List.set_cons_succ, ne_eq, tk_0 hh, tk_17 hh, tk_18 hh, tk_23 hh, rk_0_7 hh, rk_17_0 hh, rk_18_4 hh, k18, i10, i5, hn, w1, g1', g2, u1, u2]
        exact hQ
    · rw [if_neg (fun z => g2 z.2)] at hQ
      simp only [s75_0, s75_1, s75_2, s75_3, s75_4, s75_5, s75_6, s75_7, s75_8, s75_9, s75_10, s75_11, s75_12, s75_13, s75_14, s75_15, e75, Option.toList_some, Option.toList_none, List.cons_append, List.nil_append, Nat.le_refl, true_and, and_true, true_or, or_true, false_or, or_false, true_implies, false_implies, implies_true, not_true_eq_false, not_false_eq_true, eq_self, Nat.reduceLT, Nat.reduceLeDiff, Nat.reduceEqDiff, Nat.reduceAdd, Nat.reduceSub, Int.reduceLT, Int.reduceLE, Int.reduceEq, Int.reduceNeg, Int.reduceNe, Int.reduceAdd, Int.reduceSub, Int.reduceMul, Int.reduceToNat, Int.toNat_zero, Int.toNat_one, Int.toNat_natCast, am_cats, am_cat, am_st1, am_st2, am_clr, up2_na, up2_nj, up2_same, List.getElem?_cons_zero, List.getElem?_cons_succ, List.set_cons_zero, List.set_cons_succ, ne_eq, tk_0 hh, tk_17 hh, rk_0_7 hh, k18, i10, hn, w1, g1', g2]
      exact hQ
  · have g1' : ¬ (0 ≤ a ∧ a ≤ (n : Int) - 1) := by clear w1; omega
    rw [if_neg (fun z => g1 z.1)] at hQ
    simp only [s75_0, s75_1, s75_2, s75_3, s75_4, s75_5, s75_6, s75_7, s75_8, s75_9, s75_10, s75_11, s75_12, s75_13, s75_14, s75_15, e75, Option.toList_some, Option.toList_none, List.cons_append, List.nil_append, Nat.le_refl, true_and, and_true, true_or, or_true, false_or, or_false, true_implies, false_implies, implies_true, not_true_eq_false, not_false_eq_true, eq_self, Nat.reduceLT, Nat.reduceLeDiff, Nat.reduceEqDiff, Nat.reduceAdd, Nat.reduceSub, Int.reduceLT, Int.reduceLE, Int.reduceEq, Int.reduceNeg, Int.reduceNe, Int.reduceAdd, Int.reduceSub, Int.reduceMul, Int.reduceToNat, Int.toNat_zero, Int.toNat_one, Int.toNat_natCast, am_cats, am_cat, am_st1, am_st2, am_clr, up2_na, up2_nj, up2_same, List.getElem?_cons_zero, List.getElem?_cons_succ, List.set_cons_zero, List.set_cons_succ, ne_eq, tk_0 hh, tk_17 hh, rk_0_7 hh, k18, i10, hn, w1, g1']
    exact hQ
theorem x175 (hh : hp T R) {n : Nat} (n2 : n ≤ 200) (hn : I 152 4 = n) {a b : Int} (hQ : Q (some (.inl (asF I n a b))) (185, s, T, I, J, R)) : wpc codeT mX d 175 [.inr (.inr (some 152)), .inl a, .inl b] (185, s, T, I, J, R) Q := by
  unfold asF at hQ
  by_cases g0 : a < 0
  · rw [if_neg (by omega)] at hQ
    simp only [s175_0, s175_1, s175_2, s175_3, s175_4, s175_5, s175_6, s175_7, e175, Option.toList_some, Option.toList_none, List.cons_append, List.nil_append, Nat.le_refl, true_and, and_true, true_or, or_true, false_or, or_false, true_implies, false_implies, implies_true, not_true_eq_false, not_false_eq_true, eq_self, Nat.reduceLT, Nat.reduceLeDiff, Nat.reduceEqDiff, Nat.reduceAdd, Nat.reduceSub, Int.reduceLT, Int.reduceLE, Int.reduceEq, Int.reduceNeg, Int.reduceNe, Int.reduceAdd, Int.reduceSub, Int.reduceMul, Int.reduceToNat, Int.toNat_zero, Int.toNat_one, Int.toNat_natCast, am_cats, am_cat, am_st1, am_st2, am_clr, up2_na, up2_nj, up2_same, List.getElem?_cons_zero, List.getElem?_cons_succ, List.set_cons_zero, List.set_cons_succ, ne_eq, tk_152 hh, hn, g0]
    exact hQ
  by_cases g1 : a < (n : Int)
  · obtain ⟨i, rfl⟩ : ∃ k : Nat, a = (k : Int) := ⟨a.toNat, by omega⟩
    have u2 : 0 ≤ (i : Int) ∧ (i : Int) < ((200 : Nat) : Int) := by omega
    have ei : (i : Int).toNat = i := Int.toNat_natCast i
    by_cases h0 : b = 0
    · subst h0
      rw [if_pos (by omega), ei] at hQ
      simp only [e175, s175_0, s175_1, s175_2, s175_3, s175_4, s175_5, s175_6, s175_7, s175_8, s175_9, s175_10, s175_11, s175_12, s175_13, s175_14, s175_15, s175_16, s175_17, s175_18, s175_19, s175_20, s175_21, s175_22, s175_23, s175_24, s175_25, s175_26, s175_27, s175_28, s175_29, s175_30, s175_31, s175_32, s175_33, s175_34, s175_35, s175_36, Option.toList_some, Option.toList_none, List.cons_append, List.nil_append, Nat.le_refl, true_and, and_true, true_or, or_true, false_or, or_false, true_implies, false_implies, implies_true, not_true_eq_false, not_false_eq_true, eq_self, Nat.reduceLT, Nat.reduceLeDiff, Nat.reduceEqDiff, Nat.reduceAdd, Nat.reduceSub, Int.reduceLT, Int.reduceLE, Int.reduceEq, Int.reduceNeg, Int.reduceNe, Int.reduceAdd, Int.reduceSub, Int.reduceMul, Int.reduceToNat, Int.toNat_zero, Int.toNat_one, Int.toNat_natCast, am_cats, am_cat, am_st1, am_st2, am_clr, up2_na, up2_nj, up2_same, List.getElem?_cons_zero, List.getElem?_cons_succ, List.set_cons_zero, List.set_cons_succ, ne_eq, tk_152 hh, tk_157 hh, rk_152_11 hh, hn, g0, g1, u2]
      exact hQ
    by_cases h1 : b = 1
    · subst h1
      rw [if_pos (by omega), ei] at hQ
      simp only [e175, s175_0, s175_1, s175_2, s175_3, s175_4, s175_5, s175_6, s175_7, s175_8, s175_9, s175_10, s175_11, s175_12, s175_13, s175_14, s175_15, s175_16, s175_17, s175_18, s175_19, s175_20, s175_21, s175_22, s175_23, s175_24, s175_25, s175_26, s175_27, s175_28, s175_29, s175_30, s175_31, s175_32, s175_33, s175_34, s175_35, s175_36, Option.toList_some, Option.toList_none, List.cons_append, List.nil_append, Nat.le_refl, true_and, and_true, true_or, or_true, false_or, or_false, true_implies, false_implies, implies_true, not_true_eq_false, not_false_eq_true, eq_self, Nat.reduceLT, Nat.reduceLeDiff, Nat.reduceEqDiff, Nat.reduceAdd, Nat.reduceSub, Int.reduceLT, Int.reduceLE, Int.reduceEq, Int.reduceNeg, Int.reduceNe, Int.reduceAdd, Int.reduceSub, Int.reduceMul, Int.reduceToNat, Int.toNat_zero, Int.toNat_one, Int.toNat_natCast, am_cats, am_cat, am_st1, am_st2, am_clr, up2_na, up2_nj, up2_same, List.getElem?_cons_zero, List.getElem?_cons_succ, List.set_cons_zero, List.set_cons_succ, ne_eq, tk_152 hh, tk_158 hh, rk_152_12 hh, hn, g0, g1, u2]
      exact hQ
    by_cases h2 : b = 2
    · subst h2
      rw [if_pos (by omega), ei] at hQ
      simp only [e175, s175_0, s175_1, s175_2, s175_3, s175_4, s175_5, s175_6, s175_7, s175_8, s175_9, s175_10, s175_11, s175_12, s175_13, s175_14, s175_15, s175_16, s175_17, s175_18, s175_19, s175_20, s175_21, s175_22, s175_23, s175_24, s175_25, s175_26, s175_27, s175_28, s175_29, s175_30, s175_31, s175_32, s175_33, s175_34, s175_35, s175_36, Option.toList_some, Option.toList_none, List.cons_append, List.nil_append, Nat.le_refl, true_and, and_true, true_or, or_true, false_or, or_false, true_implies, false_implies, implies_true, not_true_eq_false, not_false_eq_true, eq_self, Nat.reduceLT, Nat.reduceLeDiff, Nat.reduceEqDiff, Nat.reduceAdd, Nat.reduceSub, Int.reduceLT, Int.reduceLE, Int.reduceEq, Int.reduceNeg, Int.reduceNe, Int.reduceAdd, Int.reduceSub, Int.reduceMul, Int.reduceToNat, Int.toNat_zero, Int.toNat_one, Int.toNat_natCast, am_cats, am_cat, am_st1, am_st2, am_clr, up2_na, up2_nj, up2_same, List.getElem?_cons_zero, List.getElem?_cons_succ, List.set_cons_zero, List.set_cons_succ, ne_eq, tk_152 hh, tk_159 hh, rk_152_13 hh, hn, g0, g1, u2]
      exact hQ
    by_cases h3 : b = 3
    · subst h3
      rw [if_pos (by omega), ei] at hQ
      simp only [e175, s175_0, s175_1, s175_2, s175_3, s175_4, s175_5, s175_6, s175_7, s175_8, s175_9, s175_10, s175_11, s175_12, s175_13, s175_14, s175_15, s175_16, s175_17, s175_18, s175_19, s175_20, s175_21, s175_22, s175_23, s175_24, s175_25, s175_26, s175_27, s175_28, s175_29, s175_30, s175_31, s175_32, s175_33, s175_34, s175_35, s175_36, Option.toList_some, Option.toList_none, List.cons_append, List.nil_append, Nat.le_refl, true_and, and_true, true_or, or_true, false_or, or_false, true_implies, false_implies, implies_true, not_true_eq_false, not_false_eq_true, eq_self, Nat.reduceLT, Nat.reduceLeDiff, Nat.reduceEqDiff, Nat.reduceAdd, Nat.reduceSub, Int.reduceLT, Int.reduceLE, Int.reduceEq, Int.reduceNeg, Int.reduceNe, Int.reduceAdd, Int.reduceSub, Int.reduceMul, Int.reduceToNat, Int.toNat_zero, Int.toNat_one, Int.toNat_natCast, am_cats, am_cat, am_st1, am_st2, am_clr, up2_na, up2_nj, up2_same, List.getElem?_cons_zero, List.getElem?_cons_succ, List.set_cons_zero, List.set_cons_succ, ne_eq, tk_152 hh, tk_160 hh, rk_152_14 hh, hn, g0, g1, u2]
      exact hQ
    by_cases h4 : b = 4
    · subst h4
      rw [if_pos (by omega), ei] at hQ
      simp only [e175, s175_0, s175_1, s175_2, s175_3, s175_4, s175_5, s175_6, s175_7, s175_8, s175_9, s175_10, s175_11, s175_12, s175_13, s175_14, s175_15, s175_16, s175_17, s175_18, s175_19, s175_20, s175_21, s175_22, s175_23, s175_24, s175_25, s175_26, s175_27, s175_28, s175_29, s175_30, s175_31, s175_32, s175_33, s175_34, s175_35, s175_36, Option.toList_some, Option.toList_none, List.cons_append, List.nil_append, Nat.le_refl, true_and, and_true, true_or, or_true, false_or, or_false, true_implies, false_implies, implies_true, not_true_eq_false, not_false_eq_true, eq_self, Nat.reduceLT, Nat.reduceLeDiff, Nat.reduceEqDiff, Nat.reduceAdd, Nat.reduceSub, Int.reduceLT, Int.reduceLE, Int.reduceEq, Int.reduceNeg, Int.reduceNe, Int.reduceAdd, Int.reduceSub, Int.reduceMul, Int.reduceToNat, Int.toNat_zero, Int.toNat_one, Int.toNat_natCast, am_cats, am_cat, am_st1, am_st2, am_clr, up2_na, up2_nj, up2_same, List.getElem?_cons_zero, List.getElem?_cons_succ, List.set_cons_zero, List.set_cons_succ, ne_eq, tk_152 hh, tk_161 hh, rk_152_15 hh, hn, g0, g1, u2]
      exact hQ
    rw [if_neg (by omega)] at hQ
    simp only [e175, s175_0, s175_1, s175_2, s175_3, s175_4, s175_5, s175_6, s175_7, s175_8, s175_9, s175_10, s175_11, s175_12, s175_13, s175_14, s175_15, s175_16, s175_17, s175_18, s175_19, s175_20, s175_21, s175_22, s175_23, s175_24, s175_25, s175_26, s175_27, s175_28, s175_29, s175_30, s175_31, s175_32, s175_33, s175_34, s175_35, s175_36, Option.toList_some, Option.toList_none, List.cons_append, List.nil_append, Nat.le_refl, true_and, and_true, true_or, or_true, false_or, or_false, true_implies, false_implies, implies_true, not_true_eq_false, not_false_eq_true, eq_self, Nat.reduceLT, Nat.reduceLeDiff, Nat.reduceEqDiff, Nat.reduceAdd, Nat.reduceSub, Int.reduceLT, Int.reduceLE, Int.reduceEq, Int.reduceNeg, Int.reduceNe, Int.reduceAdd, Int.reduceSub, Int.reduceMul, Int.reduceToNat, Int.toNat_zero, Int.toNat_one, Int.toNat_natCast, am_cats, am_cat, am_st1, am_st2, am_clr, up2_na, up2_nj, up2_same, List.getElem?_cons_zero, List.getElem?_cons_succ, List.set_cons_zero, List.set_cons_succ, ne_eq, tk_152 hh, hn, g0, g1, h0, h1, h2, h3, h4]
    exact hQ
  · rw [if_neg (by omega)] at hQ
    simp only [s175_0, s175_1, s175_2, s175_3, s175_4, s175_5, s175_6, s175_7, e175, Option.toList_some, Option.toList_none, List.cons_append, List.nil_append, Nat.le_refl, true_and, and_true, true_or, or_true, false_or, or_false, true_implies, false_implies, implies_true, not_true_eq_false, not_false_eq_true, eq_self, Nat.reduceLT, Nat.reduceLeDiff, Nat.reduceEqDiff, Nat.reduceAdd, Nat.reduceSub, Int.reduceLT, Int.reduceLE, Int.reduceEq, Int.reduceNeg, Int.reduceNe, Int.reduceAdd, Int.reduceSub, Int.reduceMul, Int.reduceToNat, Int.toNat_zero, Int.toNat_one, Int.toNat_natCast, am_cats, am_cat, am_st1, am_st2, am_clr, up2_na, up2_nj, up2_same, List.getElem?_cons_zero, List.getElem?_cons_succ, List.set_cons_zero, List.set_cons_succ, ne_eq, tk_152 hh, hn, g0, g1]
    exact hQ
/-- of what can tells -/
def cdF (r m : Int) : Int := if w32 (2 * r) = m then 2 else if m < w32 (2 * r) then 1 else 0
theorem k77 (hh : hp T R) (h6 : h < 6) (t8 : t < 8) : wpc codeT mX d 77 [.inr (.inr (some 17)), .inl (h : Int), .inl (t : Int)] (185, s, T, I, J, R) Q ↔ Q (some (.inl (I (33 + h) t))) (185, s, T, I, J, R) := wpc_det (by
  have u1 : 0 ≤ (h : Int) ∧ (h : Int) < ((6 : Nat) : Int) := by omega
  have u2 : 0 ≤ (t : Int) ∧ (t : Int) < ((8 : Nat) : Int) := by omega
  have u3 : 33 + h < 185 := by omega
  simp only [e77, s77_0, s77_1, s77_2, s77_3, s77_4, s77_5, s77_6, s77_7, Option.toList_some, Option.toList_none, List.cons_append, List.nil_append, Nat.le_refl, true_and, and_true, true_or, or_true, false_or, or_false, true_implies, false_implies, implies_true, not_true_eq_false, not_false_eq_true, eq_self, Nat.reduceLT, Nat.reduceLeDiff, Nat.reduceEqDiff, Nat.reduceAdd, Nat.reduceSub, Int.reduceLT, Int.reduceLE, Int.reduceEq, Int.reduceNeg, Int.reduceNe, Int.reduceAdd, Int.reduceSub, Int.reduceMul, Int.reduceToNat, Int.toNat_zero, Int.toNat_one, Int.toNat_natCast, am_cats, am_cat, am_st1, am_st2, am_clr, up2_na, up2_nj, up2_same, List.getElem?_cons_zero, List.getElem?_cons_succ, List.set_cons_zero, List.set_cons_succ, ne_eq, tk_17 hh, tk_31 hh, tk_32 hh, tg_33 hh h6, rk_17_2 hh, rk_31_0 hh, gk_32 hh h6, u1, u2, u3])
theorem k78 (hh : hp T R) (h6 : h < 6) (t8 : t < 8) : wpc codeT mX (d + 1) 78 [.inr (.inr (some 17)), .inl (h : Int), .inl (t : Int)] (185, s, T, I, J, R) Q ↔ Q (some (.inl (cdF (I (25 + h) t) (I (33 + h) t)))) (185, s, T, I, J, R) := wpc_det (by
  have u1 : 0 ≤ (h : Int) ∧ (h : Int) < ((6 : Nat) : Int) := by omega
  have u2 : 0 ≤ (t : Int) ∧ (t : Int) < ((8 : Nat) : Int) := by omega
  have u3 : 25 + h < 185 := by omega
  unfold cdF
  by_cases z1 : w32 (2 * I (25 + h) t) = I (33 + h) t
  · rw [if_pos z1]
    simp only [e78, s78_0, s78_1, s78_2, s78_3, s78_4, s78_5, s78_6, s78_7, s78_8, s78_9, s78_10, s78_11, s78_12, s78_13, s78_14, s78_15, s78_16, s78_17, s78_18, s78_19, s78_20, s78_21, s78_22, s78_23, s78_24, s78_25, Option.toList_some, Option.toList_none, List.cons_append, List.nil_append, Nat.le_refl, true_and, and_true, true_or, or_true, false_or, or_false, true_implies, false_implies, implies_true, not_true_eq_false, not_false_eq_true, eq_self, Nat.reduceLT, Nat.reduceLeDiff, Nat.reduceEqDiff, Nat.reduceAdd, Nat.reduceSub, Int.reduceLT, Int.reduceLE, Int.reduceEq, Int.reduceNeg, Int.reduceNe, Int.reduceAdd, Int.reduceSub, Int.reduceMul, Int.reduceToNat, Int.toNat_zero, Int.toNat_one, Int.toNat_natCast, am_cats, am_cat, am_st1, am_st2, am_clr, up2_na, up2_nj, up2_same, List.getElem?_cons_zero, List.getElem?_cons_succ, List.set_cons_zero, List.set_cons_succ, ne_eq, tk_17 hh, tk_24 hh, tg_25 hh h6, rk_17_1 hh, gk_24 hh h6, k77 hh h6 t8, u1, u2, u3, z1]
  · rw [if_neg z1]
    by_cases z2 : I (33 + h) t < w32 (2 * I (25 + h) t)
    · rw [if_pos z2]
      simp only [e78, s78_0, s78_1, s78_2, s78_3, s78_4, s78_5, s78_6, s78_7, s78_8, s78_9, s78_10, s78_11, s78_12, s78_13, s78_14, s78_15, s78_16, s78_17, s78_18, s78_19, s78_20, s78_21, s78_22, s78_23, s78_24, s78_25, Option.toList_some, Option.toList_none, List.cons_append, List.nil_append, Nat.le_refl, true_and, and_true, true_or, or_true, false_or, or_false, true_implies, false_implies, implies_true, not_true_eq_false, not_false_eq_true, eq_self, Nat.reduceLT, Nat.reduceLeDiff, Nat.reduceEqDiff, Nat.reduceAdd, Nat.reduceSub, Int.reduceLT, Int.reduceLE, Int.reduceEq, Int.reduceNeg, Int.reduceNe, Int.reduceAdd, Int.reduceSub, Int.reduceMul, Int.reduceToNat, Int.toNat_zero, Int.toNat_one, Int.toNat_natCast, am_cats, am_cat, am_st1, am_st2, am_clr, up2_na, up2_nj, up2_same, List.getElem?_cons_zero, List.getElem?_cons_succ, List.set_cons_zero, List.set_cons_succ, ne_eq, tk_17 hh, tk_24 hh, tg_25 hh h6, rk_17_1 hh, gk_24 hh h6, k77 hh h6 t8, u1, u2, u3, z1, z2]
    · rw [if_neg z2]
      simp only [e78, s78_0, s78_1, s78_2, s78_3, s78_4, s78_5, s78_6, s78_7, s78_8, s78_9, s78_10, s78_11, s78_12, s78_13, s78_14, s78_15, s78_16, s78_17, s78_18, s78_19, s78_20, s78_21, s78_22, s78_23, s78_24, s78_25, Option.toList_some, Option.toList_none, List.cons_append, List.nil_append, Nat.le_refl, true_and, and_true, true_or, or_true, false_or, or_false, true_implies, false_implies, implies_true, not_true_eq_false, not_false_eq_true, eq_self, Nat.reduceLT, Nat.reduceLeDiff, Nat.reduceEqDiff, Nat.reduceAdd, Nat.reduceSub, Int.reduceLT, Int.reduceLE, Int.reduceEq, Int.reduceNeg, Int.reduceNe, Int.reduceAdd, Int.reduceSub, Int.reduceMul, Int.reduceToNat, Int.toNat_zero, Int.toNat_one, Int.toNat_natCast, am_cats, am_cat, am_st1, am_st2, am_clr, up2_na, up2_nj, up2_same, List.getElem?_cons_zero, List.getElem?_cons_succ, List.set_cons_zero, List.set_cons_succ, ne_eq, tk_17 hh, tk_24 hh, tg_25 hh h6, rk_17_1 hh, gk_24 hh h6, k77 hh h6 t8, u1, u2, u3, z1, z2])
theorem k177 (hh : hp T R) {N : Nat} (hN : I 152 4 = (N : Int)) (hN2 : N ≤ 200) {h t : Int} : wpc codeT mX d 177 [.inr (.inr (some 152)), .inl h, .inl t] (185, s, T, I, J, R) Q ↔ Q (some (.inl (mny I h t N))) (185, s, T, I, J, R) := wpc_det (w_many (mdl_hp hh) hN hN2)
theorem k178 (hh : hp T R) {N : Nat} (hI : ∀ j, j < N → 0 ≤ I 160 j ∧ I 160 j ≤ 1) (hN : I 152 4 = (N : Int)) (hN2 : N ≤ 200) {h t : Int} : wpc codeT mX d 178 [.inr (.inr (some 152)), .inl h, .inl t] (185, s, T, I, J, R) Q ↔ Q (some (.inl (rgt I h t N))) (185, s, T, I, J, R) := wpc_det (w_rights (mdl_hp hh) hI hN hN2)
theorem k179 (hh : hp T R) {N : Nat} (hI : ∀ j, j < N → 0 ≤ I 160 j ∧ I 160 j ≤ 1) (hN : I 152 4 = (N : Int)) (hN2 : N ≤ 200) {h t : Int} : wpc codeT mX (d + 1) 179 [.inr (.inr (some 152)), .inl h, .inl t] (185, s, T, I, J, R) Q ↔ Q (some (.inl (cdF (rgt I h t N) (mny I h t N)))) (185, s, T, I, J, R) := wpc_det (by
  unfold cdF
  by_cases z1 : w32 (2 * rgt I h t N) = mny I h t N
  · rw [if_pos z1]
    simp only [e179, s179_0, s179_1, s179_2, s179_3, s179_4, s179_5, s179_6, s179_7, s179_8, s179_9, s179_10, s179_11, s179_12, s179_13, s179_14, s179_15, s179_16, s179_17, s179_18, s179_19, s179_20, s179_21, s179_22, s179_23, s179_24, Option.toList_some, Option.toList_none, List.cons_append, List.nil_append, Nat.le_refl, true_and, and_true, true_or, or_true, false_or, or_false, true_implies, false_implies, implies_true, not_true_eq_false, not_false_eq_true, eq_self, Nat.reduceLT, Nat.reduceLeDiff, Nat.reduceEqDiff, Nat.reduceAdd, Nat.reduceSub, Int.reduceLT, Int.reduceLE, Int.reduceEq, Int.reduceNeg, Int.reduceNe, Int.reduceAdd, Int.reduceSub, Int.reduceMul, Int.reduceToNat, Int.toNat_zero, Int.toNat_one, Int.toNat_natCast, am_cats, am_cat, am_st1, am_st2, am_clr, up2_na, up2_nj, up2_same, List.getElem?_cons_zero, List.getElem?_cons_succ, List.set_cons_zero, List.set_cons_succ, ne_eq, tk_152 hh, k177 hh hN hN2, k178 hh hI hN hN2, z1, Int.lt_irrefl]
  · rw [if_neg z1]
    by_cases z2 : mny I h t N < w32 (2 * rgt I h t N)
    · rw [if_pos z2]
      simp only [e179, s179_0, s179_1, s179_2, s179_3, s179_4, s179_5, s179_6, s179_7, s179_8, s179_9, s179_10, s179_11, s179_12, s179_13, s179_14, s179_15, s179_16, s179_17, s179_18, s179_19, s179_20, s179_21, s179_22, s179_23, s179_24, Option.toList_some, Option.toList_none, List.cons_append, List.nil_append, Nat.le_refl, true_and, and_true, true_or, or_true, false_or, or_false, true_implies, false_implies, implies_true, not_true_eq_false, not_false_eq_true, eq_self, Nat.reduceLT, Nat.reduceLeDiff, Nat.reduceEqDiff, Nat.reduceAdd, Nat.reduceSub, Int.reduceLT, Int.reduceLE, Int.reduceEq, Int.reduceNeg, Int.reduceNe, Int.reduceAdd, Int.reduceSub, Int.reduceMul, Int.reduceToNat, Int.toNat_zero, Int.toNat_one, Int.toNat_natCast, am_cats, am_cat, am_st1, am_st2, am_clr, up2_na, up2_nj, up2_same, List.getElem?_cons_zero, List.getElem?_cons_succ, List.set_cons_zero, List.set_cons_succ, ne_eq, tk_152 hh, k177 hh hN hN2, k178 hh hI hN hN2, z2]
    · rw [if_neg z2]
      have z3 : w32 (2 * rgt I h t N) < mny I h t N := by omega
      simp only [e179, s179_0, s179_1, s179_2, s179_3, s179_4, s179_5, s179_6, s179_7, s179_8, s179_9, s179_10, s179_11, s179_12, s179_13, s179_14, s179_15, s179_16, s179_17, s179_18, s179_19, s179_20, s179_21, s179_22, s179_23, s179_24, Option.toList_some, Option.toList_none, List.cons_append, List.nil_append, Nat.le_refl, true_and, and_true, true_or, or_true, false_or, or_false, true_implies, false_implies, implies_true, not_true_eq_false, not_false_eq_true, eq_self, Nat.reduceLT, Nat.reduceLeDiff, Nat.reduceEqDiff, Nat.reduceAdd, Nat.reduceSub, Int.reduceLT, Int.reduceLE, Int.reduceEq, Int.reduceNeg, Int.reduceNe, Int.reduceAdd, Int.reduceSub, Int.reduceMul, Int.reduceToNat, Int.toNat_zero, Int.toNat_one, Int.toNat_natCast, am_cats, am_cat, am_st1, am_st2, am_clr, up2_na, up2_nj, up2_same, List.getElem?_cons_zero, List.getElem?_cons_succ, List.set_cons_zero, List.set_cons_succ, ne_eq, tk_152 hh, k177 hh hN hN2, k178 hh hI hN hN2, z2, z3])
end
section
variable {L s d : Nat} {X : Nat → Int}
theorem px_answer (hL : L ≤ 3072) (hX : ∀ j, rg32 (X j)) (hd : 40 ≤ d) : prx L X s LAL LKP d 75 175 2 false true := by
  refine px_ans (cx := cn84) (cm := cn147) (nx := 0) (nm := 0) hL hX (cn_all 84 (by decide) cn84 rfl) (cn_all 147 (by decide) cn147 rfl) rfl hd (by decide +kernel) (fun g h => h.1) (fun as s T I J R hl hr hH hP => ?_)
  obtain ⟨a, b, rfl⟩ := len2 hl
  obtain ⟨e, rfl⟩ : ∃ e, d = e + 1 := ⟨d - 1, by omega⟩
  have hh := hp_of (eH5_of hH)
  have b4 : 0 ≤ I 17 3 ∧ I 17 3 ≤ 200 := ebd hH (by decide) (by decide) (by decide)
  obtain ⟨n, hn⟩ : ∃ n : Nat, I 17 3 = n := ⟨(I 17 3).toNat, by omega⟩
  have hK : LK I := hP.1
  obtain ⟨-, -, -, -, -, -, l6, -, -, -, -, -, l12, -⟩ := hK
  have l6 : I 17 3 = I 152 4 := l6
  exact ⟨asF I n a b, x75 hh (by omega) hn l12 hP.2.1.1.1 ⟨rfl, fun _ _ => x175 hh (by omega) (l6.symm.trans hn) rfl⟩⟩
set_option maxHeartbeats 1000000 in
theorem px_can (hL : L ≤ 3072) (hX : ∀ j, rg32 (X j)) (hd : 40 ≤ d) : prx L X s LAL LKP d 76 176 3 false true := by
  refine px_ans (cx := cn85) (cm := cn150) (nx := 0) (nm := 0) hL hX (cn_all 85 (by decide) cn85 rfl) (cn_all 150 (by decide) cn150 rfl) rfl hd (by decide +kernel) (fun g h => h.1) (fun as s T I J R hl hr hH hP => ?_)
  obtain ⟨a, b, z, rfl⟩ := len3 hl
  obtain ⟨e, rfl⟩ : ∃ e, d = e + 2 := ⟨d - 2, by omega⟩
  have hh := hp_of (eH5_of hH)
  have b2 : 0 ≤ I 0 2 ∧ I 0 2 ≤ 6 := ebd hH (by decide) (by decide) (by decide)
  have b3 : 0 ≤ I 3 3 ∧ I 3 3 ≤ 8 := ebd hH (by decide) (by decide) (by decide)
  have b4 : 0 ≤ I 17 3 ∧ I 17 3 ≤ 200 := ebd hH (by decide) (by decide) (by decide)
  obtain ⟨n, hn⟩ : ∃ n : Nat, I 17 3 = n := ⟨(I 17 3).toNat, by omega⟩
  have n2 : n ≤ 200 := by omega
  have hK : LK I := hP.1
  obtain ⟨-, -, l2, -, -, l5, l6, -⟩ := hK
  have l2 : I 0 2 = I 152 2 := l2
  have l5 : I 3 3 = I 152 3 := l5
  have l6 : I 17 3 = I 152 4 := l6
  have hN : I 152 4 = (n : Int) := l6.symm.trans hn
  have hI : ∀ j, j < n → 0 ≤ I 160 j ∧ I 160 j ≤ 1 := fun j hj => ebd hH (by decide) (by show j < 200; omega) ((bI_hi (by decide)).trans (by decide))
  have hG : lkG I := hP.2.1.1.2.1
  have hPP : lkP I := hP.2.1.1.2.2
  show ∃ a' : Int, wpc codeT mX (e + 2) 76 [.inr (.inr (some 0)), .inl a, .inl b, .inl z] (185, s, T, I, J, R) (fun v g1 => v = some (ansV false a') ∧ (eH g1 → eM cn85.2.2.2.1 (185, s, T, I, J, R) g1 → wpc codeT mX (e + 2) 176 [.inr (.inr (some 152)), .inl a, .inl b, .inl z] g1 (fun v2 _ => v2 = some (ansV false a'))))
  by_cases g1 : 0 ≤ a ∧ a < I 0 2
  · have g1' : 0 ≤ a ∧ a < I 152 2 := by omega
    by_cases g2 : 0 ≤ b ∧ b < I 3 3
    · have g2' : 0 ≤ b ∧ b < I 152 3 := by omega
      obtain ⟨h, rfl⟩ : ∃ k : Nat, a = (k : Int) := ⟨a.toNat, by omega⟩
      obtain ⟨t, rfl⟩ : ∃ k : Nat, b = (k : Int) := ⟨b.toNat, by omega⟩
      have h6 : h < 6 := by omega
      have t8 : t < 8 := by omega
      have u1 : 0 ≤ (h : Int) ∧ (h : Int) < ((6 : Nat) : Int) := by omega
      have u2 : 0 ≤ (t : Int) ∧ (t : Int) < ((8 : Nat) : Int) := by omega
      have u3 : 25 + h < 185 := by omega
      have eg : I (25 + h) t = rgt I h t n := hG n hn h t h6 t8
      have em : I (33 + h) t = mny I h t n := (((hPP n hn h h6).2 t t8)).1
      by_cases z0 : z = 0
      · subst z0
        refine ⟨mny I h t n, ?_⟩
        simp only [e76, s76_0, s76_1, s76_2, s76_3, s76_4, s76_5, s76_6, s76_7, s76_8, s76_9, s76_10, s76_11, s76_12, s76_13, s76_14, s76_15, s76_16, s76_17, s76_18, s76_19, s76_20, s76_21, s76_22, s76_23, s76_24, s76_25, s76_26, s76_27, s76_28, s76_29, s76_30, s76_31, s76_32, s76_33, Option.toList_some, Option.toList_none, List.cons_append, List.nil_append, Nat.le_refl, true_and, and_true, true_or, or_true, false_or, or_false, true_implies, false_implies, implies_true, not_true_eq_false, not_false_eq_true, eq_self, Nat.reduceLT, Nat.reduceLeDiff, Nat.reduceEqDiff, Nat.reduceAdd, Nat.reduceSub, Int.reduceLT, Int.reduceLE, Int.reduceEq, Int.reduceNeg, Int.reduceNe, Int.reduceAdd, Int.reduceSub, Int.reduceMul, Int.reduceToNat, Int.toNat_zero, Int.toNat_one, Int.toNat_natCast, am_cats, am_cat, am_st1, am_st2, am_clr, up2_na, up2_nj, up2_same, List.getElem?_cons_zero, List.getElem?_cons_succ, List.set_cons_zero, List.set_cons_succ, ne_eq, tk_0 hh, tk_17 hh, rk_0_7 hh, k16 hh, k51 hh, k77 hh h6 t8, i10, g1, g2, em]
        refine ⟨rfl, fun _ _ => ?_⟩
        simp only [e176, s176_0, s176_1, s176_2, s176_3, s176_4, s176_5, s176_6, s176_7, s176_8, s176_9, s176_10, s176_11, s176_12, s176_13, s176_14, s176_15, s176_16, s176_17, s176_18, s176_19, s176_20, s176_21, s176_22, s176_23, s176_24, s176_25, s176_26, s176_27, s176_28, s176_29, s176_30, s176_31, s176_32, s176_33, s176_34, Option.toList_some, Option.toList_none, List.cons_append, List.nil_append, Nat.le_refl, true_and, and_true, true_or, or_true, false_or, or_false, true_implies, false_implies, implies_true, not_true_eq_false, not_false_eq_true, eq_self, Nat.reduceLT, Nat.reduceLeDiff, Nat.reduceEqDiff, Nat.reduceAdd, Nat.reduceSub, Int.reduceLT, Int.reduceLE, Int.reduceEq, Int.reduceNeg, Int.reduceNe, Int.reduceAdd, Int.reduceSub, Int.reduceMul, Int.reduceToNat, Int.toNat_zero, Int.toNat_one, Int.toNat_natCast, am_cats, am_cat, am_st1, am_st2, am_clr, up2_na, up2_nj, up2_same, List.getElem?_cons_zero, List.getElem?_cons_succ, List.set_cons_zero, List.set_cons_succ, ne_eq, tk_152 hh, k134 hh, k164 hh, k136, k177 hh hN n2, i10, g1', g2']
        rfl
      by_cases z1 : z = 1
      · subst z1
        refine ⟨rgt I h t n, ?_⟩
        simp only [e76, s76_0, s76_1, s76_2, s76_3, s76_4, s76_5, s76_6, s76_7, s76_8, s76_9, s76_10, s76_11, s76_12, s76_13, s76_14, s76_15, s76_16, s76_17, s76_18, s76_19, s76_20, s76_21, s76_22, s76_23, s76_24, s76_25, s76_26, s76_27, s76_28, s76_29, s76_30, s76_31, s76_32, s76_33, Option.toList_some, Option.toList_none, List.cons_append, List.nil_append, Nat.le_refl, true_and, and_true, true_or, or_true, false_or, or_false, true_implies, false_implies, implies_true, not_true_eq_false, not_false_eq_true, eq_self, Nat.reduceLT, Nat.reduceLeDiff, Nat.reduceEqDiff, Nat.reduceAdd, Nat.reduceSub, Int.reduceLT, Int.reduceLE, Int.reduceEq, Int.reduceNeg, Int.reduceNe, Int.reduceAdd, Int.reduceSub, Int.reduceMul, Int.reduceToNat, Int.toNat_zero, Int.toNat_one, Int.toNat_natCast, am_cats, am_cat, am_st1, am_st2, am_clr, up2_na, up2_nj, up2_same, List.getElem?_cons_zero, List.getElem?_cons_succ, List.set_cons_zero, List.set_cons_succ, ne_eq, tk_0 hh, tk_17 hh, tk_24 hh, tg_25 hh h6, rk_0_7 hh, rk_17_1 hh, gk_24 hh h6, k16 hh, k51 hh, i10, g1, g2, u1, u2, u3, eg]
        refine ⟨rfl, fun _ _ => ?_⟩
        simp only [e176, s176_0, s176_1, s176_2, s176_3, s176_4, s176_5, s176_6, s176_7, s176_8, s176_9, s176_10, s176_11, s176_12, s176_13, s176_14, s176_15, s176_16, s176_17, s176_18, s176_19, s176_20, s176_21, s176_22, s176_23, s176_24, s176_25, s176_26, s176_27, s176_28, s176_29, s176_30, s176_31, s176_32, s176_33, s176_34, Option.toList_some, Option.toList_none, List.cons_append, List.nil_append, Nat.le_refl, true_and, and_true, true_or, or_true, false_or, or_false, true_implies, false_implies, implies_true, not_true_eq_false, not_false_eq_true, eq_self, Nat.reduceLT, Nat.reduceLeDiff, Nat.reduceEqDiff, Nat.reduceAdd, Nat.reduceSub, Int.reduceLT, Int.reduceLE, Int.reduceEq, Int.reduceNeg, Int.reduceNe, Int.reduceAdd, Int.reduceSub, Int.reduceMul, Int.reduceToNat, Int.toNat_zero, Int.toNat_one, Int.toNat_natCast, am_cats, am_cat, am_st1, am_st2, am_clr, up2_na, up2_nj, up2_same, List.getElem?_cons_zero, List.getElem?_cons_succ, List.set_cons_zero, List.set_cons_succ, ne_eq, tk_152 hh, k134 hh, k164 hh, k136, k178 hh hI hN n2, i10, g1', g2']
        rfl
      by_cases z2 : z = 2
      · subst z2
        refine ⟨cdF (rgt I h t n) (mny I h t n), ?_⟩
        simp only [e76, s76_0, s76_1, s76_2, s76_3, s76_4, s76_5, s76_6, s76_7, s76_8, s76_9, s76_10, s76_11, s76_12, s76_13, s76_14, s76_15, s76_16, s76_17, s76_18, s76_19, s76_20, s76_21, s76_22, s76_23, s76_24, s76_25, s76_26, s76_27, s76_28, s76_29, s76_30, s76_31, s76_32, s76_33, Option.toList_some, Option.toList_none, List.cons_append, List.nil_append, Nat.le_refl, true_and, and_true, true_or, or_true, false_or, or_false, true_implies, false_implies, implies_true, not_true_eq_false, not_false_eq_true, eq_self, Nat.reduceLT, Nat.reduceLeDiff, Nat.reduceEqDiff, Nat.reduceAdd, Nat.reduceSub, Int.reduceLT, Int.reduceLE, Int.reduceEq, Int.reduceNeg, Int.reduceNe, Int.reduceAdd, Int.reduceSub, Int.reduceMul, Int.reduceToNat, Int.toNat_zero, Int.toNat_one, Int.toNat_natCast, am_cats, am_cat, am_st1, am_st2, am_clr, up2_na, up2_nj, up2_same, List.getElem?_cons_zero, List.getElem?_cons_succ, List.set_cons_zero, List.set_cons_succ, ne_eq, tk_0 hh, tk_17 hh, rk_0_7 hh, k16 hh, k51 hh, k78 hh h6 t8, i10, g1, g2, eg, em]
        refine ⟨rfl, fun _ _ => ?_⟩
        simp only [e176, s176_0, s176_1, s176_2, s176_3, s176_4, s176_5, s176_6, s176_7, s176_8, s176_9, s176_10, s176_11, s176_12, s176_13, s176_14, s176_15, s176_16, s176_17, s176_18, s176_19, s176_20, s176_21, s176_22, s176_23, s176_24, s176_25, s176_26, s176_27, s176_28, s176_29, s176_30, s176_31, s176_32, s176_33, s176_34, Option.toList_some, Option.toList_none, List.cons_append, List.nil_append, Nat.le_refl, true_and, and_true, true_or, or_true, false_or, or_false, true_implies, false_implies, implies_true, not_true_eq_false, not_false_eq_true, eq_self, Nat.reduceLT, Nat.reduceLeDiff, Nat.reduceEqDiff, Nat.reduceAdd, Nat.reduceSub, Int.reduceLT, Int.reduceLE, Int.reduceEq, Int.reduceNeg, Int.reduceNe, Int.reduceAdd, Int.reduceSub, Int.reduceMul, Int.reduceToNat, Int.toNat_zero, Int.toNat_one, Int.toNat_natCast, am_cats, am_cat, am_st1, am_st2, am_clr, up2_na, up2_nj, up2_same, List.getElem?_cons_zero, List.getElem?_cons_succ, List.set_cons_zero, List.set_cons_succ, ne_eq, tk_152 hh, k134 hh, k164 hh, k136, k179 hh hI hN n2, i10, g1', g2']
        rfl
      · have z3 : ¬ (0 ≤ z ∧ z ≤ 2) := by omega
        refine ⟨-1, ?_⟩
        simp only [e76, s76_0, s76_1, s76_2, s76_3, s76_4, s76_5, s76_6, s76_7, s76_8, s76_9, s76_10, s76_11, s76_12, s76_13, s76_14, s76_15, s76_16, s76_17, s76_18, s76_19, s76_20, s76_21, s76_22, s76_23, s76_24, s76_25, s76_26, s76_27, s76_28, s76_29, s76_30, s76_31, s76_32, s76_33, Option.toList_some, Option.toList_none, List.cons_append, List.nil_append, Nat.le_refl, true_and, and_true, true_or, or_true, false_or, or_false, true_implies, false_implies, implies_true, not_true_eq_false, not_false_eq_true, eq_self, Nat.reduceLT, Nat.reduceLeDiff, Nat.reduceEqDiff, Nat.reduceAdd, Nat.reduceSub, Int.reduceLT, Int.reduceLE, Int.reduceEq, Int.reduceNeg, Int.reduceNe, Int.reduceAdd, Int.reduceSub, Int.reduceMul, Int.reduceToNat, Int.toNat_zero, Int.toNat_one, Int.toNat_natCast, am_cats, am_cat, am_st1, am_st2, am_clr, up2_na, up2_nj, up2_same, List.getElem?_cons_zero, List.getElem?_cons_succ, List.set_cons_zero, List.set_cons_succ, ne_eq, tk_0 hh, k16 hh, k51 hh, i10, g1, g2, z0, z1, z2]
        refine ⟨rfl, fun _ _ => ?_⟩
        simp only [s176_0, s176_1, s176_2, s176_3, s176_4, s176_5, s176_6, s176_7, s176_8, s176_9, s176_10, s176_11, s176_12, s176_13, s176_14, e176, Option.toList_some, Option.toList_none, List.cons_append, List.nil_append, Nat.le_refl, true_and, and_true, true_or, or_true, false_or, or_false, true_implies, false_implies, implies_true, not_true_eq_false, not_false_eq_true, eq_self, Nat.reduceLT, Nat.reduceLeDiff, Nat.reduceEqDiff, Nat.reduceAdd, Nat.reduceSub, Int.reduceLT, Int.reduceLE, Int.reduceEq, Int.reduceNeg, Int.reduceNe, Int.reduceAdd, Int.reduceSub, Int.reduceMul, Int.reduceToNat, Int.toNat_zero, Int.toNat_one, Int.toNat_natCast, am_cats, am_cat, am_st1, am_st2, am_clr, up2_na, up2_nj, up2_same, List.getElem?_cons_zero, List.getElem?_cons_succ, List.set_cons_zero, List.set_cons_succ, ne_eq, tk_152 hh, k134 hh, k164 hh, k136, i10, g1', g2', z3]
        rfl
    · have g2' : ¬ (0 ≤ b ∧ b < I 152 3) := by omega
      refine ⟨-1, ?_⟩
      simp only [s76_0, s76_1, s76_2, s76_3, s76_4, s76_5, s76_6, s76_7, s76_8, s76_9, e76, Option.toList_some, Option.toList_none, List.cons_append, List.nil_append, Nat.le_refl, true_and, and_true, true_or, or_true, false_or, or_false, true_implies, false_implies, implies_true, not_true_eq_false, not_false_eq_true, eq_self, Nat.reduceLT, Nat.reduceLeDiff, Nat.reduceEqDiff, Nat.reduceAdd, Nat.reduceSub, Int.reduceLT, Int.reduceLE, Int.reduceEq, Int.reduceNeg, Int.reduceNe, Int.reduceAdd, Int.reduceSub, Int.reduceMul, Int.reduceToNat, Int.toNat_zero, Int.toNat_one, Int.toNat_natCast, am_cats, am_cat, am_st1, am_st2, am_clr, up2_na, up2_nj, up2_same, List.getElem?_cons_zero, List.getElem?_cons_succ, List.set_cons_zero, List.set_cons_succ, ne_eq, tk_0 hh, k16 hh, k51 hh, i10, g1, g2]
      refine ⟨rfl, fun _ _ => ?_⟩
      simp only [s176_0, s176_1, s176_2, s176_3, s176_4, s176_5, s176_6, s176_7, s176_8, s176_9, s176_10, s176_11, s176_12, s176_13, s176_14, e176, Option.toList_some, Option.toList_none, List.cons_append, List.nil_append, Nat.le_refl, true_and, and_true, true_or, or_true, false_or, or_false, true_implies, false_implies, implies_true, not_true_eq_false, not_false_eq_true, eq_self, Nat.reduceLT, Nat.reduceLeDiff, Nat.reduceEqDiff, Nat.reduceAdd, Nat.reduceSub, Int.reduceLT, Int.reduceLE, Int.reduceEq, Int.reduceNeg, Int.reduceNe, Int.reduceAdd, Int.reduceSub, Int.reduceMul, Int.reduceToNat, Int.toNat_zero, Int.toNat_one, Int.toNat_natCast, am_cats, am_cat, am_st1, am_st2, am_clr, up2_na, up2_nj, up2_same, List.getElem?_cons_zero, List.getElem?_cons_succ, List.set_cons_zero, List.set_cons_succ, ne_eq, tk_152 hh, k134 hh, k164 hh, k136, i10, g1', g2']
      rfl
  · have g1' : ¬ (0 ≤ a ∧ a < I 152 2) := by omega
    refine ⟨-1, ?_⟩
    simp only [s76_0, s76_1, s76_2, s76_3, s76_4, s76_5, s76_6, s76_7, s76_8, s76_9, e76, Option.toList_some, Option.toList_none, List.cons_append, List.nil_append, Nat.le_refl, true_and, and_true, true_or, or_true, false_or, or_false, true_implies, false_implies, implies_true, not_true_eq_false, not_false_eq_true, eq_self, Nat.reduceLT, Nat.reduceLeDiff, Nat.reduceEqDiff, Nat.reduceAdd, Nat.reduceSub, Int.reduceLT, Int.reduceLE, Int.reduceEq, Int.reduceNeg, Int.reduceNe, Int.reduceAdd, Int.reduceSub, Int.reduceMul, Int.reduceToNat, Int.toNat_zero, Int.toNat_one, Int.toNat_natCast, am_cats, am_cat, am_st1, am_st2, am_clr, up2_na, up2_nj, up2_same, List.getElem?_cons_zero, List.getElem?_cons_succ, List.set_cons_zero, List.set_cons_succ, ne_eq, tk_0 hh, k16 hh, k51 hh, i10, g1]
    refine ⟨rfl, fun _ _ => ?_⟩
    simp only [s176_0, s176_1, s176_2, s176_3, s176_4, s176_5, s176_6, s176_7, s176_8, s176_9, s176_10, s176_11, s176_12, s176_13, s176_14, e176, Option.toList_some, Option.toList_none, List.cons_append, List.nil_append, Nat.le_refl, true_and, and_true, true_or, or_true, false_or, or_false, true_implies, false_implies, implies_true, not_true_eq_false, not_false_eq_true, eq_self, Nat.reduceLT, Nat.reduceLeDiff, Nat.reduceEqDiff, Nat.reduceAdd, Nat.reduceSub, Int.reduceLT, Int.reduceLE, Int.reduceEq, Int.reduceNeg, Int.reduceNe, Int.reduceAdd, Int.reduceSub, Int.reduceMul, Int.reduceToNat, Int.toNat_zero, Int.toNat_one, Int.toNat_natCast, am_cats, am_cat, am_st1, am_st2, am_clr, up2_na, up2_nj, up2_same, List.getElem?_cons_zero, List.getElem?_cons_succ, List.set_cons_zero, List.set_cons_succ, ne_eq, tk_152 hh, k134 hh, k164 hh, k136, i10, g1']
    rfl
end
