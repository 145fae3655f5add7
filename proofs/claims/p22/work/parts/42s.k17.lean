/-! the law by hand, 17: back -/
def oF (y t k Y : Int) : Int := if 5 < t ∧ ¬ k = (if y < Y then 1 else 0) then 1 else 0
theorem oF_01 (y t k Y : Int) : oF y t k Y = 0 ∨ oF y t k Y = 1 := by
  unfold oF
  by_cases h : 5 < t ∧ ¬ k = (if y < Y then 1 else 0)
  · rw [if_pos h]; exact Or.inr rfl
  · rw [if_neg h]; exact Or.inl rfl
def owX (I : Nat → Nat → Int) (Y : Int) (n : Nat) : Int := swf (fun i => oF (I 103 i) (I 104 i) (I 105 i) Y) n
def owM (I : Nat → Nat → Int) (Y : Int) (n : Nat) : Int := swf (fun i => oF (I 179 i) (I 180 i) (I 181 i) Y) n
/-- first, last, least -/
def bkP (P : Nat → Int) : Nat → Int × Int × Int
  | 0 => (0, 0, P 0)
  | y + 1 => if P (y + 1) < (bkP P y).2.2 then (((y + 1 : Nat) : Int), ((y + 1 : Nat) : Int), P (y + 1)) else if P (y + 1) = (bkP P y).2.2 then ((bkP P y).1, ((y + 1 : Nat) : Int), (bkP P y).2.2) else bkP P y
theorem bkP_eq {P P' : Nat → Int} (h : ∀ y, P y = P' y) : P = P' := funext h
def bkA (P : Nat → Int) (w : Int) : Int := if w = 0 then (bkP P 100).1 else if w = 1 then (bkP P 100).2.1 else (bkP P 100).2.2
section
variable {d s : Nat} {T : Nat → Nat × Nat} {I J : Nat → Nat → Int} {R : Nat → Nat → Option Nat} {Q : Option AV → AH → Prop}
theorem p112 (hh : hp T R) {Y : Int} {N : Nat} (hN : I 102 3 = N) (hN2 : N ≤ 40) (hQ : Q (some (.inl (owX I Y N))) (185, s, T, I, J, R)) : ∀ (r i : Nat), i + r = N → ∀ l4, wp codeT mX d 112 4 [some (.inr (.inr (some 102))), some (.inl Y), some (.inl (owX I Y i)), some (.inl (i : Int)), l4] [] (185, s, T, I, J, R) Q := by
  intro r
  induction r with
  | zero =>
    intro i hi l4
    have hi : i = N := by omega
    subst hi
    refine s112_4.mpr ?_
    simp only [s112_5, s112_6, s112_7, s112_33, s112_34, Option.toList_some, Option.toList_none, List.cons_append, List.nil_append, Nat.le_refl, true_and, and_true, true_or, or_true, false_or, or_false, true_implies, false_implies, implies_true, not_true_eq_false, not_false_eq_true, eq_self, Nat.reduceLT, Nat.reduceLeDiff, Nat.reduceEqDiff, Nat.reduceAdd, Nat.reduceSub, Int.reduceLT, Int.reduceLE, Int.reduceEq, Int.reduceNeg, Int.reduceNe, Int.reduceAdd, Int.reduceSub, Int.reduceMul, Int.reduceToNat, Int.toNat_zero, Int.toNat_one, Int.toNat_natCast, am_cats, am_cat, am_st1, am_st2, am_clr, up2_na, up2_nj, up2_same, List.getElem?_cons_zero, List.getElem?_cons_succ, List.set_cons_zero, List.set_cons_succ, ne_eq, tk_102 hh, hN, Int.lt_irrefl]
    exact hQ
  | succ r ih =>
    intro i hi l4
    have nx := ih (i + 1) (by omega)
    have u1 : (i : Int) < (N : Int) := by omega
    have u2 : 0 ≤ (i : Int) ∧ (i : Int) < ((40 : Nat) : Int) := by omega
    have o6 : (i : Int) + 1 = ((i + 1 : Nat) : Int) := by omega
    have o7 : i + 1 ≤ 2000000000 := by omega
    have bb := swf_bd (f := fun i => oF (I 103 i) (I 104 i) (I 105 i) Y) (fun j => oF_01 _ _ _ _) i
    have e : owX I Y (i + 1) = owX I Y i + oF (I 103 i) (I 104 i) (I 105 i) Y := rfl
    have bb : 0 ≤ owX I Y i ∧ owX I Y i ≤ i := bb
    rw [e] at nx
    clear hQ
    generalize owX I Y i = a at *
    have e9 : w32 (a + 1) = a + 1 := w32_eq (by omega) (by omega)
    have v4 := w32_c o6 o7
    refine s112_4.mpr ?_
    by_cases ht : 5 < I 104 i
    · by_cases hy : I 103 i < Y
      · by_cases hk : I 105 i = 1
        · have z : oF (I 103 i) (I 104 i) (I 105 i) Y = 0 := by unfold oF; rw [if_pos hy, if_neg (fun q => q.2 hk)]
          rw [z, Int.add_zero] at nx
          simp only [s112_5, s112_6, s112_7, s112_8, s112_9, s112_10, s112_11, s112_12, s112_13, s112_14, s112_15, s112_16, s112_17, s112_18, s112_19, s112_20, s112_21, s112_22, s112_23, s112_24, s112_25, s112_26, s112_27, s112_28, s112_29, s112_30, s112_31, s112_32, Option.toList_some, Option.toList_none, List.cons_append, List.nil_append, Nat.le_refl, true_and, and_true, true_or, or_true, false_or, or_false, true_implies, false_implies, implies_true, not_true_eq_false, not_false_eq_true, eq_self, Nat.reduceLT, Nat.reduceLeDiff, Nat.reduceEqDiff, Nat.reduceAdd, Nat.reduceSub, Int.reduceLT, Int.reduceLE, Int.reduceEq, Int.reduceNeg, Int.reduceNe, Int.reduceAdd, Int.reduceSub, Int.reduceMul, Int.reduceToNat, Int.toNat_zero, Int.toNat_one, Int.toNat_natCast, am_cats, am_cat, am_st1, am_st2, am_clr, up2_na, up2_nj, up2_same, List.getElem?_cons_zero, List.getElem?_cons_succ, List.set_cons_zero, List.set_cons_succ, ne_eq, tk_102 hh, tk_103 hh, tk_104 hh, tk_105 hh, rk_102_0 hh, rk_102_1 hh, rk_102_2 hh, hN, u1, u2, v4, ht, hy, hk]
          exact nx _
        · have z : oF (I 103 i) (I 104 i) (I 105 i) Y = 1 := by unfold oF; rw [if_pos hy, if_pos ⟨ht, hk⟩]
          rw [z] at nx
          simp only [s112_5, s112_6, s112_7, s112_8, s112_9, s112_10, s112_11, s112_12, s112_13, s112_14, s112_15, s112_16, s112_17, s112_18, s112_19, s112_20, s112_21, s112_22, s112_23, s112_24, s112_25, s112_26, s112_27, s112_28, s112_29, s112_30, s112_31, s112_32, Option.toList_some, Option.toList_none, List.cons_append, List.nil_append, Nat.le_refl, true_and, and_true, true_or, or_true, false_or, or_false, true_implies, false_implies, implies_true, not_true_eq_false, not_false_eq_true, eq_self, Nat.reduceLT, Nat.reduceLeDiff, Nat.reduceEqDiff, Nat.reduceAdd, Nat.reduceSub, Int.reduceLT, Int.reduceLE, Int.reduceEq, Int.reduceNeg, Int.reduceNe, Int.reduceAdd, Int.reduceSub, Int.reduceMul, Int.reduceToNat, Int.toNat_zero, Int.toNat_one, Int.toNat_natCast, am_cats, am_cat, am_st1, am_st2, am_clr, up2_na, up2_nj, up2_same, List.getElem?_cons_zero, List.getElem?_cons_succ, List.set_cons_zero, List.set_cons_succ, ne_eq, tk_102 hh, tk_103 hh, tk_104 hh, tk_105 hh, rk_102_0 hh, rk_102_1 hh, rk_102_2 hh, hN, u1, u2, v4, ht, hy, hk, e9]
          exact nx _
      · by_cases hk : I 105 i = 0
        · have z : oF (I 103 i) (I 104 i) (I 105 i) Y = 0 := by unfold oF; rw [if_neg hy, if_neg (fun q => q.2 hk)]
          rw [z, Int.add_zero] at nx
          simp only [s112_5, s112_6, s112_7, s112_8, s112_9, s112_10, s112_11, s112_12, s112_13, s112_14, s112_15, s112_16, s112_17, s112_18, s112_19, s112_20, s112_21, s112_22, s112_23, s112_24, s112_25, s112_26, s112_27, s112_28, s112_29, s112_30, s112_31, s112_32, Option.toList_some, Option.toList_none, List.cons_append, List.nil_append, Nat.le_refl, true_and, and_true, true_or, or_true, false_or, or_false, true_implies, false_implies, implies_true, not_true_eq_false, not_false_eq_true, eq_self, Nat.reduceLT, Nat.reduceLeDiff, Nat.reduceEqDiff, Nat.reduceAdd, Nat.reduceSub, Int.reduceLT, Int.reduceLE, Int.reduceEq, Int.reduceNeg, Int.reduceNe, Int.reduceAdd, Int.reduceSub, Int.reduceMul, Int.reduceToNat, Int.toNat_zero, Int.toNat_one, Int.toNat_natCast, am_cats, am_cat, am_st1, am_st2, am_clr, up2_na, up2_nj, up2_same, List.getElem?_cons_zero, List.getElem?_cons_succ, List.set_cons_zero, List.set_cons_succ, ne_eq, tk_102 hh, tk_103 hh, tk_104 hh, tk_105 hh, rk_102_0 hh, rk_102_1 hh, rk_102_2 hh, hN, u1, u2, v4, ht, hy, hk]
          exact nx _
        · have z : oF (I 103 i) (I 104 i) (I 105 i) Y = 1 := by unfold oF; rw [if_neg hy, if_pos ⟨ht, hk⟩]
          rw [z] at nx
          simp only [s112_5, s112_6, s112_7, s112_8, s112_9, s112_10, s112_11, s112_12, s112_13, s112_14, s112_15, s112_16, s112_17, s112_18, s112_19, s112_20, s112_21, s112_22, s112_23, s112_24, s112_25, s112_26, s112_27, s112_28, s112_29, s112_30, s112_31, s112_32, Option.toList_some, Option.toList_none, List.cons_append, List.nil_append, Nat.le_refl, true_and, and_true, true_or, or_true, false_or, or_false, true_implies, false_implies, implies_true, not_true_eq_false, not_false_eq_true, eq_self, Nat.reduceLT, Nat.reduceLeDiff, Nat.reduceEqDiff, Nat.reduceAdd, Nat.reduceSub, Int.reduceLT, Int.reduceLE, Int.reduceEq, Int.reduceNeg, Int.reduceNe, Int.reduceAdd, Int.reduceSub, Int.reduceMul, Int.reduceToNat, Int.toNat_zero, Int.toNat_one, Int.toNat_natCast, am_cats, am_cat, am_st1, am_st2, am_clr, up2_na, up2_nj, up2_same, List.getElem?_cons_zero, List.getElem?_cons_succ, List.set_cons_zero, List.set_cons_succ, ne_eq, tk_102 hh, tk_103 hh, tk_104 hh, tk_105 hh, rk_102_0 hh, rk_102_1 hh, rk_102_2 hh, hN, u1, u2, v4, ht, hy, hk, e9]
          exact nx _
    · have z : oF (I 103 i) (I 104 i) (I 105 i) Y = 0 := by unfold oF; rw [if_neg (fun q => ht q.1)]
      rw [z, Int.add_zero] at nx
      by_cases hy : I 103 i < Y
      · simp only [s112_5, s112_6, s112_7, s112_8, s112_9, s112_10, s112_11, s112_12, s112_13, s112_14, s112_15, s112_16, s112_17, s112_18, s112_19, s112_20, s112_21, s112_22, s112_23, s112_24, s112_25, s112_26, s112_27, s112_28, s112_29, s112_30, s112_31, s112_32, Option.toList_some, Option.toList_none, List.cons_append, List.nil_append, Nat.le_refl, true_and, and_true, true_or, or_true, false_or, or_false, true_implies, false_implies, implies_true, not_true_eq_false, not_false_eq_true, eq_self, Nat.reduceLT, Nat.reduceLeDiff, Nat.reduceEqDiff, Nat.reduceAdd, Nat.reduceSub, Int.reduceLT, Int.reduceLE, Int.reduceEq, Int.reduceNeg, Int.reduceNe, Int.reduceAdd, Int.reduceSub, Int.reduceMul, Int.reduceToNat, Int.toNat_zero, Int.toNat_one, Int.toNat_natCast, am_cats, am_cat, am_st1, am_st2, am_clr, up2_na, up2_nj, up2_same, List.getElem?_cons_zero, List.getElem?_cons_succ, List.set_cons_zero, List.set_cons_succ, ne_eq, tk_102 hh, tk_103 hh, tk_104 hh, rk_102_0 hh, rk_102_1 hh, hN, u1, u2, v4, ht, hy]
        exact nx _
      · simp only [s112_5, s112_6, s112_7, s112_8, s112_9, s112_10, s112_11, s112_12, s112_13, s112_14, s112_15, s112_16, s112_17, s112_18, s112_19, s112_20, s112_21, s112_22, s112_23, s112_24, s112_25, s112_26, s112_27, s112_28, s112_29, s112_30, s112_31, s112_32, Option.toList_some, Option.toList_none, List.cons_append, List.nil_append, Nat.le_refl, true_and, and_true, true_or, or_true, false_or, or_false, true_implies, false_implies, implies_true, not_true_eq_false, not_false_eq_true, eq_self, Nat.reduceLT, Nat.reduceLeDiff, Nat.reduceEqDiff, Nat.reduceAdd, Nat.reduceSub, Int.reduceLT, Int.reduceLE, Int.reduceEq, Int.reduceNeg, Int.reduceNe, Int.reduceAdd, Int.reduceSub, Int.reduceMul, Int.reduceToNat, Int.toNat_zero, Int.toNat_one, Int.toNat_natCast, am_cats, am_cat, am_st1, am_st2, am_clr, up2_na, up2_nj, up2_same, List.getElem?_cons_zero, List.getElem?_cons_succ, List.set_cons_zero, List.set_cons_succ, ne_eq, tk_102 hh, tk_103 hh, tk_104 hh, rk_102_0 hh, rk_102_1 hh, hN, u1, u2, v4, ht, hy]
        exact nx _
theorem k112 (hh : hp T R) {Y : Int} {N : Nat} (hN : I 102 3 = N) (hN2 : N ≤ 40) : wpc codeT mX d 112 [.inr (.inr (some 102)), .inl Y] (185, s, T, I, J, R) Q ↔ Q (some (.inl (owX I Y N))) (185, s, T, I, J, R) := wpc_det (by
  have := p112 (d := d) (s := s) (J := J) (I := I) (Y := Y) (Q := fun v g => g = (185, s, T, I, J, R) ∧ v = some (.inl (owX I Y N))) hh hN hN2 ⟨rfl, rfl⟩ N 0 (by omega) none
  simp only [e112, s112_0, s112_1, s112_2, s112_3, Option.toList_some, Option.toList_none, List.cons_append, List.nil_append, Nat.le_refl, true_and, and_true, true_or, or_true, false_or, or_false, true_implies, false_implies, implies_true, not_true_eq_false, not_false_eq_true, eq_self, Nat.reduceLT, Nat.reduceLeDiff, Nat.reduceEqDiff, Nat.reduceAdd, Nat.reduceSub, Int.reduceLT, Int.reduceLE, Int.reduceEq, Int.reduceNeg, Int.reduceNe, Int.reduceAdd, Int.reduceSub, Int.reduceMul, Int.reduceToNat, Int.toNat_zero, Int.toNat_one, Int.toNat_natCast, am_cats, am_cat, am_st1, am_st2, am_clr, up2_na, up2_nj, up2_same, List.getElem?_cons_zero, List.getElem?_cons_succ, List.set_cons_zero, List.set_cons_succ, ne_eq]
  exact this)
theorem p199 (hh : hp T R) {Y : Int} {N : Nat} (hN : I 152 46 = N) (hN2 : N ≤ 40) (hQ : Q (some (.inl (owM I Y N))) (185, s, T, I, J, R)) : ∀ (r i : Nat), i + r = N → wp codeT mX d 199 4 [some (.inr (.inr (some 152))), some (.inl Y), some (.inl (owM I Y i)), some (.inl (i : Int))] [] (185, s, T, I, J, R) Q := by
  intro r
  induction r with
  | zero =>
    intro i hi
    have hi : i = N := by omega
    subst hi
    refine s199_4.mpr ?_
    simp only [s199_5, s199_6, s199_7, s199_36, s199_37, Option.toList_some, Option.toList_none, List.cons_append, List.nil_append, Nat.le_refl, true_and, and_true, true_or, or_true, false_or, or_false, true_implies, false_implies, implies_true, not_true_eq_false, not_false_eq_true, eq_self, Nat.reduceLT, Nat.reduceLeDiff, Nat.reduceEqDiff, Nat.reduceAdd, Nat.reduceSub, Int.reduceLT, Int.reduceLE, Int.reduceEq, Int.reduceNeg, Int.reduceNe, Int.reduceAdd, Int.reduceSub, Int.reduceMul, Int.reduceToNat, Int.toNat_zero, Int.toNat_one, Int.toNat_natCast, am_cats, am_cat, am_st1, am_st2, am_clr, up2_na, up2_nj, up2_same, List.getElem?_cons_zero, List.getElem?_cons_succ, List.set_cons_zero, List.set_cons_succ, ne_eq, tk_152 hh, hN, Int.lt_irrefl]
    exact hQ
  | succ r ih =>
    intro i hi
    have nx := ih (i + 1) (by omega)
    have u1 : (i : Int) < (N : Int) := by omega
    have u2 : 0 ≤ (i : Int) ∧ (i : Int) < ((40 : Nat) : Int) := by omega
    have o6 : (i : Int) + 1 = ((i + 1 : Nat) : Int) := by omega
    have o7 : i + 1 ≤ 2000000000 := by omega
    have bb := swf_bd (f := fun i => oF (I 179 i) (I 180 i) (I 181 i) Y) (fun j => oF_01 _ _ _ _) i
    have e : owM I Y (i + 1) = owM I Y i + oF (I 179 i) (I 180 i) (I 181 i) Y := rfl
    have bb : 0 ≤ owM I Y i ∧ owM I Y i ≤ i := bb
    rw [e] at nx
    clear hQ
    generalize owM I Y i = a at *
    have e9 : w32 (a + 1) = a + 1 := w32_eq (by omega) (by omega)
    have e8 : w32 (a + 0) = a := (w32_eq (by omega) (by omega)).trans (by omega)
    have v4 := w32_c o6 o7
    refine s199_4.mpr ?_
    by_cases ht : 5 < I 180 i
    · by_cases hy : I 179 i < Y
      · by_cases hk : I 181 i = 1
        · have z : oF (I 179 i) (I 180 i) (I 181 i) Y = 0 := by unfold oF; rw [if_pos hy, if_neg (fun q => q.2 hk)]
          rw [z, Int.add_zero] at nx
          simp only [s199_5, s199_6, s199_7, s199_8, s199_9, s199_10, s199_11, s199_12, s199_13, s199_14, s199_15, s199_16, s199_17, s199_18, s199_19, s199_20, s199_21, s199_22, s199_23, s199_24, s199_25, s199_26, s199_27, s199_28, s199_29, s199_30, s199_31, s199_32, s199_33, s199_34, s199_35, Option.toList_some, Option.toList_none, List.cons_append, List.nil_append, Nat.le_refl, true_and, and_true, true_or, or_true, false_or, or_false, true_implies, false_implies, implies_true, not_true_eq_false, not_false_eq_true, eq_self, Nat.reduceLT, Nat.reduceLeDiff, Nat.reduceEqDiff, Nat.reduceAdd, Nat.reduceSub, Int.reduceLT, Int.reduceLE, Int.reduceEq, Int.reduceNeg, Int.reduceNe, Int.reduceAdd, Int.reduceSub, Int.reduceMul, Int.reduceToNat, Int.toNat_zero, Int.toNat_one, Int.toNat_natCast, am_cats, am_cat, am_st1, am_st2, am_clr, up2_na, up2_nj, up2_same, List.getElem?_cons_zero, List.getElem?_cons_succ, List.set_cons_zero, List.set_cons_succ, ne_eq, tk_152 hh, tk_179 hh, tk_180 hh, tk_181 hh, rk_152_47 hh, rk_152_48 hh, rk_152_49 hh, hN, u1, u2, v4, ht, hy, hk, e8]
          exact nx
        · have z : oF (I 179 i) (I 180 i) (I 181 i) Y = 1 := by unfold oF; rw [if_pos hy, if_pos ⟨ht, hk⟩]
          rw [z] at nx
          simp only [s199_5, s199_6, s199_7, s199_8, s199_9, s199_10, s199_11, s199_12, s199_13, s199_14, s199_15, s199_16, s199_17, s199_18, s199_19, s199_20, s199_21, s199_22, s199_23, s199_24, s199_25, s199_26, s199_27, s199_28, s199_29, s199_30, s199_31, s199_32, s199_33, s199_34, s199_35, Option.toList_some, Option.toList_none, List.cons_append, List.nil_append, Nat.le_refl, true_and, and_true, true_or, or_true, false_or, or_false, true_implies, false_implies, implies_true, not_true_eq_false, not_false_eq_true, eq_self, Nat.reduceLT, Nat.reduceLeDiff, Nat.reduceEqDiff, Nat.reduceAdd, Nat.reduceSub, Int.reduceLT, Int.reduceLE, Int.reduceEq, Int.reduceNeg, Int.reduceNe, Int.reduceAdd, Int.reduceSub, Int.reduceMul, Int.reduceToNat, Int.toNat_zero, Int.toNat_one, Int.toNat_natCast, am_cats, am_cat, am_st1, am_st2, am_clr, up2_na, up2_nj, up2_same, List.getElem?_cons_zero, List.getElem?_cons_succ, List.set_cons_zero, List.set_cons_succ, ne_eq, tk_152 hh, tk_179 hh, tk_180 hh, tk_181 hh, rk_152_47 hh, rk_152_48 hh, rk_152_49 hh, hN, u1, u2, v4, ht, hy, hk, e9]
          exact nx
      · by_cases hk : I 181 i = 0
        · have z : oF (I 179 i) (I 180 i) (I 181 i) Y = 0 := by unfold oF; rw [if_neg hy, if_neg (fun q => q.2 hk)]
          rw [z, Int.add_zero] at nx
          simp only [s199_5, s199_6, s199_7, s199_8, s199_9, s199_10, s199_11, s199_12, s199_13, s199_14, s199_15, s199_16, s199_17, s199_18, s199_19, s199_20, s199_21, s199_22, s199_23, s199_24, s199_25, s199_26, s199_27, s199_28, s199_29, s199_30, s199_31, s199_32, s199_33, s199_34, s199_35, Option.toList_some, Option.toList_none, List.cons_append, List.nil_append, Nat.le_refl, true_and, and_true, true_or, or_true, false_or, or_false, true_implies, false_implies, implies_true, not_true_eq_false, not_false_eq_true, eq_self, Nat.reduceLT, Nat.reduceLeDiff, Nat.reduceEqDiff, Nat.reduceAdd, Nat.reduceSub, Int.reduceLT, Int.reduceLE, Int.reduceEq, Int.reduceNeg, Int.reduceNe, Int.reduceAdd, Int.reduceSub, Int.reduceMul, Int.reduceToNat, Int.toNat_zero, Int.toNat_one, Int.toNat_natCast, am_cats, am_cat, am_st1, am_st2, am_clr, up2_na, up2_nj, up2_same, List.getElem?_cons_zero, List.getElem?_cons_succ, List.set_cons_zero, List.set_cons_succ, ne_eq, tk_152 hh, tk_179 hh, tk_180 hh, tk_181 hh, rk_152_47 hh, rk_152_48 hh, rk_152_49 hh, hN, u1, u2, v4, ht, hy, hk, e8]
          exact nx
        · have z : oF (I 179 i) (I 180 i) (I 181 i) Y = 1 := by unfold oF; rw [if_neg hy, if_pos ⟨ht, hk⟩]
          rw [z] at nx
          simp only [s199_5, s199_6, s199_7, s199_8, s199_9, s199_10, s199_11, s199_12, s199_13, s199_14, s199_15, s199_16, s199_17, s199_18, s199_19, s199_20, s199_21, s199_22, s199_23, s199_24, s199_25, s199_26, s199_27, s199_28, s199_29, s199_30, s199_31, s199_32, s199_33, s199_34, s199_35, Option.toList_some, Option.toList_none, List.cons_append, List.nil_append, Nat.le_refl, true_and, and_true, true_or, or_true, false_or, or_false, true_implies, false_implies, implies_true, not_true_eq_false, not_false_eq_true, eq_self, Nat.reduceLT, Nat.reduceLeDiff, Nat.reduceEqDiff, Nat.reduceAdd, Nat.reduceSub, Int.reduceLT, Int.reduceLE, Int.reduceEq, Int.reduceNeg, Int.reduceNe, Int.reduceAdd, Int.reduceSub, Int.reduceMul, Int.reduceToNat, Int.toNat_zero, Int.toNat_one, Int.toNat_natCast, am_cats, am_cat, am_st1, am_st2, am_clr, up2_na, up2_nj, up2_same, List.getElem?_cons_zero, List.getElem?_cons_succ, List.set_cons_zero, List.set_cons_succ, ne_eq, tk_152 hh, tk_179 hh, tk_180 hh, tk_181 hh, rk_152_47 hh, rk_152_48 hh, rk_152_49 hh, hN, u1, u2, v4, ht, hy, hk, e9]
          exact nx
    · have z : oF (I 179 i) (I 180 i) (I 181 i) Y = 0 := by unfold oF; rw [if_neg (fun q => ht q.1)]
      rw [z, Int.add_zero] at nx
      simp only [s199_5, s199_6, s199_7, s199_8, s199_9, s199_10, s199_11, s199_12, s199_13, s199_14, s199_15, s199_16, s199_17, s199_18, s199_19, s199_20, s199_21, s199_22, s199_23, s199_24, s199_25, s199_26, s199_27, s199_28, s199_29, s199_30, s199_31, s199_32, s199_33, s199_34, s199_35, Option.toList_some, Option.toList_none, List.cons_append, List.nil_append, Nat.le_refl, true_and, and_true, true_or, or_true, false_or, or_false, true_implies, false_implies, implies_true, not_true_eq_false, not_false_eq_true, eq_self, Nat.reduceLT, Nat.reduceLeDiff, Nat.reduceEqDiff, Nat.reduceAdd, Nat.reduceSub, Int.reduceLT, Int.reduceLE, Int.reduceEq, Int.reduceNeg, Int.reduceNe, Int.reduceAdd, Int.reduceSub, Int.reduceMul, Int.reduceToNat, Int.toNat_zero, Int.toNat_one, Int.toNat_natCast, am_cats, am_cat, am_st1, am_st2, am_clr, up2_na, up2_nj, up2_same, List.getElem?_cons_zero, List.getElem?_cons_succ, List.set_cons_zero, List.set_cons_succ, ne_eq, tk_152 hh, tk_180 hh, rk_152_48 hh, hN, u1, u2, v4, ht, e8]
      exact nx
theorem k199 (hh : hp T R) {Y : Int} {N : Nat} (hN : I 152 46 = N) (hN2 : N ≤ 40) : wpc codeT mX d 199 [.inr (.inr (some 152)), .inl Y] (185, s, T, I, J, R) Q ↔ Q (some (.inl (owM I Y N))) (185, s, T, I, J, R) := wpc_det (by
  have := p199 (d := d) (s := s) (J := J) (I := I) (Y := Y) (Q := fun v g => g = (185, s, T, I, J, R) ∧ v = some (.inl (owM I Y N))) hh hN hN2 ⟨rfl, rfl⟩ N 0 (by omega)
  simp only [e199, s199_0, s199_1, s199_2, s199_3, Option.toList_some, Option.toList_none, List.cons_append, List.nil_append, Nat.le_refl, true_and, and_true, true_or, or_true, false_or, or_false, true_implies, false_implies, implies_true, not_true_eq_false, not_false_eq_true, eq_self, Nat.reduceLT, Nat.reduceLeDiff, Nat.reduceEqDiff, Nat.reduceAdd, Nat.reduceSub, Int.reduceLT, Int.reduceLE, Int.reduceEq, Int.reduceNeg, Int.reduceNe, Int.reduceAdd, Int.reduceSub, Int.reduceMul, Int.reduceToNat, Int.toNat_zero, Int.toNat_one, Int.toNat_natCast, am_cats, am_cat, am_st1, am_st2, am_clr, up2_na, up2_nj, up2_same, List.getElem?_cons_zero, List.getElem?_cons_succ, List.set_cons_zero, List.set_cons_succ, ne_eq]
  exact this)
theorem p111 (hh : hp T R) {w : Int} {N : Nat} (hw : 0 ≤ w ∧ w ≤ 2) (hN : I 102 3 = N) (hN2 : N ≤ 40) (hQ : Q (some (.inl (bkA (fun y => owX I (y : Int) N) w))) (185, s, T, I, J, R)) : ∀ (r y : Nat), y + r = 100 → ∀ l6, wp codeT mX (d + 1) 111 10 [some (.inr (.inr (some 102))), some (.inl w), some (.inl (bkP (fun y => owX I (y : Int) N) y).1), some (.inl (bkP (fun y => owX I (y : Int) N) y).2.1), some (.inl (bkP (fun y => owX I (y : Int) N) y).2.2), some (.inl ((y + 1 : Nat) : Int)), l6] [] (185, s, T, I, J, R) Q := by
  intro r
  induction r with
  | zero =>
    intro y hy l6
    have hy : y = 100 := by omega
    subst hy
    unfold bkA at hQ
    have u : (100 : Int) < ((100 + 1 : Nat) : Int) := by decide
    refine s111_10.mpr ?_
    simp only [s111_11, s111_12, s111_31, s111_32, s111_33, s111_34, s111_35, s111_36, s111_37, s111_38, s111_39, s111_40, s111_41, Option.toList_some, Option.toList_none, List.cons_append, List.nil_append, Nat.le_refl, true_and, and_true, true_or, or_true, false_or, or_false, true_implies, false_implies, implies_true, not_true_eq_false, not_false_eq_true, eq_self, Nat.reduceLT, Nat.reduceLeDiff, Nat.reduceEqDiff, Nat.reduceAdd, Nat.reduceSub, Int.reduceLT, Int.reduceLE, Int.reduceEq, Int.reduceNeg, Int.reduceNe, Int.reduceAdd, Int.reduceSub, Int.reduceMul, Int.reduceToNat, Int.toNat_zero, Int.toNat_one, Int.toNat_natCast, am_cats, am_cat, am_st1, am_st2, am_clr, up2_na, up2_nj, up2_same, List.getElem?_cons_zero, List.getElem?_cons_succ, List.set_cons_zero, List.set_cons_succ, ne_eq, u]
    by_cases h2 : w = 2
    · subst h2
      exact ⟨fun _ => hQ, fun z => absurd rfl z⟩
    · refine ⟨fun z => absurd z h2, fun _ => ⟨fun h0 => ?_, fun h0 => ?_⟩⟩
      · rw [if_pos h0] at hQ; exact hQ
      · rw [if_neg h0, if_pos (by omega)] at hQ; exact hQ
  | succ r ih =>
    intro y hy l6
    have nx := ih (y + 1) (by omega)
    have u1 : ¬ (100 : Int) < ((y + 1 : Nat) : Int) := by omega
    have o6 : ((y + 1 : Nat) : Int) + 1 = ((y + 1 + 1 : Nat) : Int) := by omega
    have o7 : y + 1 + 1 ≤ 2000000000 := by omega
    have e : bkP (fun y => owX I (y : Int) N) (y + 1) = if owX I ((y + 1 : Nat) : Int) N < (bkP (fun y => owX I (y : Int) N) y).2.2 then (((y + 1 : Nat) : Int), ((y + 1 : Nat) : Int), owX I ((y + 1 : Nat) : Int) N) else if owX I ((y + 1 : Nat) : Int) N = (bkP (fun y => owX I (y : Int) N) y).2.2 then ((bkP (fun y => owX I (y : Int) N) y).1, ((y + 1 : Nat) : Int), (bkP (fun y => owX I (y : Int) N) y).2.2) else bkP (fun y => owX I (y : Int) N) y := rfl
    rw [e] at nx
    clear hQ
    generalize bkP (fun y => owX I (y : Int) N) y = B at *
    obtain ⟨b1, b2, b3⟩ := B
    have v4 := w32_c o6 o7
    refine s111_10.mpr ?_
    by_cases h1 : owX I ((y + 1 : Nat) : Int) N < b3
    · rw [if_pos h1] at nx
      simp only [s111_11, s111_12, s111_13, s111_14, s111_15, s111_16, s111_17, s111_18, s111_19, s111_20, s111_21, s111_22, s111_23, s111_24, s111_25, s111_26, s111_27, s111_28, s111_29, s111_30, Option.toList_some, Option.toList_none, List.cons_append, List.nil_append, Nat.le_refl, true_and, and_true, true_or, or_true, false_or, or_false, true_implies, false_implies, implies_true, not_true_eq_false, not_false_eq_true, eq_self, Nat.reduceLT, Nat.reduceLeDiff, Nat.reduceEqDiff, Nat.reduceAdd, Nat.reduceSub, Int.reduceLT, Int.reduceLE, Int.reduceEq, Int.reduceNeg, Int.reduceNe, Int.reduceAdd, Int.reduceSub, Int.reduceMul, Int.reduceToNat, Int.toNat_zero, Int.toNat_one, Int.toNat_natCast, am_cats, am_cat, am_st1, am_st2, am_clr, up2_na, up2_nj, up2_same, List.getElem?_cons_zero, List.getElem?_cons_succ, List.set_cons_zero, List.set_cons_succ, ne_eq, tk_102 hh, k112 hh hN hN2, u1, v4, h1, Int.lt_irrefl]
      exact nx _
    · rw [if_neg h1] at nx
      by_cases h2 : owX I ((y + 1 : Nat) : Int) N = b3
      · rw [if_pos h2] at nx
        have h3 : ¬ b3 < owX I ((y + 1 : Nat) : Int) N := by omega
        simp only [s111_11, s111_12, s111_13, s111_14, s111_15, s111_16, s111_17, s111_18, s111_19, s111_20, s111_21, s111_22, s111_23, s111_24, s111_25, s111_26, s111_27, s111_28, s111_29, s111_30, Option.toList_some, Option.toList_none, List.cons_append, List.nil_append, Nat.le_refl, true_and, and_true, true_or, or_true, false_or, or_false, true_implies, false_implies, implies_true, not_true_eq_false, not_false_eq_true, eq_self, Nat.reduceLT, Nat.reduceLeDiff, Nat.reduceEqDiff, Nat.reduceAdd, Nat.reduceSub, Int.reduceLT, Int.reduceLE, Int.reduceEq, Int.reduceNeg, Int.reduceNe, Int.reduceAdd, Int.reduceSub, Int.reduceMul, Int.reduceToNat, Int.toNat_zero, Int.toNat_one, Int.toNat_natCast, am_cats, am_cat, am_st1, am_st2, am_clr, up2_na, up2_nj, up2_same, List.getElem?_cons_zero, List.getElem?_cons_succ, List.set_cons_zero, List.set_cons_succ, ne_eq, tk_102 hh, k112 hh hN hN2, u1, v4, h1, h3]
        exact nx _
      · rw [if_neg h2] at nx
        have h3 : b3 < owX I ((y + 1 : Nat) : Int) N := by omega
        simp only [s111_11, s111_12, s111_13, s111_14, s111_15, s111_16, s111_17, s111_18, s111_19, s111_20, s111_21, s111_22, s111_23, s111_24, s111_25, s111_26, s111_27, s111_28, s111_29, s111_30, Option.toList_some, Option.toList_none, List.cons_append, List.nil_append, Nat.le_refl, true_and, and_true, true_or, or_true, false_or, or_false, true_implies, false_implies, implies_true, not_true_eq_false, not_false_eq_true, eq_self, Nat.reduceLT, Nat.reduceLeDiff, Nat.reduceEqDiff, Nat.reduceAdd, Nat.reduceSub, Int.reduceLT, Int.reduceLE, Int.reduceEq, Int.reduceNeg, Int.reduceNe, Int.reduceAdd, Int.reduceSub, Int.reduceMul, Int.reduceToNat, Int.toNat_zero, Int.toNat_one, Int.toNat_natCast, am_cats, am_cat, am_st1, am_st2, am_clr, up2_na, up2_nj, up2_same, List.getElem?_cons_zero, List.getElem?_cons_succ, List.set_cons_zero, List.set_cons_succ, ne_eq, tk_102 hh, k112 hh hN hN2, u1, v4, h1, h3]
        exact nx _
def bsk (P : Nat → Int) : Nat → Int × Int × Int
  | 0 => (0, 0, 41)
  | y + 1 => bkP P y
theorem p198 (hh : hp T R) {w : Int} {N : Nat} (hw : 0 ≤ w ∧ w ≤ 2) (hN : I 152 46 = N) (hN2 : N ≤ 40) (hQ : Q (some (.inl (bkA (fun y => owM I (y : Int) N) w))) (185, s, T, I, J, R)) : ∀ (r y : Nat), y + r = 101 → ∀ l6, wp codeT mX (d + 1) 198 15 [some (.inr (.inr (some 152))), some (.inl w), some (.inl (bsk (fun y => owM I (y : Int) N) y).2.2), some (.inl (bsk (fun y => owM I (y : Int) N) y).1), some (.inl (bsk (fun y => owM I (y : Int) N) y).2.1), some (.inl (y : Int)), l6] [] (185, s, T, I, J, R) Q := by
  intro r
  induction r with
  | zero =>
    intro y hy l6
    have hy : y = 101 := by omega
    subst hy
    unfold bkA at hQ
    have u : (100 : Int) < ((101 : Nat) : Int) := by decide
    refine s198_15.mpr ?_
    simp only [s198_16, s198_17, s198_39, s198_40, s198_41, s198_42, s198_43, s198_44, s198_45, s198_46, s198_47, s198_48, s198_49, Option.toList_some, Option.toList_none, List.cons_append, List.nil_append, Nat.le_refl, true_and, and_true, true_or, or_true, false_or, or_false, true_implies, false_implies, implies_true, not_true_eq_false, not_false_eq_true, eq_self, Nat.reduceLT, Nat.reduceLeDiff, Nat.reduceEqDiff, Nat.reduceAdd, Nat.reduceSub, Int.reduceLT, Int.reduceLE, Int.reduceEq, Int.reduceNeg, Int.reduceNe, Int.reduceAdd, Int.reduceSub, Int.reduceMul, Int.reduceToNat, Int.toNat_zero, Int.toNat_one, Int.toNat_natCast, am_cats, am_cat, am_st1, am_st2, am_clr, up2_na, up2_nj, up2_same, List.getElem?_cons_zero, List.getElem?_cons_succ, List.set_cons_zero, List.set_cons_succ, ne_eq, u, bsk]
    refine ⟨fun h0 => ?_, fun h0 => ⟨fun h1 => ?_, fun h1 => ?_⟩⟩
    · rw [if_pos h0] at hQ; exact hQ
    · rw [if_neg h0, if_pos h1] at hQ; exact hQ
    · rw [if_neg h0, if_neg h1] at hQ; exact hQ
  | succ r ih =>
    intro y hy l6
    have nx := ih (y + 1) (by omega)
    have u1 : ¬ (100 : Int) < (y : Int) := by omega
    have o6 : (y : Int) + 1 = ((y + 1 : Nat) : Int) := by omega
    have o7 : y + 1 ≤ 2000000000 := by omega
    have bb := swf_bd (f := fun i => oF (I 179 i) (I 180 i) (I 181 i) (y : Int)) (fun j => oF_01 _ _ _ _) N
    have bb : 0 ≤ owM I (y : Int) N ∧ owM I (y : Int) N ≤ N := bb
    have e : bsk (fun y => owM I (y : Int) N) (y + 1) = if owM I (y : Int) N < (bsk (fun y => owM I (y : Int) N) y).2.2 then ((y : Int), (y : Int), owM I (y : Int) N) else if owM I (y : Int) N = (bsk (fun y => owM I (y : Int) N) y).2.2 then ((bsk (fun y => owM I (y : Int) N) y).1, (y : Int), (bsk (fun y => owM I (y : Int) N) y).2.2) else bsk (fun y => owM I (y : Int) N) y := by
      rcases y with _ | y
      · show (0, 0, owM I ((0 : Nat) : Int) N) = _
        rw [show (bsk (fun y => owM I (y : Int) N) 0).2.2 = 41 from rfl, if_pos (show owM I ((0 : Nat) : Int) N < 41 by omega)]
        rfl
      · rfl
    rw [e] at nx
    clear hQ e
    generalize bsk (fun y => owM I (y : Int) N) y = B at *
    obtain ⟨b1, b2, b3⟩ := B
    refine s198_15.mpr ?_
    by_cases h1 : owM I (y : Int) N < b3
    · rw [if_pos h1] at nx
      have h3 : ¬ b3 < owM I (y : Int) N := by omega
      have v4 := w32_c o6 o7
      simp only [s198_16, s198_17, s198_18, s198_19, s198_20, s198_21, s198_22, s198_23, s198_24, s198_25, s198_26, s198_27, s198_28, s198_29, s198_30, s198_31, s198_32, s198_33, s198_34, s198_35, s198_36, s198_37, s198_38, Option.toList_some, Option.toList_none, List.cons_append, List.nil_append, Nat.le_refl, true_and, and_true, true_or, or_true, false_or, or_false, true_implies, false_implies, implies_true, not_true_eq_false, not_false_eq_true, eq_self, Nat.reduceLT, Nat.reduceLeDiff, Nat.reduceEqDiff, Nat.reduceAdd, Nat.reduceSub, Int.reduceLT, Int.reduceLE, Int.reduceEq, Int.reduceNeg, Int.reduceNe, Int.reduceAdd, Int.reduceSub, Int.reduceMul, Int.reduceToNat, Int.toNat_zero, Int.toNat_one, Int.toNat_natCast, am_cats, am_cat, am_st1, am_st2, am_clr, up2_na, up2_nj, up2_same, List.getElem?_cons_zero, List.getElem?_cons_succ, List.set_cons_zero, List.set_cons_succ, ne_eq, tk_152 hh, k199 hh hN hN2, u1, v4, h1, h3]
      exact nx _
    · rw [if_neg h1] at nx
      by_cases h2 : owM I (y : Int) N = b3
      · rw [if_pos h2] at nx
        have h3 : ¬ b3 < owM I (y : Int) N := by omega
        have v4 := w32_c o6 o7
        simp only [s198_16, s198_17, s198_18, s198_19, s198_20, s198_21, s198_22, s198_23, s198_24, s198_25, s198_26, s198_27, s198_28, s198_29, s198_30, s198_31, s198_32, s198_33, s198_34, s198_35, s198_36, s198_37, s198_38, Option.toList_some, Option.toList_none, List.cons_append, List.nil_append, Nat.le_refl, true_and, and_true, true_or, or_true, false_or, or_false, true_implies, false_implies, implies_true, not_true_eq_false, not_false_eq_true, eq_self, Nat.reduceLT, Nat.reduceLeDiff, Nat.reduceEqDiff, Nat.reduceAdd, Nat.reduceSub, Int.reduceLT, Int.reduceLE, Int.reduceEq, Int.reduceNeg, Int.reduceNe, Int.reduceAdd, Int.reduceSub, Int.reduceMul, Int.reduceToNat, Int.toNat_zero, Int.toNat_one, Int.toNat_natCast, am_cats, am_cat, am_st1, am_st2, am_clr, up2_na, up2_nj, up2_same, List.getElem?_cons_zero, List.getElem?_cons_succ, List.set_cons_zero, List.set_cons_succ, ne_eq, tk_152 hh, k199 hh hN hN2, u1, v4, h1, h3]
        rw [← h2] at nx
        exact nx _
      · rw [if_neg h2] at nx
        have h3 : b3 < owM I (y : Int) N := by omega
        have v4 := w32_c o6 o7
        simp only [s198_16, s198_17, s198_18, s198_19, s198_20, s198_21, s198_22, s198_23, s198_24, s198_25, s198_26, s198_27, s198_28, s198_29, s198_30, s198_31, s198_32, s198_33, s198_34, s198_35, s198_36, s198_37, s198_38, Option.toList_some, Option.toList_none, List.cons_append, List.nil_append, Nat.le_refl, true_and, and_true, true_or, or_true, false_or, or_false, true_implies, false_implies, implies_true, not_true_eq_false, not_false_eq_true, eq_self, Nat.reduceLT, Nat.reduceLeDiff, Nat.reduceEqDiff, Nat.reduceAdd, Nat.reduceSub, Int.reduceLT, Int.reduceLE, Int.reduceEq, Int.reduceNeg, Int.reduceNe, Int.reduceAdd, Int.reduceSub, Int.reduceMul, Int.reduceToNat, Int.toNat_zero, Int.toNat_one, Int.toNat_natCast, am_cats, am_cat, am_st1, am_st2, am_clr, up2_na, up2_nj, up2_same, List.getElem?_cons_zero, List.getElem?_cons_succ, List.set_cons_zero, List.set_cons_succ, ne_eq, tk_152 hh, k199 hh hN hN2, u1, v4, h1, h3]
        exact nx _
end
section
variable {L s d : Nat} {X : Nat → Int}
theorem pr_back (hL : L ≤ 3072) (hX : ∀ j, rg32 (X j)) (hd : 40 ≤ d) {cmp : Bool} : pr L X s LKP d 110 198 1 false cmp := by
  refine pr_mk (cx := cn119) (cm := cn166) (nx := 0) (nm := 5) hL hX (cn_all 119 (by decide) cn119 rfl) (cn_all 166 (by decide) cn166 rfl) rfl hd (fun as g hl hr hH hs hP => ?_)
  obtain ⟨w, rfl⟩ := len1 hl
  obtain ⟨c, s, T, I, J, R⟩ := g
  obtain ⟨d, rfl⟩ : ∃ e, d = e + 2 := ⟨d - 2, by omega⟩
  have hc : c = 185 := hH.1
  subst hc
  have hh := hp_of (eH5_of hH)
  have hP : LK I := hP
  obtain ⟨l0, l1, l2, l3, l4, l5, l6, l7, l8, l9, l10, l11, l12, l13, l14, l15⟩ := hP
  have e7 : I 102 3 = I 152 46 := l7
  have b7 : 0 ≤ I 102 3 ∧ I 102 3 ≤ 40 := ebd hH (by decide) (by decide) (by decide)
  obtain ⟨N, hN⟩ : ∃ n : Nat, I 102 3 = n := ⟨(I 102 3).toNat, by omega⟩
  have hM : I 152 46 = N := e7.symm.trans hN
  have N40 : N ≤ 40 := by omega
  have keep : LKP (185, s, T, I, J, R) := ⟨l0, l1, l2, l3, l4, l5, l6, l7, l8, l9, l10, l11, l12, l13, l14, l15⟩
  show wpc codeT mX (d + 2) 110 [.inr (.inr (some 0)), .inl w] _ _
  by_cases hg : 0 ≤ w ∧ w ≤ 2
  · have eP : (fun y : Nat => owX I (y : Int) N) = fun y : Nat => owM I (y : Int) N := funext (fun y => swf_eq N (fun i hi => by
      obtain ⟨z1, z2, z3, -⟩ := l13 i (by omega)
      rw [z1, z2, z3]))
    have k0 : ∀ Q : Option AV → AH → Prop, wpc codeT mX d 112 [.inr (.inr (some 102)), .inl 0] (185, s, T, I, J, R) Q ↔ Q (some (.inl (owX I 0 N))) (185, s, T, I, J, R) := fun Q => k112 hh hN N40
    have second : ∀ Q : Option AV → AH → Prop, Q (some (.inl (bkA (fun y => owM I (y : Int) N) w))) (185, s, T, I, J, R) → wpc codeT mX (d + 2) 198 [.inr (.inr (some 152)), .inl w] (185, s, T, I, J, R) Q := by
      intro Q hQ
      have := p198 (d := d + 1) (s := s) (J := J) (I := I) (Q := Q) hh hg hM N40 hQ 101 0 (by omega) none
      simp only [s198_0, s198_1, s198_2, s198_3, s198_4, s198_5, s198_6, s198_7, s198_8, s198_9, s198_10, s198_11, s198_12, s198_13, s198_14, e198, Option.toList_some, Option.toList_none, List.cons_append, List.nil_append, Nat.le_refl, true_and, and_true, true_or, or_true, false_or, or_false, true_implies, false_implies, implies_true, not_true_eq_false, not_false_eq_true, eq_self, Nat.reduceLT, Nat.reduceLeDiff, Nat.reduceEqDiff, Nat.reduceAdd, Nat.reduceSub, Int.reduceLT, Int.reduceLE, Int.reduceEq, Int.reduceNeg, Int.reduceNe, Int.reduceAdd, Int.reduceSub, Int.reduceMul, Int.reduceToNat, Int.toNat_zero, Int.toNat_one, Int.toNat_natCast, am_cats, am_cat, am_st1, am_st2, am_clr, up2_na, up2_nj, up2_same, List.getElem?_cons_zero, List.getElem?_cons_succ, List.set_cons_zero, List.set_cons_succ, ne_eq, k136, i10, hg]
      exact this
    have first : ∀ Q : Option AV → AH → Prop, Q (some (.inl (bkA (fun y => owX I (y : Int) N) w))) (185, s, T, I, J, R) → wpc codeT mX (d + 2) 110 [.inr (.inr (some 0)), .inl w] (185, s, T, I, J, R) Q := by
      intro Q hQ
      have := p111 (d := d) (s := s) (J := J) (I := I) (Q := fun v h1 => (185 ≤ h1.1 ∧ s ≤ h1.2.1) ∧ wp codeT mX (d + 2) 110 9 [some (.inr (.inr (some 0))), some (.inl w)] (v.toList ++ []) h1 Q) hh hg hN N40 ⟨⟨Nat.le_refl _, Nat.le_refl _⟩, by
        simp only [s110_9, s110_11, Option.toList_some, Option.toList_none, List.cons_append, List.nil_append, Nat.le_refl, true_and, and_true, true_or, or_true, false_or, or_false, true_implies, false_implies, implies_true, not_true_eq_false, not_false_eq_true, eq_self, Nat.reduceLT, Nat.reduceLeDiff, Nat.reduceEqDiff, Nat.reduceAdd, Nat.reduceSub, Int.reduceLT, Int.reduceLE, Int.reduceEq, Int.reduceNeg, Int.reduceNe, Int.reduceAdd, Int.reduceSub, Int.reduceMul, Int.reduceToNat, Int.toNat_zero, Int.toNat_one, Int.toNat_natCast, am_cats, am_cat, am_st1, am_st2, am_clr, up2_na, up2_nj, up2_same, List.getElem?_cons_zero, List.getElem?_cons_succ, List.set_cons_zero, List.set_cons_succ, ne_eq]
        exact hQ⟩ 100 0 (by omega) none
      simp only [s110_0, s110_1, s110_2, s110_3, s110_4, s110_5, s110_6, s110_7, s110_8, e110, Option.toList_some, Option.toList_none, List.cons_append, List.nil_append, Nat.le_refl, true_and, and_true, true_or, or_true, false_or, or_false, true_implies, false_implies, implies_true, not_true_eq_false, not_false_eq_true, eq_self, Nat.reduceLT, Nat.reduceLeDiff, Nat.reduceEqDiff, Nat.reduceAdd, Nat.reduceSub, Int.reduceLT, Int.reduceLE, Int.reduceEq, Int.reduceNeg, Int.reduceNe, Int.reduceAdd, Int.reduceSub, Int.reduceMul, Int.reduceToNat, Int.toNat_zero, Int.toNat_one, Int.toNat_natCast, am_cats, am_cat, am_st1, am_st2, am_clr, up2_na, up2_nj, up2_same, List.getElem?_cons_zero, List.getElem?_cons_succ, List.set_cons_zero, List.set_cons_succ, ne_eq, tk_0 hh, tk_102 hh, rk_0_16 hh, k18, i10, hg, e111, s111_0, s111_1, s111_2, s111_3, s111_4, s111_5, s111_6, s111_7, s111_8, s111_9, k0]
      exact this
    refine first _ (fun _ hH1 m1 s1 => ⟨_, rfl, ?_⟩)
    show wpc codeT mX (d + 2) 198 [.inr (.inr (some 152)), .inl w] (185, s, T, I, J, R) _
    exact second _ (fun _ hH2 m2 => ⟨_, rfl, fun _ => by rw [eP], keep⟩)
  · have go : ∀ Q : Option AV → AH → Prop, Q (some (.inl (-1))) (185, s, T, I, J, R) → wpc codeT mX (d + 2) 110 [.inr (.inr (some 0)), .inl w] (185, s, T, I, J, R) Q := by
      intro Q hQ
      simp only [s110_0, s110_1, s110_2, s110_3, s110_4, s110_10, s110_11, e110, Option.toList_some, Option.toList_none, List.cons_append, List.nil_append, Nat.le_refl, true_and, and_true, true_or, or_true, false_or, or_false, true_implies, false_implies, implies_true, not_true_eq_false, not_false_eq_true, eq_self, Nat.reduceLT, Nat.reduceLeDiff, Nat.reduceEqDiff, Nat.reduceAdd, Nat.reduceSub, Int.reduceLT, Int.reduceLE, Int.reduceEq, Int.reduceNeg, Int.reduceNe, Int.reduceAdd, Int.reduceSub, Int.reduceMul, Int.reduceToNat, Int.toNat_zero, Int.toNat_one, Int.toNat_natCast, am_cats, am_cat, am_st1, am_st2, am_clr, up2_na, up2_nj, up2_same, List.getElem?_cons_zero, List.getElem?_cons_succ, List.set_cons_zero, List.set_cons_succ, ne_eq, k18, i10, hg]
      exact hQ
    have fin : ∀ Q : Option AV → AH → Prop, Q (some (.inl (-1))) (185, s, T, I, J, R) → wpc codeT mX (d + 2) 198 [.inr (.inr (some 152)), .inl w] (185, s, T, I, J, R) Q := by
      intro Q hQ
      simp only [s198_0, s198_1, s198_2, s198_3, s198_4, s198_5, s198_6, e198, Option.toList_some, Option.toList_none, List.cons_append, List.nil_append, Nat.le_refl, true_and, and_true, true_or, or_true, false_or, or_false, true_implies, false_implies, implies_true, not_true_eq_false, not_false_eq_true, eq_self, Nat.reduceLT, Nat.reduceLeDiff, Nat.reduceEqDiff, Nat.reduceAdd, Nat.reduceSub, Int.reduceLT, Int.reduceLE, Int.reduceEq, Int.reduceNeg, Int.reduceNe, Int.reduceAdd, Int.reduceSub, Int.reduceMul, Int.reduceToNat, Int.toNat_zero, Int.toNat_one, Int.toNat_natCast, am_cats, am_cat, am_st1, am_st2, am_clr, up2_na, up2_nj, up2_same, List.getElem?_cons_zero, List.getElem?_cons_succ, List.set_cons_zero, List.set_cons_succ, ne_eq, k136, i10, hg]
      exact hQ
    exact go _ (fun _ hH1 m1 s1 => ⟨-1, rfl, fin _ (fun _ hH2 m2 => ⟨-1, rfl, fun _ => rfl, keep⟩)⟩)
end
