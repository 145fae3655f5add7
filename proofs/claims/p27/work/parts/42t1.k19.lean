/-! the law by hand, 19: unasked -/
/-- the last such day, how many -/
def uaF (hd dy : Nat → Int) (ak : Int → Int) (h : Int) : Nat → Int × Int
  | 0 => (-1, 0)
  | i + 1 => if hd i = h ∧ ¬ dy i = (uaF hd dy ak h i).1 then (dy i, (uaF hd dy ak h i).2 + (if ak (dy i) = 0 then 1 else 0)) else uaF hd dy ak h i
theorem uaF_bd (hd dy : Nat → Int) (ak : Int → Int) (h : Int) : ∀ k : Nat, 0 ≤ (uaF hd dy ak h k).2 ∧ (uaF hd dy ak h k).2 ≤ k
  | 0 => ⟨Int.le_refl _, Int.le_refl _⟩
  | k + 1 => by
    have := uaF_bd hd dy ak h k
    have e : uaF hd dy ak h (k + 1) = if hd k = h ∧ ¬ dy k = (uaF hd dy ak h k).1 then (dy k, (uaF hd dy ak h k).2 + (if ak (dy k) = 0 then 1 else 0)) else uaF hd dy ak h k := rfl
    rw [e]
    split
    · show 0 ≤ (uaF hd dy ak h k).2 + (if ak (dy k) = 0 then 1 else 0) ∧ (uaF hd dy ak h k).2 + (if ak (dy k) = 0 then 1 else 0) ≤ ((k + 1 : Nat) : Int)
      split <;> omega
    · omega
theorem uaF_eq {hd dy hd' dy' : Nat → Int} {ak ak' : Int → Int} {h : Int} : ∀ k : Nat, (∀ i, i < k → hd i = hd' i ∧ dy i = dy' i ∧ ak (dy' i) = ak' (dy' i)) → uaF hd dy ak h k = uaF hd' dy' ak' h k
  | 0, _ => rfl
  | k + 1, hq => by
    have e := uaF_eq (h := h) k (fun i hi => hq i (by omega))
    obtain ⟨e1, e2, e3⟩ := hq k (by omega)
    show (if hd k = h ∧ ¬ dy k = (uaF hd dy ak h k).1 then (dy k, (uaF hd dy ak h k).2 + (if ak (dy k) = 0 then 1 else 0)) else uaF hd dy ak h k) = (if hd' k = h ∧ ¬ dy' k = (uaF hd' dy' ak' h k).1 then (dy' k, (uaF hd' dy' ak' h k).2 + (if ak' (dy' k) = 0 then 1 else 0)) else uaF hd' dy' ak' h k)
    rw [e, e1, e2, e3]
section
variable {d s : Nat} {T : Nat → Nat × Nat} {I J : Nat → Nat → Int} {R : Nat → Nat → Option Nat} {Q : Option AV → AH → Prop}
theorem k123 (hh : hp T R) {h y : Nat} (h6 : h < 6) (y300 : y < 300) (hb : I 115 (300 * h + y) = 0 ∨ I 115 (300 * h + y) = 1) : wpc codeT mX d 123 [.inr (.inr (some 0)), .inl (h : Int), .inl (y : Int)] (185, s, T, I, J, R) Q ↔ Q (some (.inl (I 115 (300 * h + y)))) (185, s, T, I, J, R) := wpc_det (by
  have u4 : 0 ≤ ((300 * h + y : Nat) : Int) ∧ ((300 * h + y : Nat) : Int) < ((1800 : Nat) : Int) := by omega
  have o1b : (h : Int) * 300 = ((300 * h : Nat) : Int) := by omega
  have o2 : 300 * h ≤ 2000000000 := by omega
  have o3 : ((300 * h : Nat) : Int) + (y : Int) = ((300 * h + y : Nat) : Int) := by omega
  have o4 : 300 * h + y ≤ 2000000000 := by omega
  have v1 := w32_c o1b o2
  have v2 := w32_c o3 o4
  simp only [e123, s123_0, s123_1, s123_2, s123_3, s123_4, s123_5, s123_6, s123_7, s123_8, Option.toList_some, Option.toList_none, List.cons_append, List.nil_append, Nat.le_refl, true_and, and_true, true_or, or_true, false_or, or_false, true_implies, false_implies, implies_true, not_true_eq_false, not_false_eq_true, eq_self, Nat.reduceLT, Nat.reduceLeDiff, Nat.reduceEqDiff, Nat.reduceAdd, Nat.reduceSub, Int.reduceLT, Int.reduceLE, Int.reduceEq, Int.reduceNeg, Int.reduceNe, Int.reduceAdd, Int.reduceSub, Int.reduceMul, Int.reduceToNat, Int.toNat_zero, Int.toNat_one, Int.toNat_natCast, am_cats, am_cat, am_st1, am_st2, am_clr, up2_na, up2_nj, up2_same, List.getElem?_cons_zero, List.getElem?_cons_succ, List.set_cons_zero, List.set_cons_succ, ne_eq, tk_0 hh, tk_115 hh, rk_0_18 hh, u4, v1, v2, hb])
theorem p124 (hh : hp T R) {h N : Nat} (h6 : h < 6) (hN : I 17 3 = N) (hN2 : N ≤ 200) (hy : ∀ i, i < N → 0 ≤ I 21 i ∧ I 21 i ≤ 299) (hb : ∀ j, j < 1800 → I 115 j = 0 ∨ I 115 j = 1) (hQ : Q (some (.inl (uaF (I 19) (I 21) (fun y => I 115 (300 * h + y.toNat)) h N).2)) (185, s, T, I, J, R)) : ∀ (r i : Nat), i + r = N → ∀ l5, wp codeT mX (d + 1) 124 12 [some (.inr (.inr (some 0))), some (.inl (h : Int)), some (.inl (uaF (I 19) (I 21) (fun y => I 115 (300 * h + y.toNat)) h i).2), some (.inl (uaF (I 19) (I 21) (fun y => I 115 (300 * h + y.toNat)) h i).1), some (.inl (i : Int)), l5] [] (185, s, T, I, J, R) Q := by
  intro r
  induction r with
  | zero =>
    intro i hi l5
    have hi : i = N := by omega
    subst hi
    refine s124_12.mpr ?_
    simp only [s124_13, s124_14, s124_15, s124_16, s124_52, s124_53, Option.toList_some, Option.toList_none, List.cons_append, List.nil_append, Nat.le_refl, true_and, and_true, true_or, or_true, false_or, or_false, true_implies, false_implies, implies_true, not_true_eq_false, not_false_eq_true, eq_self, Nat.reduceLT, Nat.reduceLeDiff, Nat.reduceEqDiff, Nat.reduceAdd, Nat.reduceSub, Int.reduceLT, Int.reduceLE, Int.reduceEq, Int.reduceNeg, Int.reduceNe, Int.reduceAdd, Int.reduceSub, Int.reduceMul, Int.reduceToNat, Int.toNat_zero, Int.toNat_one, Int.toNat_natCast, am_cats, am_cat, am_st1, am_st2, am_clr, up2_na, up2_nj, up2_same, List.getElem?_cons_zero, List.getElem?_cons_succ, List.set_cons_zero, List.set_cons_succ, ne_eq, tk_0 hh, tk_17 hh, rk_0_7 hh, hN, Int.lt_irrefl]
    exact hQ
  | succ r ih =>
    intro i hi l5
    have nx := ih (i + 1) (by omega)
    have u1 : (i : Int) < (N : Int) := by omega
    have u2 : 0 ≤ (i : Int) ∧ (i : Int) < ((200 : Nat) : Int) := by omega
    have o6 : (i : Int) + 1 = ((i + 1 : Nat) : Int) := by omega
    have o7 : i + 1 ≤ 2000000000 := by omega
    have bb := uaF_bd (I 19) (I 21) (fun y => I 115 (300 * h + y.toNat)) h i
    obtain ⟨y, hyy⟩ : ∃ y : Nat, I 21 i = y := ⟨(I 21 i).toNat, by have := hy i (by omega); omega⟩
    have y300 : y < 300 := by have := hy i (by omega); omega
    have ak := hb (300 * h + y) (by omega)
    have e : uaF (I 19) (I 21) (fun y => I 115 (300 * h + y.toNat)) h (i + 1) = if I 19 i = (h : Int) ∧ ¬ I 21 i = (uaF (I 19) (I 21) (fun y => I 115 (300 * h + y.toNat)) h i).1 then (I 21 i, (uaF (I 19) (I 21) (fun y => I 115 (300 * h + y.toNat)) h i).2 + (if I 115 (300 * h + (I 21 i).toNat) = 0 then 1 else 0)) else uaF (I 19) (I 21) (fun y => I 115 (300 * h + y.toNat)) h i := rfl
    rw [e, hyy, Int.toNat_natCast] at nx
    clear hQ e
    generalize uaF (I 19) (I 21) (fun y => I 115 (300 * h + y.toNat)) h i = B at *
    obtain ⟨b1, b2⟩ := B
    have bb : 0 ≤ b2 ∧ b2 ≤ i := bb
    have e9 : w32 (b2 + 1) = b2 + 1 := w32_eq (by omega) (by omega)
    have e8 : w32 (b2 + 0) = b2 := (w32_eq (by omega) (by omega)).trans (by omega)
    have v4 := w32_c o6 o7
    refine s124_12.mpr ?_
    by_cases h1 : I 19 i = (h : Int)
    · by_cases h2 : (y : Int) = b1
      · rw [if_neg (fun z => z.2 h2)] at nx
        subst h2
        simp only [s124_13, s124_14, s124_15, s124_16, s124_17, s124_18, s124_19, s124_20, s124_21, s124_22, s124_23, s124_24, s124_25, s124_26, s124_27, s124_28, s124_29, s124_30, s124_31, s124_32, s124_33, s124_34, s124_35, s124_36, s124_37, s124_38, s124_39, s124_40, s124_41, s124_42, s124_43, s124_44, s124_45, s124_46, s124_47, s124_48, s124_49, s124_50, s124_51, Option.toList_some, Option.toList_none, List.cons_append, List.nil_append, Nat.le_refl, true_and, and_true, true_or, or_true, false_or, or_false, true_implies, false_implies, implies_true, not_true_eq_false, not_false_eq_true, eq_self, Nat.reduceLT, Nat.reduceLeDiff, Nat.reduceEqDiff, Nat.reduceAdd, Nat.reduceSub, Int.reduceLT, Int.reduceLE, Int.reduceEq, Int.reduceNeg, Int.reduceNe, Int.reduceAdd, Int.reduceSub, Int.reduceMul, Int.reduceToNat, Int.toNat_zero, Int.toNat_one, Int.toNat_natCast, am_cats, am_cat, am_st1, am_st2, am_clr, up2_na, up2_nj, up2_same, List.getElem?_cons_zero, List.getElem?_cons_succ, List.set_cons_zero, List.set_cons_succ, ne_eq, tk_0 hh, tk_17 hh, tk_18 hh, tk_19 hh, tk_21 hh, rk_0_7 hh, rk_17_0 hh, rk_18_0 hh, rk_18_2 hh, i5, hN, u1, u2, v4, h1, hyy]
        exact nx _
      · rw [if_pos ⟨h1, h2⟩] at nx
        rcases ak with ak | ak
        · rw [if_pos ak] at nx
          simp only [s124_13, s124_14, s124_15, s124_16, s124_17, s124_18, s124_19, s124_20, s124_21, s124_22, s124_23, s124_24, s124_25, s124_26, s124_27, s124_28, s124_29, s124_30, s124_31, s124_32, s124_33, s124_34, s124_35, s124_36, s124_37, s124_38, s124_39, s124_40, s124_41, s124_42, s124_43, s124_44, s124_45, s124_46, s124_47, s124_48, s124_49, s124_50, s124_51, Option.toList_some, Option.toList_none, List.cons_append, List.nil_append, Nat.le_refl, true_and, and_true, true_or, or_true, false_or, or_false, true_implies, false_implies, implies_true, not_true_eq_false, not_false_eq_true, eq_self, Nat.reduceLT, Nat.reduceLeDiff, Nat.reduceEqDiff, Nat.reduceAdd, Nat.reduceSub, Int.reduceLT, Int.reduceLE, Int.reduceEq, Int.reduceNeg, Int.reduceNe, Int.reduceAdd, Int.reduceSub, Int.reduceMul, Int.reduceToNat, Int.toNat_zero, Int.toNat_one, Int.toNat_natCast, am_cats, am_cat, am_st1, am_st2, am_clr, up2_na, up2_nj, up2_same, List.getElem?_cons_zero, List.getElem?_cons_succ, List.set_cons_zero, List.set_cons_succ, ne_eq, tk_0 hh, tk_17 hh, tk_18 hh, tk_19 hh, tk_21 hh, rk_0_7 hh, rk_17_0 hh, rk_18_0 hh, rk_18_2 hh, k123 hh h6 y300 (Or.inl ak), i5, hN, u1, u2, v4, h1, h2, hyy, ak, e9]
          exact nx _
        · rw [if_neg (by omega), Int.add_zero] at nx
          simp only [s124_13, s124_14, s124_15, s124_16, s124_17, s124_18, s124_19, s124_20, s124_21, s124_22, s124_23, s124_24, s124_25, s124_26, s124_27, s124_28, s124_29, s124_30, s124_31, s124_32, s124_33, s124_34, s124_35, s124_36, s124_37, s124_38, s124_39, s124_40, s124_41, s124_42, s124_43, s124_44, s124_45, s124_46, s124_47, s124_48, s124_49, s124_50, s124_51, Option.toList_some, Option.toList_none, List.cons_append, List.nil_append, Nat.le_refl, true_and, and_true, true_or, or_true, false_or, or_false, true_implies, false_implies, implies_true, not_true_eq_false, not_false_eq_true, eq_self, Nat.reduceLT, Nat.reduceLeDiff, Nat.reduceEqDiff, Nat.reduceAdd, Nat.reduceSub, Int.reduceLT, Int.reduceLE, Int.reduceEq, Int.reduceNeg, Int.reduceNe, Int.reduceAdd, Int.reduceSub, Int.reduceMul, Int.reduceToNat, Int.toNat_zero, Int.toNat_one, Int.toNat_natCast, am_cats, am_cat, am_st1, am_st2, am_clr, up2_na, up2_nj, up2_same, List.getElem?_cons_zero, List.getElem?_cons_succ, List.set_cons_zero, List.set_cons_succ, ne_eq, tk_0 hh, tk_17 hh, tk_18 hh, tk_19 hh, tk_21 hh, rk_0_7 hh, rk_17_0 hh, rk_18_0 hh, rk_18_2 hh, k123 hh h6 y300 (Or.inr ak), i5, hN, u1, u2, v4, h1, h2, hyy, ak, e8]
          exact nx _
    · rw [if_neg (fun z => h1 z.1)] at nx
      simp only [s124_13, s124_14, s124_15, s124_16, s124_17, s124_18, s124_19, s124_20, s124_21, s124_22, s124_23, s124_24, s124_25, s124_26, s124_27, s124_28, s124_29, s124_30, s124_31, s124_32, s124_33, s124_34, s124_35, s124_36, s124_37, s124_38, s124_39, s124_40, s124_41, s124_42, s124_43, s124_44, s124_45, s124_46, s124_47, s124_48, s124_49, s124_50, s124_51, Option.toList_some, Option.toList_none, List.cons_append, List.nil_append, Nat.le_refl, true_and, and_true, true_or, or_true, false_or, or_false, true_implies, false_implies, implies_true, not_true_eq_false, not_false_eq_true, eq_self, Nat.reduceLT, Nat.reduceLeDiff, Nat.reduceEqDiff, Nat.reduceAdd, Nat.reduceSub, Int.reduceLT, Int.reduceLE, Int.reduceEq, Int.reduceNeg, Int.reduceNe, Int.reduceAdd, Int.reduceSub, Int.reduceMul, Int.reduceToNat, Int.toNat_zero, Int.toNat_one, Int.toNat_natCast, am_cats, am_cat, am_st1, am_st2, am_clr, up2_na, up2_nj, up2_same, List.getElem?_cons_zero, List.getElem?_cons_succ, List.set_cons_zero, List.set_cons_succ, ne_eq, tk_0 hh, tk_17 hh, tk_18 hh, tk_19 hh, tk_21 hh, rk_0_7 hh, rk_17_0 hh, rk_18_0 hh, rk_18_2 hh, i5, hN, u1, u2, v4, h1, hyy]
      exact nx _
theorem p206 (hh : hp T R) {h N : Nat} (h6 : h < 6) (hN : I 152 4 = N) (hN2 : N ≤ 200) (hy : ∀ i, i < N → 0 ≤ I 159 i ∧ I 159 i ≤ 299) (hb : ∀ j, j < 1800 → I 184 j = 0 ∨ I 184 j = 1) (hQ : Q (some (.inl (uaF (I 157) (I 159) (fun y => I 184 (300 * h + y.toNat)) h N).2)) (185, s, T, I, J, R)) : ∀ (r i : Nat), i + r = N → wp codeT mX d 206 12 [some (.inr (.inr (some 152))), some (.inl (h : Int)), some (.inl (uaF (I 157) (I 159) (fun y => I 184 (300 * h + y.toNat)) h i).2), some (.inl (uaF (I 157) (I 159) (fun y => I 184 (300 * h + y.toNat)) h i).1), some (.inl (i : Int))] [] (185, s, T, I, J, R) Q := by
  intro r
  induction r with
  | zero =>
    intro i hi
    have hi : i = N := by omega
    subst hi
    refine s206_12.mpr ?_
    simp only [s206_13, s206_14, s206_15, s206_51, s206_52, Option.toList_some, Option.toList_none, List.cons_append, List.nil_append, Nat.le_refl, true_and, and_true, true_or, or_true, false_or, or_false, true_implies, false_implies, implies_true, not_true_eq_false, not_false_eq_true, eq_self, Nat.reduceLT, Nat.reduceLeDiff, Nat.reduceEqDiff, Nat.reduceAdd, Nat.reduceSub, Int.reduceLT, Int.reduceLE, Int.reduceEq, Int.reduceNeg, Int.reduceNe, Int.reduceAdd, Int.reduceSub, Int.reduceMul, Int.reduceToNat, Int.toNat_zero, Int.toNat_one, Int.toNat_natCast, am_cats, am_cat, am_st1, am_st2, am_clr, up2_na, up2_nj, up2_same, List.getElem?_cons_zero, List.getElem?_cons_succ, List.set_cons_zero, List.set_cons_succ, ne_eq, tk_152 hh, hN, Int.lt_irrefl]
    exact hQ
  | succ r ih =>
    intro i hi
    have nx := ih (i + 1) (by omega)
    have u1 : (i : Int) < (N : Int) := by omega
    have u2 : 0 ≤ (i : Int) ∧ (i : Int) < ((200 : Nat) : Int) := by omega
    have o6 : (i : Int) + 1 = ((i + 1 : Nat) : Int) := by omega
    have o7 : i + 1 ≤ 2000000000 := by omega
    have bb := uaF_bd (I 157) (I 159) (fun y => I 184 (300 * h + y.toNat)) h i
    obtain ⟨y, hyy⟩ : ∃ y : Nat, I 159 i = y := ⟨(I 159 i).toNat, by have := hy i (by omega); omega⟩
    have y300 : y < 300 := by have := hy i (by omega); omega
    have ak := hb (300 * h + y) (by omega)
    have u4 : 0 ≤ ((300 * h + y : Nat) : Int) ∧ ((300 * h + y : Nat) : Int) < ((1800 : Nat) : Int) := by omega
    have o1b : 300 * (h : Int) = ((300 * h : Nat) : Int) := by omega
    have o2 : 300 * h ≤ 2000000000 := by omega
    have o3 : ((300 * h : Nat) : Int) + (y : Int) = ((300 * h + y : Nat) : Int) := by omega
    have o4 : 300 * h + y ≤ 2000000000 := by omega
    have e : uaF (I 157) (I 159) (fun y => I 184 (300 * h + y.toNat)) h (i + 1) = if I 157 i = (h : Int) ∧ ¬ I 159 i = (uaF (I 157) (I 159) (fun y => I 184 (300 * h + y.toNat)) h i).1 then (I 159 i, (uaF (I 157) (I 159) (fun y => I 184 (300 * h + y.toNat)) h i).2 + (if I 184 (300 * h + (I 159 i).toNat) = 0 then 1 else 0)) else uaF (I 157) (I 159) (fun y => I 184 (300 * h + y.toNat)) h i := rfl
    rw [e, hyy, Int.toNat_natCast] at nx
    clear hQ e
    generalize uaF (I 157) (I 159) (fun y => I 184 (300 * h + y.toNat)) h i = B at *
    obtain ⟨b1, b2⟩ := B
    have bb : 0 ≤ b2 ∧ b2 ≤ i := bb
    have e9 : w32 (b2 + 1) = b2 + 1 := w32_eq (by omega) (by omega)
    have e8 : w32 (b2 + 0) = b2 := (w32_eq (by omega) (by omega)).trans (by omega)
    have n10 : ¬ I 184 (300 * h + y) = 0 → I 184 (300 * h + y) = 1 := fun z => by omega
    have v1 := w32_c o1b o2
    have v2 := w32_c o3 o4
    have v4 := w32_c o6 o7
    refine s206_12.mpr ?_
    by_cases h1 : I 157 i = (h : Int)
    · by_cases h2 : (y : Int) = b1
      · rw [if_neg (fun z => z.2 h2)] at nx
        subst h2
        simp only [s206_13, s206_14, s206_15, s206_16, s206_17, s206_18, s206_19, s206_20, s206_21, s206_22, s206_23, s206_24, s206_25, s206_26, s206_27, s206_28, s206_49, s206_50, Option.toList_some, Option.toList_none, List.cons_append, List.nil_append, Nat.le_refl, true_and, and_true, true_or, or_true, false_or, or_false, true_implies, false_implies, implies_true, not_true_eq_false, not_false_eq_true, eq_self, Nat.reduceLT, Nat.reduceLeDiff, Nat.reduceEqDiff, Nat.reduceAdd, Nat.reduceSub, Int.reduceLT, Int.reduceLE, Int.reduceEq, Int.reduceNeg, Int.reduceNe, Int.reduceAdd, Int.reduceSub, Int.reduceMul, Int.reduceToNat, Int.toNat_zero, Int.toNat_one, Int.toNat_natCast, am_cats, am_cat, am_st1, am_st2, am_clr, up2_na, up2_nj, up2_same, List.getElem?_cons_zero, List.getElem?_cons_succ, List.set_cons_zero, List.set_cons_succ, ne_eq, tk_152 hh, tk_157 hh, tk_159 hh, rk_152_11 hh, rk_152_13 hh, hN, u1, u2, v4, h1, hyy]
        exact nx
      · rw [if_pos ⟨h1, h2⟩] at nx
        by_cases ak0 : I 184 (300 * h + y) = 0
        · rw [if_pos ak0] at nx
          simp only [s206_13, s206_14, s206_15, s206_16, s206_17, s206_18, s206_19, s206_20, s206_21, s206_22, s206_23, s206_24, s206_25, s206_26, s206_27, s206_28, s206_29, s206_30, s206_31, s206_32, s206_33, s206_34, s206_35, s206_36, s206_37, s206_38, s206_39, s206_40, s206_41, s206_42, s206_43, s206_44, s206_45, s206_46, s206_47, s206_48, s206_49, s206_50, Option.toList_some, Option.toList_none, List.cons_append, List.nil_append, Nat.le_refl, true_and, and_true, true_or, or_true, false_or, or_false, true_implies, false_implies, implies_true, not_true_eq_false, not_false_eq_true, eq_self, Nat.reduceLT, Nat.reduceLeDiff, Nat.reduceEqDiff, Nat.reduceAdd, Nat.reduceSub, Int.reduceLT, Int.reduceLE, Int.reduceEq, Int.reduceNeg, Int.reduceNe, Int.reduceAdd, Int.reduceSub, Int.reduceMul, Int.reduceToNat, Int.toNat_zero, Int.toNat_one, Int.toNat_natCast, am_cats, am_cat, am_st1, am_st2, am_clr, up2_na, up2_nj, up2_same, List.getElem?_cons_zero, List.getElem?_cons_succ, List.set_cons_zero, List.set_cons_succ, ne_eq, tk_152 hh, tk_157 hh, tk_159 hh, tk_184 hh, rk_152_11 hh, rk_152_13 hh, rk_152_52 hh, hN, u1, u2, u4, v1, v2, v4, h1, h2, hyy, ak0, e9]
          exact nx
        · rw [if_neg ak0, Int.add_zero] at nx
          have ak1 := n10 ak0
          simp only [s206_13, s206_14, s206_15, s206_16, s206_17, s206_18, s206_19, s206_20, s206_21, s206_22, s206_23, s206_24, s206_25, s206_26, s206_27, s206_28, s206_29, s206_30, s206_31, s206_32, s206_33, s206_34, s206_35, s206_36, s206_37, s206_38, s206_39, s206_40, s206_41, s206_42, s206_43, s206_44, s206_45, s206_46, s206_47, s206_48, s206_49, s206_50, Option.toList_some, Option.toList_none, List.cons_append, List.nil_append, Nat.le_refl, true_and, and_true, true_or, or_true, false_or, or_false, true_implies, false_implies, implies_true, not_true_eq_false, not_false_eq_true, eq_self, Nat.reduceLT, Nat.reduceLeDiff, Nat.reduceEqDiff, Nat.reduceAdd, Nat.reduceSub, Int.reduceLT, Int.reduceLE, Int.reduceEq, Int.reduceNeg, Int.reduceNe, Int.reduceAdd, Int.reduceSub, Int.reduceMul, Int.reduceToNat, Int.toNat_zero, Int.toNat_one, Int.toNat_natCast, am_cats, am_cat, am_st1, am_st2, am_clr, up2_na, up2_nj, up2_same, List.getElem?_cons_zero, List.getElem?_cons_succ, List.set_cons_zero, List.set_cons_succ, ne_eq, tk_152 hh, tk_157 hh, tk_159 hh, tk_184 hh, rk_152_11 hh, rk_152_13 hh, rk_152_52 hh, hN, u1, u2, u4, v1, v2, v4, h1, h2, hyy, ak1, e8]
          exact nx
    · rw [if_neg (fun z => h1 z.1)] at nx
      simp only [s206_13, s206_14, s206_15, s206_16, s206_17, s206_18, s206_19, s206_20, s206_21, s206_49, s206_50, Option.toList_some, Option.toList_none, List.cons_append, List.nil_append, Nat.le_refl, true_and, and_true, true_or, or_true, false_or, or_false, true_implies, false_implies, implies_true, not_true_eq_false, not_false_eq_true, eq_self, Nat.reduceLT, Nat.reduceLeDiff, Nat.reduceEqDiff, Nat.reduceAdd, Nat.reduceSub, Int.reduceLT, Int.reduceLE, Int.reduceEq, Int.reduceNeg, Int.reduceNe, Int.reduceAdd, Int.reduceSub, Int.reduceMul, Int.reduceToNat, Int.toNat_zero, Int.toNat_one, Int.toNat_natCast, am_cats, am_cat, am_st1, am_st2, am_clr, up2_na, up2_nj, up2_same, List.getElem?_cons_zero, List.getElem?_cons_succ, List.set_cons_zero, List.set_cons_succ, ne_eq, tk_152 hh, tk_157 hh, rk_152_11 hh, hN, u1, u2, v4, h1]
      exact nx
end
section
variable {L s d : Nat} {X : Nat → Int}
theorem pr_unasked (hL : L ≤ 3072) (hX : ∀ j, rg32 (X j)) (hd : 40 ≤ d) {cmp : Bool} : pr L X s LKP d 124 206 1 false cmp := by
  refine pr_mk (cx := cn127) (cm := cn173) (nx := 4) (nm := 3) hL hX (cn_all 127 (by decide) cn127 rfl) (cn_all 173 (by decide) cn173 rfl) rfl hd (fun as g hl hr hH hs hP => ?_)
  obtain ⟨a, rfl⟩ := len1 hl
  obtain ⟨c, s, T, I, J, R⟩ := g
  obtain ⟨d, rfl⟩ : ∃ e, d = e + 1 := ⟨d - 1, by omega⟩
  have hc : c = 185 := hH.1
  subst hc
  have hh := hp_of (eH5_of hH)
  have hP : LK I := hP
  obtain ⟨l0, l1, l2, l3, l4, l5, l6, l7, l8, l9, l10, l11, l12, l13, l14, l15⟩ := hP
  have e2 : I 0 2 = I 152 2 := l2
  have e4 : I 17 3 = I 152 4 := l6
  have b2 : 0 ≤ I 0 2 ∧ I 0 2 ≤ 6 := ebd hH (by decide) (by decide) (by decide)
  have b4 : 0 ≤ I 17 3 ∧ I 17 3 ≤ 200 := ebd hH (by decide) (by decide) (by decide)
  obtain ⟨N, hN⟩ : ∃ n : Nat, I 17 3 = n := ⟨(I 17 3).toNat, by omega⟩
  have hM : I 152 4 = N := e4.symm.trans hN
  have N2 : N ≤ 200 := by omega
  have keep : LKP (185, s, T, I, J, R) := ⟨l0, l1, l2, l3, l4, l5, l6, l7, l8, l9, l10, l11, l12, l13, l14, l15⟩
  have y1 : ∀ i, i < N → 0 ≤ I 21 i ∧ I 21 i ≤ 299 := fun i hi => ebd hH (by decide) (by show i < 200; omega) ((bI_hi (by decide)).trans (by decide))
  have y2 : ∀ i, i < N → 0 ≤ I 159 i ∧ I 159 i ≤ 299 := fun i hi => ebd hH (by decide) (by show i < 200; omega) ((bI_hi (by decide)).trans (by decide))
  have q1 : ∀ j, j < 1800 → I 115 j = 0 ∨ I 115 j = 1 := fun j hj => by
    have : 0 ≤ I 115 j ∧ I 115 j ≤ 1 := ebd hH (by decide) hj ((bI_hi (by decide)).trans (by decide))
    omega
  have q2 : ∀ j, j < 1800 → I 184 j = 0 ∨ I 184 j = 1 := fun j hj => by
    have : 0 ≤ I 184 j ∧ I 184 j ≤ 1 := ebd hH (by decide) hj ((bI_hi (by decide)).trans (by decide))
    omega
  show wpc codeT mX (d + 1) 124 [.inr (.inr (some 0)), .inl a] _ _
  by_cases hg : 0 ≤ a ∧ a < I 0 2
  · obtain ⟨h, rfl⟩ : ∃ n : Nat, a = n := ⟨a.toNat, by omega⟩
    have h6 : h < 6 := by omega
    have y3 : 0 ≤ (h : Int) ∧ (h : Int) < I 152 2 := by omega
    have eq : uaF (I 19) (I 21) (fun y => I 115 (300 * h + y.toNat)) h N = uaF (I 157) (I 159) (fun y => I 184 (300 * h + y.toNat)) h N := uaF_eq N (fun i hi => by
      have z := l12 i (by omega)
      have w := y2 i hi
      exact ⟨z.1, z.2.2, l15 _ (by omega)⟩)
    have p1 := fun Q hQ => p124 (d := d) (s := s) (J := J) (I := I) (Q := Q) hh h6 hN N2 y1 q1 hQ N 0 (by omega) none
    have p2 := fun Q hQ => p206 (d := d + 1) (s := s) (J := J) (I := I) (Q := Q) hh h6 hM N2 y2 q2 hQ N 0 (by omega)
    have first : ∀ Q : Option AV → AH → Prop, Q (some (.inl (uaF (I 19) (I 21) (fun y => I 115 (300 * h + y.toNat)) h N).2)) (185, s, T, I, J, R) → wpc codeT mX (d + 1) 124 [.inr (.inr (some 0)), .inl (h : Int)] (185, s, T, I, J, R) Q := by
      intro Q hQ
      simp only [s124_0, s124_1, s124_2, s124_3, s124_4, s124_5, s124_6, s124_7, s124_8, s124_9, s124_10, s124_11, e124, Option.toList_some, Option.toList_none, List.cons_append, List.nil_append, Nat.le_refl, true_and, and_true, true_or, or_true, false_or, or_false, true_implies, false_implies, implies_true, not_true_eq_false, not_false_eq_true, eq_self, Nat.reduceLT, Nat.reduceLeDiff, Nat.reduceEqDiff, Nat.reduceAdd, Nat.reduceSub, Int.reduceLT, Int.reduceLE, Int.reduceEq, Int.reduceNeg, Int.reduceNe, Int.reduceAdd, Int.reduceSub, Int.reduceMul, Int.reduceToNat, Int.toNat_zero, Int.toNat_one, Int.toNat_natCast, am_cats, am_cat, am_st1, am_st2, am_clr, up2_na, up2_nj, up2_same, List.getElem?_cons_zero, List.getElem?_cons_succ, List.set_cons_zero, List.set_cons_succ, ne_eq, tk_0 hh, k16 hh, i10, hg]
      exact p1 Q hQ
    have second : ∀ Q : Option AV → AH → Prop, Q (some (.inl (uaF (I 157) (I 159) (fun y => I 184 (300 * h + y.toNat)) h N).2)) (185, s, T, I, J, R) → wpc codeT mX (d + 1) 206 [.inr (.inr (some 152)), .inl (h : Int)] (185, s, T, I, J, R) Q := by
      intro Q hQ
      simp only [s206_0, s206_1, s206_2, s206_3, s206_4, s206_5, s206_6, s206_7, s206_8, s206_9, s206_10, s206_11, e206, Option.toList_some, Option.toList_none, List.cons_append, List.nil_append, Nat.le_refl, true_and, and_true, true_or, or_true, false_or, or_false, true_implies, false_implies, implies_true, not_true_eq_false, not_false_eq_true, eq_self, Nat.reduceLT, Nat.reduceLeDiff, Nat.reduceEqDiff, Nat.reduceAdd, Nat.reduceSub, Int.reduceLT, Int.reduceLE, Int.reduceEq, Int.reduceNeg, Int.reduceNe, Int.reduceAdd, Int.reduceSub, Int.reduceMul, Int.reduceToNat, Int.toNat_zero, Int.toNat_one, Int.toNat_natCast, am_cats, am_cat, am_st1, am_st2, am_clr, up2_na, up2_nj, up2_same, List.getElem?_cons_zero, List.getElem?_cons_succ, List.set_cons_zero, List.set_cons_succ, ne_eq, tk_152 hh, k134 hh, i10, y3]
      exact p2 Q hQ
    refine first _ (fun _ hH1 m1 s1 => ⟨_, rfl, ?_⟩)
    show wpc codeT mX (d + 1) 206 [.inr (.inr (some 152)), .inl (h : Int)] (185, s, T, I, J, R) _
    exact second _ (fun _ hH2 m2 => ⟨_, rfl, fun _ => by rw [eq], keep⟩)
  · have hg2 : ¬ (0 ≤ a ∧ a < I 152 2) := by rw [← e2]; exact hg
    have fin : ∀ Q : Option AV → AH → Prop, Q (some (.inl (-1))) (185, s, T, I, J, R) → wpc codeT mX (d + 1) 206 [.inr (.inr (some 152)), .inl a] (185, s, T, I, J, R) Q := by
      intro Q hQ
      simp only [s206_0, s206_1, s206_2, s206_3, s206_4, s206_5, e206, Option.toList_some, Option.toList_none, List.cons_append, List.nil_append, Nat.le_refl, true_and, and_true, true_or, or_true, false_or, or_false, true_implies, false_implies, implies_true, not_true_eq_false, not_false_eq_true, eq_self, Nat.reduceLT, Nat.reduceLeDiff, Nat.reduceEqDiff, Nat.reduceAdd, Nat.reduceSub, Int.reduceLT, Int.reduceLE, Int.reduceEq, Int.reduceNeg, Int.reduceNe, Int.reduceAdd, Int.reduceSub, Int.reduceMul, Int.reduceToNat, Int.toNat_zero, Int.toNat_one, Int.toNat_natCast, am_cats, am_cat, am_st1, am_st2, am_clr, up2_na, up2_nj, up2_same, List.getElem?_cons_zero, List.getElem?_cons_succ, List.set_cons_zero, List.set_cons_succ, ne_eq, tk_152 hh, k134 hh, i10, hg2]
      exact hQ
    have go : ∀ Q : Option AV → AH → Prop, Q (some (.inl (-1))) (185, s, T, I, J, R) → wpc codeT mX (d + 1) 124 [.inr (.inr (some 0)), .inl a] (185, s, T, I, J, R) Q := by
      intro Q hQ
      simp only [s124_0, s124_1, s124_2, s124_3, s124_4, s124_5, e124, Option.toList_some, Option.toList_none, List.cons_append, List.nil_append, Nat.le_refl, true_and, and_true, true_or, or_true, false_or, or_false, true_implies, false_implies, implies_true, not_true_eq_false, not_false_eq_true, eq_self, Nat.reduceLT, Nat.reduceLeDiff, Nat.reduceEqDiff, Nat.reduceAdd, Nat.reduceSub, Int.reduceLT, Int.reduceLE, Int.reduceEq, Int.reduceNeg, Int.reduceNe, Int.reduceAdd, Int.reduceSub, Int.reduceMul, Int.reduceToNat, Int.toNat_zero, Int.toNat_one, Int.toNat_natCast, am_cats, am_cat, am_st1, am_st2, am_clr, up2_na, up2_nj, up2_same, List.getElem?_cons_zero, List.getElem?_cons_succ, List.set_cons_zero, List.set_cons_succ, ne_eq, tk_0 hh, k16 hh, i10, hg]
      exact hQ
    exact go _ (fun _ hH1 m1 s1 => ⟨-1, rfl, fin _ (fun _ hH2 m2 => ⟨-1, rfl, fun _ => rfl, keep⟩)⟩)
end
