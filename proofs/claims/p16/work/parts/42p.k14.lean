/-! the law by hand, 14: check -/
def nb8 (x y : Int) : Int := (Int32.ofInt (Int32.ofInt x <<< (Int32.ofInt 8 &&& 31)).toInt ||| Int32.ofInt y).toInt
def nbr (a b c e : Int) : Int := nb8 (nb8 (nb8 (nb8 0 a) b) c) e
def nbX (I : Nat → Nat → Int) (p : Nat) : Int := nbr (I 2 (4 * p)) (I 2 (4 * p + 1)) (I 2 (4 * p + 2)) (I 2 (4 * p + 3))
def nbM (I : Nat → Nat → Int) (p : Nat) : Int := nbr (I 162 (4 * p) % 256) (I 162 (4 * p + 1) % 256) (I 162 (4 * p + 2) % 256) (I 162 (4 * p + 3) % 256)
/-- what the class answers from the i-th number on, r numbers are left -/
def ckX (I : Nat → Nat → Int) (n : Nat) : Nat → Nat → Int
  | 0, _ => if (n : Int) < I 17 3 then ((4 * n : Nat) : Int) else -1
  | r + 1, i => if I 17 3 ≤ ((i / 4 : Nat) : Int) then (i : Int) else if I (19 + i % 4) (i / 4) = nbX I i then ckX I n r (i + 1) else (i : Int)
/-- what the reference answers from the j-th answer on, r are left -/
def ckM (I : Nat → Nat → Int) (n : Nat) : Nat → Nat → Int
  | 0, j => if (j : Int) < (n : Int) then ((4 * j : Nat) : Int) else -1
  | r + 1, j => if j = n then ((4 * j : Nat) : Int) else if nbM I (4 * j) = I 157 j then (if nbM I (4 * j + 1) = I 158 j then (if nbM I (4 * j + 2) = I 159 j then (if nbM I (4 * j + 3) = I 160 j then ckM I n r (j + 1) else ((4 * j + 3 : Nat) : Int)) else ((4 * j + 2 : Nat) : Int)) else ((4 * j + 1 : Nat) : Int)) else ((4 * j : Nat) : Int)
theorem td4 (a : Nat) : Int.tdiv (a : Int) 4 = ((a / 4 : Nat) : Int) := by rw [Int.tdiv_eq_ediv_of_nonneg (by omega)]; omega
section
variable {d s : Nat} {T : Nat → Nat × Nat} {I J : Nat → Nat → Int} {R : Nat → Nat → Option Nat} {Q : Option AV → AH → Prop}
theorem gk_18 (h : hp T R) {q : Nat} (hq : q < 5) : R 18 q = some (19 + q) := by
  have : ∀ q, q < 5 → bR 18 q = [19 + q] := by decide +kernel
  exact h.2 18 q (19 + q) (by decide) hq (this q hq)
theorem tg_19 (h : hp T R) {q : Nat} (hq : q < 5) : T (19 + q) = (100, 200) := by
  have : ∀ q, q < 5 → tT.getD (19 + q) (0, 0) = (100, 200) := by decide +kernel
  exact (h.1 (19 + q) (by show 19 + q < 185; omega)).trans (this q hq)
theorem p128 (hh : hp T R) {p i : Nat} {x : Int} (h1 : 4 * p ≤ i) (h2 : i < 4 * p + 4) (h3 : i < 200) (hQ : wp codeT mX d 128 6 [some (.inr (.inr (some 1))), some (.inl (p : Int)), some (.inl (nb8 x (I 2 i))), some (.inl ((i + 1 : Nat) : Int))] [] (185, s, T, I, J, R) Q) : wp codeT mX d 128 6 [some (.inr (.inr (some 1))), some (.inl (p : Int)), some (.inl x), some (.inl (i : Int))] [] (185, s, T, I, J, R) Q := by
  have u1 : (i : Int) < ((4 * p + 4 : Nat) : Int) ∧ (i : Int) < 200 := by omega
  have u2 : 0 ≤ (i : Int) ∧ (i : Int) < ((200 : Nat) : Int) := by omega
  have o1 : 4 * (p : Int) = ((4 * p : Nat) : Int) := by omega
  have o2 : 4 * p ≤ 2000000000 := by omega
  have o3 : ((4 * p : Nat) : Int) + 4 = ((4 * p + 4 : Nat) : Int) := by omega
  have o4 : 4 * p + 4 ≤ 2000000000 := by omega
  have o6 : (i : Int) + 1 = ((i + 1 : Nat) : Int) := by omega
  have o7 : i + 1 ≤ 2000000000 := by omega
  have v1 := w32_c o1 o2
  have v2 := w32_c o3 o4
  have v3 := w32_c o6 o7
  refine s128_6.mpr ?_
  simp only [s128_7, s128_8, s128_9, s128_10, s128_11, s128_12, s128_13, s128_14, s128_15, s128_16, s128_17, s128_18, s128_19, s128_20, s128_21, s128_22, s128_23, s128_24, s128_25, s128_26, Option.toList_some, Option.toList_none, List.cons_append, List.nil_append, Nat.le_refl, true_and, and_true, true_or, or_true, false_or, or_false, true_implies, false_implies, implies_true, not_true_eq_false, not_false_eq_true, eq_self, Nat.reduceLT, Nat.reduceLeDiff, Nat.reduceEqDiff, Nat.reduceAdd, Nat.reduceSub, Int.reduceLT, Int.reduceLE, Int.reduceEq, Int.reduceNeg, Int.reduceNe, Int.reduceAdd, Int.reduceSub, Int.reduceMul, Int.reduceToNat, Int.toNat_zero, Int.toNat_one, Int.toNat_natCast, am_cats, am_cat, am_st1, am_st2, am_clr, up2_na, up2_nj, up2_same, List.getElem?_cons_zero, List.getElem?_cons_succ, List.set_cons_zero, List.set_cons_succ, ne_eq, tk_1 hh, tk_2 hh, rk_1_0 hh, u1, u2, v1, v2, v3]
  exact hQ
theorem k128 (hh : hp T R) {p : Nat} (hp48 : p < 48) : wpc codeT mX d 128 [.inr (.inr (some 1)), .inl (p : Int)] (185, s, T, I, J, R) Q ↔ Q (some (.inl (nbX I p))) (185, s, T, I, J, R) := wpc_det (by
  have o1 : 4 * (p : Int) = ((4 * p : Nat) : Int) := by omega
  have o2 : 4 * p ≤ 2000000000 := by omega
  have o3 : ((4 * p : Nat) : Int) + 4 = ((4 * p + 4 : Nat) : Int) := by omega
  have o4 : 4 * p + 4 ≤ 2000000000 := by omega
  have fin : wp codeT mX d 128 6 [some (.inr (.inr (some 1))), some (.inl (p : Int)), some (.inl (nbX I p)), some (.inl ((4 * p + 4 : Nat) : Int))] [] (185, s, T, I, J, R) (fun v g => g = (185, s, T, I, J, R) ∧ v = some (.inl (nbX I p))) := by
    have v1 := w32_c o1 o2
    have v2 := w32_c o3 o4
    refine s128_6.mpr ?_
    simp only [s128_7, s128_8, s128_9, s128_10, s128_11, s128_12, s128_27, s128_28, Option.toList_some, Option.toList_none, List.cons_append, List.nil_append, Nat.le_refl, true_and, and_true, true_or, or_true, false_or, or_false, true_implies, false_implies, implies_true, not_true_eq_false, not_false_eq_true, eq_self, Nat.reduceLT, Nat.reduceLeDiff, Nat.reduceEqDiff, Nat.reduceAdd, Nat.reduceSub, Int.reduceLT, Int.reduceLE, Int.reduceEq, Int.reduceNeg, Int.reduceNe, Int.reduceAdd, Int.reduceSub, Int.reduceMul, Int.reduceToNat, Int.toNat_zero, Int.toNat_one, Int.toNat_natCast, am_cats, am_cat, am_st1, am_st2, am_clr, up2_na, up2_nj, up2_same, List.getElem?_cons_zero, List.getElem?_cons_succ, List.set_cons_zero, List.set_cons_succ, ne_eq, v1, v2, Int.lt_irrefl]
  have go := p128 (d := d) (s := s) (J := J) hh (p := p) (i := 4 * p) (x := 0) (by omega) (by omega) (by omega) (p128 hh (i := 4 * p + 1) (by omega) (by omega) (by omega) (p128 hh (i := 4 * p + 2) (by omega) (by omega) (by omega) (p128 hh (i := 4 * p + 3) (by omega) (by omega) (by omega) fin)))
  have v1 := w32_c o1 o2
  simp only [e128, s128_0, s128_1, s128_2, s128_3, s128_4, s128_5, Option.toList_some, Option.toList_none, List.cons_append, List.nil_append, Nat.le_refl, true_and, and_true, true_or, or_true, false_or, or_false, true_implies, false_implies, implies_true, not_true_eq_false, not_false_eq_true, eq_self, Nat.reduceLT, Nat.reduceLeDiff, Nat.reduceEqDiff, Nat.reduceAdd, Nat.reduceSub, Int.reduceLT, Int.reduceLE, Int.reduceEq, Int.reduceNeg, Int.reduceNe, Int.reduceAdd, Int.reduceSub, Int.reduceMul, Int.reduceToNat, Int.toNat_zero, Int.toNat_one, Int.toNat_natCast, am_cats, am_cat, am_st1, am_st2, am_clr, up2_na, up2_nj, up2_same, List.getElem?_cons_zero, List.getElem?_cons_succ, List.set_cons_zero, List.set_cons_succ, ne_eq, v1]
  exact go)
theorem p209 (hh : hp T R) {p i : Nat} {x : Int} (hb : -128 ≤ I 162 i ∧ I 162 i ≤ 127) (h1 : 4 * p ≤ i) (h2 : i < 4 * p + 4) (h3 : i < 200) (hQ : wp codeT mX d 209 6 [some (.inr (.inr (some 152))), some (.inl (p : Int)), some (.inl (nb8 x (I 162 i % 256))), some (.inl ((i + 1 : Nat) : Int))] [] (185, s, T, I, J, R) Q) : wp codeT mX d 209 6 [some (.inr (.inr (some 152))), some (.inl (p : Int)), some (.inl x), some (.inl (i : Int))] [] (185, s, T, I, J, R) Q := by
  have u1 : (i : Int) < ((4 * p + 4 : Nat) : Int) := by omega
  have u2 : 0 ≤ (i : Int) ∧ (i : Int) < ((200 : Nat) : Int) := by omega
  have o1 : 4 * (p : Int) = ((4 * p : Nat) : Int) := by omega
  have o2 : 4 * p ≤ 2000000000 := by omega
  have o3 : ((4 * p : Nat) : Int) + 4 = ((4 * p + 4 : Nat) : Int) := by omega
  have o4 : 4 * p + 4 ≤ 2000000000 := by omega
  have o6 : (i : Int) + 1 = ((i + 1 : Nat) : Int) := by omega
  have o7 : i + 1 ≤ 2000000000 := by omega
  have a2 := and255 hb.1 hb.2
  have v1 := w32_c o1 o2
  have v2 := w32_c o3 o4
  have v3 := w32_c o6 o7
  refine s209_6.mpr ?_
  simp only [s209_7, s209_8, s209_9, s209_10, s209_11, s209_12, s209_13, s209_14, s209_15, s209_16, s209_17, s209_18, s209_19, s209_20, s209_21, s209_22, s209_23, s209_24, s209_25, Option.toList_some, Option.toList_none, List.cons_append, List.nil_append, Nat.le_refl, true_and, and_true, true_or, or_true, false_or, or_false, true_implies, false_implies, implies_true, not_true_eq_false, not_false_eq_true, eq_self, Nat.reduceLT, Nat.reduceLeDiff, Nat.reduceEqDiff, Nat.reduceAdd, Nat.reduceSub, Int.reduceLT, Int.reduceLE, Int.reduceEq, Int.reduceNeg, Int.reduceNe, Int.reduceAdd, Int.reduceSub, Int.reduceMul, Int.reduceToNat, Int.toNat_zero, Int.toNat_one, Int.toNat_natCast, am_cats, am_cat, am_st1, am_st2, am_clr, up2_na, up2_nj, up2_same, List.getElem?_cons_zero, List.getElem?_cons_succ, List.set_cons_zero, List.set_cons_succ, ne_eq, tk_152 hh, tk_162 hh, rk_152_16 hh, u1, u2, v1, v2, v3, a2]
  exact hQ
theorem k209 (hh : hp T R) (hb : ∀ i, i < 200 → -128 ≤ I 162 i ∧ I 162 i ≤ 127) {p : Nat} (hp48 : p < 48) : wpc codeT mX d 209 [.inr (.inr (some 152)), .inl (p : Int)] (185, s, T, I, J, R) Q ↔ Q (some (.inl (nbM I p))) (185, s, T, I, J, R) := wpc_det (by
  have o1 : 4 * (p : Int) = ((4 * p : Nat) : Int) := by omega
  have o2 : 4 * p ≤ 2000000000 := by omega
  have o3 : ((4 * p : Nat) : Int) + 4 = ((4 * p + 4 : Nat) : Int) := by omega
  have o4 : 4 * p + 4 ≤ 2000000000 := by omega
  have fin : wp codeT mX d 209 6 [some (.inr (.inr (some 152))), some (.inl (p : Int)), some (.inl (nbM I p)), some (.inl ((4 * p + 4 : Nat) : Int))] [] (185, s, T, I, J, R) (fun v g => g = (185, s, T, I, J, R) ∧ v = some (.inl (nbM I p))) := by
    have v1 := w32_c o1 o2
    have v2 := w32_c o3 o4
    refine s209_6.mpr ?_
    simp only [s209_7, s209_8, s209_9, s209_10, s209_11, s209_12, s209_26, s209_27, Option.toList_some, Option.toList_none, List.cons_append, List.nil_append, Nat.le_refl, true_and, and_true, true_or, or_true, false_or, or_false, true_implies, false_implies, implies_true, not_true_eq_false, not_false_eq_true, eq_self, Nat.reduceLT, Nat.reduceLeDiff, Nat.reduceEqDiff, Nat.reduceAdd, Nat.reduceSub, Int.reduceLT, Int.reduceLE, Int.reduceEq, Int.reduceNeg, Int.reduceNe, Int.reduceAdd, Int.reduceSub, Int.reduceMul, Int.reduceToNat, Int.toNat_zero, Int.toNat_one, Int.toNat_natCast, am_cats, am_cat, am_st1, am_st2, am_clr, up2_na, up2_nj, up2_same, List.getElem?_cons_zero, List.getElem?_cons_succ, List.set_cons_zero, List.set_cons_succ, ne_eq, v1, v2, Int.lt_irrefl]
  have go := p209 (d := d) (s := s) (J := J) hh (p := p) (i := 4 * p) (x := 0) (hb _ (by omega)) (by omega) (by omega) (by omega) (p209 hh (i := 4 * p + 1) (hb _ (by omega)) (by omega) (by omega) (by omega) (p209 hh (i := 4 * p + 2) (hb _ (by omega)) (by omega) (by omega) (by omega) (p209 hh (i := 4 * p + 3) (hb _ (by omega)) (by omega) (by omega) (by omega) fin)))
  have v1 := w32_c o1 o2
  simp only [e209, s209_0, s209_1, s209_2, s209_3, s209_4, s209_5, Option.toList_some, Option.toList_none, List.cons_append, List.nil_append, Nat.le_refl, true_and, and_true, true_or, or_true, false_or, or_false, true_implies, false_implies, implies_true, not_true_eq_false, not_false_eq_true, eq_self, Nat.reduceLT, Nat.reduceLeDiff, Nat.reduceEqDiff, Nat.reduceAdd, Nat.reduceSub, Int.reduceLT, Int.reduceLE, Int.reduceEq, Int.reduceNeg, Int.reduceNe, Int.reduceAdd, Int.reduceSub, Int.reduceMul, Int.reduceToNat, Int.toNat_zero, Int.toNat_one, Int.toNat_natCast, am_cats, am_cat, am_st1, am_st2, am_clr, up2_na, up2_nj, up2_same, List.getElem?_cons_zero, List.getElem?_cons_succ, List.set_cons_zero, List.set_cons_succ, ne_eq, v1]
  exact go)
theorem p127 (hh : hp T R) {n N : Nat} (hn : n ≤ 12) (hN : I 17 3 = N) (hN2 : N ≤ 200) (hQ : Q (some (.inl (ckX I n (4 * n) 0))) (185, s, T, I, J, R)) : ∀ (r i : Nat), i + r = 4 * n → ckX I n r i = ckX I n (4 * n) 0 → wp codeT mX (d + 1) 127 19 [some (.inr (.inr (some 0))), some (.inl (n : Int)), some (.inl (i : Int))] [] (185, s, T, I, J, R) Q := by
  intro r
  induction r with
  | zero =>
    intro i hi he
    have hi : i = 4 * n := by omega
    subst hi
    rw [← he] at hQ
    have o1 : 4 * (n : Int) = ((4 * n : Nat) : Int) := by omega
    have o2 : 4 * n ≤ 2000000000 := by omega
    have hQ' : Q (some (.inl (if (n : Int) < I 17 3 then ((4 * n : Nat) : Int) else -1))) (185, s, T, I, J, R) := hQ
    have v1 := w32_c o1 o2
    refine s127_19.mpr ?_
    simp only [s127_20, s127_21, s127_22, s127_23, s127_51, s127_52, s127_53, s127_54, s127_55, s127_56, s127_57, s127_58, s127_59, s127_60, s127_61, Option.toList_some, Option.toList_none, List.cons_append, List.nil_append, Nat.le_refl, true_and, and_true, true_or, or_true, false_or, or_false, true_implies, false_implies, implies_true, not_true_eq_false, not_false_eq_true, eq_self, Nat.reduceLT, Nat.reduceLeDiff, Nat.reduceEqDiff, Nat.reduceAdd, Nat.reduceSub, Int.reduceLT, Int.reduceLE, Int.reduceEq, Int.reduceNeg, Int.reduceNe, Int.reduceAdd, Int.reduceSub, Int.reduceMul, Int.reduceToNat, Int.toNat_zero, Int.toNat_one, Int.toNat_natCast, am_cats, am_cat, am_st1, am_st2, am_clr, up2_na, up2_nj, up2_same, List.getElem?_cons_zero, List.getElem?_cons_succ, List.set_cons_zero, List.set_cons_succ, ne_eq, tk_0 hh, tk_17 hh, rk_0_7 hh, v1, Int.lt_irrefl]
    refine ⟨fun h => ?_, fun h => ?_⟩
    · rw [if_pos h] at hQ'; exact hQ'
    · rw [if_neg h] at hQ'; exact hQ'
  | succ r ih =>
    intro i hi he
    have i48 : i < 48 := by omega
    have u1 : (i : Int) < ((4 * n : Nat) : Int) := by omega
    have o1 : 4 * (n : Int) = ((4 * n : Nat) : Int) := by omega
    have o2 : 4 * n ≤ 2000000000 := by omega
    have o3 : i / 4 ≤ 2000000000 := by omega
    have o4 : (i : Int) - ((i / 4 : Nat) : Int) * 4 = ((i % 4 : Nat) : Int) := by omega
    have o5 : i % 4 ≤ 2000000000 := by omega
    have o6 : (i : Int) + 1 = ((i + 1 : Nat) : Int) := by omega
    have o7 : i + 1 ≤ 2000000000 := by omega
    have q5 : i % 4 < 5 := by omega
    have u2 : 0 ≤ ((i % 4 : Nat) : Int) ∧ ((i % 4 : Nat) : Int) < ((5 : Nat) : Int) := by omega
    have u3 : 0 ≤ ((i / 4 : Nat) : Int) ∧ ((i / 4 : Nat) : Int) < ((200 : Nat) : Int) := by omega
    have u4 : 19 + i % 4 < 185 := by omega
    have p4 : (4 : Int) ≠ 0 := by decide
    have e : ckX I n (r + 1) i = if I 17 3 ≤ ((i / 4 : Nat) : Int) then (i : Int) else if I (19 + i % 4) (i / 4) = nbX I i then ckX I n r (i + 1) else (i : Int) := rfl
    rw [hN] at e
    have ih2 := ih (i + 1) (by omega)
    by_cases hc : (N : Int) ≤ ((i / 4 : Nat) : Int)
    · rw [if_pos hc] at e
      rw [← he, e] at hQ
      have hc' : ¬ ((i / 4 : Nat) : Int) < (N : Int) := by omega
      have v1 := w32_c o1 o2
      have v2 := w32_c (rfl : ((i / 4 : Nat) : Int) = ((i / 4 : Nat) : Int)) o3
      refine s127_19.mpr ?_
      simp only [s127_20, s127_21, s127_22, s127_23, s127_24, s127_25, s127_26, s127_27, s127_28, s127_29, s127_30, s127_47, s127_48, Option.toList_some, Option.toList_none, List.cons_append, List.nil_append, Nat.le_refl, true_and, and_true, true_or, or_true, false_or, or_false, true_implies, false_implies, implies_true, not_true_eq_false, not_false_eq_true, eq_self, Nat.reduceLT, Nat.reduceLeDiff, Nat.reduceEqDiff, Nat.reduceAdd, Nat.reduceSub, Int.reduceLT, Int.reduceLE, Int.reduceEq, Int.reduceNeg, Int.reduceNe, Int.reduceAdd, Int.reduceSub, Int.reduceMul, Int.reduceToNat, Int.toNat_zero, Int.toNat_one, Int.toNat_natCast, am_cats, am_cat, am_st1, am_st2, am_clr, up2_na, up2_nj, up2_same, List.getElem?_cons_zero, List.getElem?_cons_succ, List.set_cons_zero, List.set_cons_succ, ne_eq, tk_0 hh, tk_17 hh, rk_0_7 hh, v1, v2, td4, u1, hN, hc']
      exact hQ
    · rw [if_neg hc] at e
      have hc' : ((i / 4 : Nat) : Int) < (N : Int) := by omega
      by_cases hw : I (19 + i % 4) (i / 4) = nbX I i
      · rw [if_pos hw] at e
        have nx := ih2 (e.symm.trans he)
        have v1 := w32_c o1 o2
        have v2 := w32_c (rfl : ((i / 4 : Nat) : Int) = ((i / 4 : Nat) : Int)) o3
        have v3 := w32_c o4 o5
        have v4 := w32_c o6 o7
        refine s127_19.mpr ?_
        simp only [s127_20, s127_21, s127_22, s127_23, s127_24, s127_25, s127_26, s127_27, s127_28, s127_29, s127_30, s127_31, s127_32, s127_33, s127_34, s127_35, s127_36, s127_37, s127_38, s127_39, s127_40, s127_41, s127_42, s127_43, s127_44, s127_45, s127_46, s127_47, s127_48, s127_49, s127_50, Option.toList_some, Option.toList_none, List.cons_append, List.nil_append, Nat.le_refl, true_and, and_true, true_or, or_true, false_or, or_false, true_implies, false_implies, implies_true, not_true_eq_false, not_false_eq_true, eq_self, Nat.reduceLT, Nat.reduceLeDiff, Nat.reduceEqDiff, Nat.reduceAdd, Nat.reduceSub, Int.reduceLT, Int.reduceLE, Int.reduceEq, Int.reduceNeg, Int.reduceNe, Int.reduceAdd, Int.reduceSub, Int.reduceMul, Int.reduceToNat, Int.toNat_zero, Int.toNat_one, Int.toNat_natCast, am_cats, am_cat, am_st1, am_st2, am_clr, up2_na, up2_nj, up2_same, List.getElem?_cons_zero, List.getElem?_cons_succ, List.set_cons_zero, List.set_cons_succ, ne_eq, tk_0 hh, tk_1 hh, tk_17 hh, tk_18 hh, rk_0_5 hh, rk_0_7 hh, rk_17_0 hh, gk_18 hh q5, tg_19 hh q5, k128 hh i48, v1, v2, v3, v4, td4, u1, u2, u3, u4, hN, hc', hw]
        exact nx
      · rw [if_neg hw] at e
        rw [← he, e] at hQ
        have v1 := w32_c o1 o2
        have v2 := w32_c (rfl : ((i / 4 : Nat) : Int) = ((i / 4 : Nat) : Int)) o3
        have v3 := w32_c o4 o5
        refine s127_19.mpr ?_
        simp only [s127_20, s127_21, s127_22, s127_23, s127_24, s127_25, s127_26, s127_27, s127_28, s127_29, s127_30, s127_31, s127_32, s127_33, s127_34, s127_35, s127_36, s127_37, s127_38, s127_39, s127_40, s127_41, s127_42, s127_43, s127_44, s127_45, s127_46, s127_47, s127_48, Option.toList_some, Option.toList_none, List.cons_append, List.nil_append, Nat.le_refl, true_and, and_true, true_or, or_true, false_or, or_false, true_implies, false_implies, implies_true, not_true_eq_false, not_false_eq_true, eq_self, Nat.reduceLT, Nat.reduceLeDiff, Nat.reduceEqDiff, Nat.reduceAdd, Nat.reduceSub, Int.reduceLT, Int.reduceLE, Int.reduceEq, Int.reduceNeg, Int.reduceNe, Int.reduceAdd, Int.reduceSub, Int.reduceMul, Int.reduceToNat, Int.toNat_zero, Int.toNat_one, Int.toNat_natCast, am_cats, am_cat, am_st1, am_st2, am_clr, up2_na, up2_nj, up2_same, List.getElem?_cons_zero, List.getElem?_cons_succ, List.set_cons_zero, List.set_cons_succ, ne_eq, tk_0 hh, tk_1 hh, tk_17 hh, tk_18 hh, rk_0_5 hh, rk_0_7 hh, rk_17_0 hh, gk_18 hh q5, tg_19 hh q5, k128 hh i48, v1, v2, v3, td4, u1, u2, u3, u4, hN, hc', hw]
        exact hQ
theorem x127 (hh : hp T R) {n N : Nat} (hn : n ≤ 12) (hN : I 17 3 = N) (hN2 : N ≤ 200) (h1 : 16 * (n : Int) ≤ I 1 1) (hQ : Q (some (.inl (ckX (up2 I 1 1 0) n (4 * n) 0))) (185, s, T, up2 I 1 1 0, J, R)) : wpc codeT mX (d + 1) 127 [.inr (.inr (some 0)), .inl (n : Int)] (185, s, T, I, J, R) Q := by
  have u1 : 0 ≤ (n : Int) ∧ (n : Int) ≤ 12 := by omega
  have u2 : ¬ I 1 1 < ((16 * n : Nat) : Int) := by omega
  have o1 : 16 * (n : Int) = ((16 * n : Nat) : Int) := by omega
  have o2 : 16 * n ≤ 2000000000 := by omega
  have lp := p127 (d := d) (s := s) (J := J) (I := up2 I 1 1 0) hh hn ((up2_na (by decide)).trans hN) hN2 hQ (4 * n) 0 (by omega) rfl
  have v1 := w32_c o1 o2
  simp only [s127_0, s127_1, s127_2, s127_3, s127_4, s127_5, s127_6, s127_7, s127_8, s127_9, s127_10, s127_11, s127_12, s127_13, s127_14, s127_15, s127_16, s127_17, s127_18, e49, s49_0, s49_1, s49_2, s49_3, e127, Option.toList_some, Option.toList_none, List.cons_append, List.nil_append, Nat.le_refl, true_and, and_true, true_or, or_true, false_or, or_false, true_implies, false_implies, implies_true, not_true_eq_false, not_false_eq_true, eq_self, Nat.reduceLT, Nat.reduceLeDiff, Nat.reduceEqDiff, Nat.reduceAdd, Nat.reduceSub, Int.reduceLT, Int.reduceLE, Int.reduceEq, Int.reduceNeg, Int.reduceNe, Int.reduceAdd, Int.reduceSub, Int.reduceMul, Int.reduceToNat, Int.toNat_zero, Int.toNat_one, Int.toNat_natCast, am_cats, am_cat, am_st1, am_st2, am_clr, up2_na, up2_nj, up2_same, List.getElem?_cons_zero, List.getElem?_cons_succ, List.set_cons_zero, List.set_cons_succ, ne_eq, tk_0 hh, tk_1 hh, rk_0_5 hh, k18, i10, u1, u2, v1]
  exact lp
theorem p208 (hh : hp T R) {n N : Nat} (hb : ∀ i, i < 200 → -128 ≤ I 162 i ∧ I 162 i ≤ 127) (hn : n ≤ 12) (hN : I 152 4 = N) (hN2 : N ≤ 200) (hQ : Q (some (.inl (ckM I n N 0))) (185, s, T, I, J, R)) : ∀ (r j : Nat), j + r = N → j ≤ n → ckM I n r j = ckM I n N 0 → wp codeT mX (d + 1) 208 15 [some (.inr (.inr (some 152))), some (.inl (n : Int)), some (.inl (j : Int))] [] (185, s, T, I, J, R) Q := by
  intro r
  induction r with
  | zero =>
    intro j hj hjn he
    have hj : j = N := by omega
    subst hj
    rw [← he] at hQ
    have o1 : 4 * (j : Int) = ((4 * j : Nat) : Int) := by omega
    have o2 : 4 * j ≤ 2000000000 := by omega
    have hQ' : Q (some (.inl (if (j : Int) < (n : Int) then ((4 * j : Nat) : Int) else -1))) (185, s, T, I, J, R) := hQ
    have v1 := w32_c o1 o2
    refine s208_15.mpr ?_
    simp only [s208_16, s208_17, s208_18, s208_92, s208_93, s208_94, s208_95, s208_96, s208_97, s208_98, s208_99, s208_100, s208_101, s208_102, Option.toList_some, Option.toList_none, List.cons_append, List.nil_append, Nat.le_refl, true_and, and_true, true_or, or_true, false_or, or_false, true_implies, false_implies, implies_true, not_true_eq_false, not_false_eq_true, eq_self, Nat.reduceLT, Nat.reduceLeDiff, Nat.reduceEqDiff, Nat.reduceAdd, Nat.reduceSub, Int.reduceLT, Int.reduceLE, Int.reduceEq, Int.reduceNeg, Int.reduceNe, Int.reduceAdd, Int.reduceSub, Int.reduceMul, Int.reduceToNat, Int.toNat_zero, Int.toNat_one, Int.toNat_natCast, am_cats, am_cat, am_st1, am_st2, am_clr, up2_na, up2_nj, up2_same, List.getElem?_cons_zero, List.getElem?_cons_succ, List.set_cons_zero, List.set_cons_succ, ne_eq, tk_152 hh, hN, v1, Int.lt_irrefl]
    refine ⟨fun h => ?_, fun h => ?_⟩
    · rw [if_pos h] at hQ'; exact hQ'
    · rw [if_neg h] at hQ'; exact hQ'
  | succ r ih =>
    intro j hj hjn he
    have u1 : (j : Int) < (N : Int) := by omega
    have o1 : 4 * (j : Int) = ((4 * j : Nat) : Int) := by omega
    have o2 : 4 * j ≤ 2000000000 := by omega
    have o3 : ((4 * j : Nat) : Int) + 1 = ((4 * j + 1 : Nat) : Int) := by omega
    have o4 : ((4 * j : Nat) : Int) + 2 = ((4 * j + 2 : Nat) : Int) := by omega
    have o5 : ((4 * j : Nat) : Int) + 3 = ((4 * j + 3 : Nat) : Int) := by omega
    have p1 : 4 * j + 1 ≤ 2000000000 := by omega
    have p2 : 4 * j + 2 ≤ 2000000000 := by omega
    have p3 : 4 * j + 3 ≤ 2000000000 := by omega
    have o6 : (j : Int) + 1 = ((j + 1 : Nat) : Int) := by omega
    have o7 : j + 1 ≤ 2000000000 := by omega
    have u3 : 0 ≤ (j : Int) ∧ (j : Int) < ((200 : Nat) : Int) := by omega
    have e : ckM I n (r + 1) j = if j = n then ((4 * j : Nat) : Int) else if nbM I (4 * j) = I 157 j then (if nbM I (4 * j + 1) = I 158 j then (if nbM I (4 * j + 2) = I 159 j then (if nbM I (4 * j + 3) = I 160 j then ckM I n r (j + 1) else ((4 * j + 3 : Nat) : Int)) else ((4 * j + 2 : Nat) : Int)) else ((4 * j + 1 : Nat) : Int)) else ((4 * j : Nat) : Int) := rfl
    by_cases hjn2 : j = n
    · subst hjn2
      rw [if_pos rfl] at e
      rw [← he, e] at hQ
      have v1 := w32_c o1 o2
      refine s208_15.mpr ?_
      simp only [s208_16, s208_17, s208_18, s208_19, s208_20, s208_21, s208_32, s208_33, s208_34, s208_35, Option.toList_some, Option.toList_none, List.cons_append, List.nil_append, Nat.le_refl, true_and, and_true, true_or, or_true, false_or, or_false, true_implies, false_implies, implies_true, not_true_eq_false, not_false_eq_true, eq_self, Nat.reduceLT, Nat.reduceLeDiff, Nat.reduceEqDiff, Nat.reduceAdd, Nat.reduceSub, Int.reduceLT, Int.reduceLE, Int.reduceEq, Int.reduceNeg, Int.reduceNe, Int.reduceAdd, Int.reduceSub, Int.reduceMul, Int.reduceToNat, Int.toNat_zero, Int.toNat_one, Int.toNat_natCast, am_cats, am_cat, am_st1, am_st2, am_clr, up2_na, up2_nj, up2_same, List.getElem?_cons_zero, List.getElem?_cons_succ, List.set_cons_zero, List.set_cons_succ, ne_eq, tk_152 hh, hN, v1, u1]
      exact hQ
    · rw [if_neg hjn2] at e
      have hj3 : ¬ (j : Int) = (n : Int) := by omega
      have l0 : 4 * j < 48 := by omega
      have l1 : 4 * j + 1 < 48 := by omega
      have l2 : 4 * j + 2 < 48 := by omega
      have l3 : 4 * j + 3 < 48 := by omega
      have ih2 := ih (j + 1) (by omega) (by omega)
      have K0 : ∀ Q : Option AV → AH → Prop, wpc codeT mX d 209 [.inr (.inr (some 152)), .inl ((4 * j : Nat) : Int)] (185, s, T, I, J, R) Q ↔ Q (some (.inl (nbM I (4 * j)))) (185, s, T, I, J, R) := fun Q => k209 hh hb l0
      have K1 : ∀ Q : Option AV → AH → Prop, wpc codeT mX d 209 [.inr (.inr (some 152)), .inl ((4 * j + 1 : Nat) : Int)] (185, s, T, I, J, R) Q ↔ Q (some (.inl (nbM I (4 * j + 1)))) (185, s, T, I, J, R) := fun Q => k209 hh hb l1
      have K2 : ∀ Q : Option AV → AH → Prop, wpc codeT mX d 209 [.inr (.inr (some 152)), .inl ((4 * j + 2 : Nat) : Int)] (185, s, T, I, J, R) Q ↔ Q (some (.inl (nbM I (4 * j + 2)))) (185, s, T, I, J, R) := fun Q => k209 hh hb l2
      have K3 : ∀ Q : Option AV → AH → Prop, wpc codeT mX d 209 [.inr (.inr (some 152)), .inl ((4 * j + 3 : Nat) : Int)] (185, s, T, I, J, R) Q ↔ Q (some (.inl (nbM I (4 * j + 3)))) (185, s, T, I, J, R) := fun Q => k209 hh hb l3
      by_cases h0 : nbM I (4 * j) = I 157 j
      · rw [if_pos h0] at e
        by_cases h1 : nbM I (4 * j + 1) = I 158 j
        · rw [if_pos h1] at e
          by_cases h2 : nbM I (4 * j + 2) = I 159 j
          · rw [if_pos h2] at e
            by_cases h3 : nbM I (4 * j + 3) = I 160 j
            · rw [if_pos h3] at e
              have nx := ih2 (e.symm.trans he)
              have v1 := w32_c o1 o2
              have w1 := w32_c o3 p1
              have w2 := w32_c o4 p2
              have w3 := w32_c o5 p3
              have v4 := w32_c o6 o7
              refine s208_15.mpr ?_
              simp only [s208_16, s208_17, s208_18, s208_19, s208_20, s208_21, s208_22, s208_23, s208_24, s208_25, s208_26, s208_27, s208_28, s208_29, s208_30, s208_31, s208_32, s208_33, s208_34, s208_35, s208_36, s208_37, s208_38, s208_39, s208_40, s208_41, s208_42, s208_43, s208_44, s208_45, s208_46, s208_47, s208_48, s208_49, s208_50, s208_51, s208_52, s208_53, s208_54, s208_55, s208_56, s208_57, s208_58, s208_59, s208_60, s208_61, s208_62, s208_63, s208_64, s208_65, s208_66, s208_67, s208_68, s208_69, s208_70, s208_71, s208_72, s208_73, s208_74, s208_75, s208_76, s208_77, s208_78, s208_79, s208_80, s208_81, s208_82, s208_83, s208_84, s208_85, s208_86, s208_87, s208_88, s208_89, s208_90, s208_91, Option.toList_some, Option.toList_none, List.cons_append, List.nil_append, Nat.le_refl, true_and, and_true, true_or, or_true, false_or, or_false, true_implies, false_implies, implies_true, not_true_eq_false, not_false_eq_true, eq_self, Nat.reduceLT, Nat.reduceLeDiff, Nat.reduceEqDiff, Nat.reduceAdd, Nat.reduceSub, Int.reduceLT, Int.reduceLE, Int.reduceEq, Int.reduceNeg, Int.reduceNe, Int.reduceAdd, Int.reduceSub, Int.reduceMul, Int.reduceToNat, Int.toNat_zero, Int.toNat_one, Int.toNat_natCast, am_cats, am_cat, am_st1, am_st2, am_clr, up2_na, up2_nj, up2_same, List.getElem?_cons_zero, List.getElem?_cons_succ, List.set_cons_zero, List.set_cons_succ, ne_eq, tk_152 hh, tk_157 hh, tk_158 hh, tk_159 hh, tk_160 hh, rk_152_11 hh, rk_152_12 hh, rk_152_13 hh, rk_152_14 hh, hN, v1, w1, w2, w3, v4, u1, u3, hj3, K0, K1, K2, K3, h0, h1, h2, h3]
              exact nx
            · rw [if_neg h3] at e
              rw [← he, e] at hQ
              have v1 := w32_c o1 o2
              have w1 := w32_c o3 p1
              have w2 := w32_c o4 p2
              have w3 := w32_c o5 p3
              refine s208_15.mpr ?_
              simp only [s208_16, s208_17, s208_18, s208_19, s208_20, s208_21, s208_22, s208_23, s208_24, s208_25, s208_26, s208_27, s208_28, s208_29, s208_30, s208_31, s208_32, s208_33, s208_34, s208_35, s208_36, s208_37, s208_38, s208_39, s208_40, s208_41, s208_42, s208_43, s208_44, s208_45, s208_46, s208_47, s208_48, s208_49, s208_50, s208_51, s208_52, s208_53, s208_54, s208_55, s208_56, s208_57, s208_58, s208_59, s208_60, s208_61, s208_62, s208_63, s208_64, s208_65, s208_66, s208_67, s208_68, s208_69, s208_70, s208_71, s208_72, s208_73, s208_74, s208_75, s208_76, s208_77, s208_78, s208_79, s208_80, s208_81, s208_82, s208_83, s208_84, s208_85, s208_86, s208_87, s208_88, s208_89, Option.toList_some, Option.toList_none, List.cons_append, List.nil_append, Nat.le_refl, true_and, and_true, true_or, or_true, false_or, or_false, true_implies, false_implies, implies_true, not_true_eq_false, not_false_eq_true, eq_self, Nat.reduceLT, Nat.reduceLeDiff, Nat.reduceEqDiff, Nat.reduceAdd, Nat.reduceSub, Int.reduceLT, Int.reduceLE, Int.reduceEq, Int.reduceNeg, Int.reduceNe, Int.reduceAdd, Int.reduceSub, Int.reduceMul, Int.reduceToNat, Int.toNat_zero, Int.toNat_one, Int.toNat_natCast, am_cats, am_cat, am_st1, am_st2, am_clr, up2_na, up2_nj, up2_same, List.getElem?_cons_zero, List.getElem?_cons_succ, List.set_cons_zero, List.set_cons_succ, ne_eq, tk_152 hh, tk_157 hh, tk_158 hh, tk_159 hh, tk_160 hh, rk_152_11 hh, rk_152_12 hh, rk_152_13 hh, rk_152_14 hh, hN, v1, w1, w2, w3, u1, u3, hj3, K0, K1, K2, K3, h0, h1, h2, h3]
              exact hQ
          · rw [if_neg h2] at e
            rw [← he, e] at hQ
            have v1 := w32_c o1 o2
            have w1 := w32_c o3 p1
            have w2 := w32_c o4 p2
            refine s208_15.mpr ?_
            simp only [s208_16, s208_17, s208_18, s208_19, s208_20, s208_21, s208_22, s208_23, s208_24, s208_25, s208_26, s208_27, s208_28, s208_29, s208_30, s208_31, s208_32, s208_33, s208_34, s208_35, s208_36, s208_37, s208_38, s208_39, s208_40, s208_41, s208_42, s208_43, s208_44, s208_45, s208_46, s208_47, s208_48, s208_49, s208_50, s208_51, s208_52, s208_53, s208_54, s208_55, s208_56, s208_57, s208_58, s208_59, s208_60, s208_61, s208_62, s208_63, s208_64, s208_65, s208_66, s208_67, s208_68, s208_69, s208_70, s208_71, Option.toList_some, Option.toList_none, List.cons_append, List.nil_append, Nat.le_refl, true_and, and_true, true_or, or_true, false_or, or_false, true_implies, false_implies, implies_true, not_true_eq_false, not_false_eq_true, eq_self, Nat.reduceLT, Nat.reduceLeDiff, Nat.reduceEqDiff, Nat.reduceAdd, Nat.reduceSub, Int.reduceLT, Int.reduceLE, Int.reduceEq, Int.reduceNeg, Int.reduceNe, Int.reduceAdd, Int.reduceSub, Int.reduceMul, Int.reduceToNat, Int.toNat_zero, Int.toNat_one, Int.toNat_natCast, am_cats, am_cat, am_st1, am_st2, am_clr, up2_na, up2_nj, up2_same, List.getElem?_cons_zero, List.getElem?_cons_succ, List.set_cons_zero, List.set_cons_succ, ne_eq, tk_152 hh, tk_157 hh, tk_158 hh, tk_159 hh, rk_152_11 hh, rk_152_12 hh, rk_152_13 hh, hN, v1, w1, w2, u1, u3, hj3, K0, K1, K2, h0, h1, h2]
            exact hQ
        · rw [if_neg h1] at e
          rw [← he, e] at hQ
          have v1 := w32_c o1 o2
          have w1 := w32_c o3 p1
          refine s208_15.mpr ?_
          simp only [s208_16, s208_17, s208_18, s208_19, s208_20, s208_21, s208_22, s208_23, s208_24, s208_25, s208_26, s208_27, s208_28, s208_29, s208_30, s208_31, s208_32, s208_33, s208_34, s208_35, s208_36, s208_37, s208_38, s208_39, s208_40, s208_41, s208_42, s208_43, s208_44, s208_45, s208_46, s208_47, s208_48, s208_49, s208_50, s208_51, s208_52, s208_53, Option.toList_some, Option.toList_none, List.cons_append, List.nil_append, Nat.le_refl, true_and, and_true, true_or, or_true, false_or, or_false, true_implies, false_implies, implies_true, not_true_eq_false, not_false_eq_true, eq_self, Nat.reduceLT, Nat.reduceLeDiff, Nat.reduceEqDiff, Nat.reduceAdd, Nat.reduceSub, Int.reduceLT, Int.reduceLE, Int.reduceEq, Int.reduceNeg, Int.reduceNe, Int.reduceAdd, Int.reduceSub, Int.reduceMul, Int.reduceToNat, Int.toNat_zero, Int.toNat_one, Int.toNat_natCast, am_cats, am_cat, am_st1, am_st2, am_clr, up2_na, up2_nj, up2_same, List.getElem?_cons_zero, List.getElem?_cons_succ, List.set_cons_zero, List.set_cons_succ, ne_eq, tk_152 hh, tk_157 hh, tk_158 hh, rk_152_11 hh, rk_152_12 hh, hN, v1, w1, u1, u3, hj3, K0, K1, h0, h1]
          exact hQ
      · rw [if_neg h0] at e
        rw [← he, e] at hQ
        have v1 := w32_c o1 o2
        refine s208_15.mpr ?_
        simp only [s208_16, s208_17, s208_18, s208_19, s208_20, s208_21, s208_22, s208_23, s208_24, s208_25, s208_26, s208_27, s208_28, s208_29, s208_30, s208_31, s208_32, s208_33, s208_34, s208_35, Option.toList_some, Option.toList_none, List.cons_append, List.nil_append, Nat.le_refl, true_and, and_true, true_or, or_true, false_or, or_false, true_implies, false_implies, implies_true, not_true_eq_false, not_false_eq_true, eq_self, Nat.reduceLT, Nat.reduceLeDiff, Nat.reduceEqDiff, Nat.reduceAdd, Nat.reduceSub, Int.reduceLT, Int.reduceLE, Int.reduceEq, Int.reduceNeg, Int.reduceNe, Int.reduceAdd, Int.reduceSub, Int.reduceMul, Int.reduceToNat, Int.toNat_zero, Int.toNat_one, Int.toNat_natCast, am_cats, am_cat, am_st1, am_st2, am_clr, up2_na, up2_nj, up2_same, List.getElem?_cons_zero, List.getElem?_cons_succ, List.set_cons_zero, List.set_cons_succ, ne_eq, tk_152 hh, tk_157 hh, rk_152_11 hh, hN, v1, u1, u3, hj3, K0, h0]
        exact hQ
theorem x208 (hh : hp T R) {n N : Nat} (hb : ∀ i, i < 200 → -128 ≤ I 162 i ∧ I 162 i ≤ 127) (hn : n ≤ 12) (hN : I 152 4 = N) (hN2 : N ≤ 200) (h17 : 0 ≤ I 152 17 ∧ I 152 17 ≤ 200) (h1 : 16 * (n : Int) ≤ I 152 17) (hQ : Q (some (.inl (ckM (up2 I 152 17 0) n N 0))) (185, s, T, up2 I 152 17 0, J, R)) : wpc codeT mX (d + 1) 208 [.inr (.inr (some 152)), .inl (n : Int)] (185, s, T, I, J, R) Q := by
  have u1 : ¬ (n : Int) < 0 := by omega
  obtain ⟨z, hz⟩ : ∃ z : Nat, I 152 17 = z := ⟨(I 152 17).toNat, by omega⟩
  have e16 : Int.tdiv (I 152 17) 16 = ((z / 16 : Nat) : Int) := by rw [hz, Int.tdiv_eq_ediv_of_nonneg (by omega)]; omega
  have o1 : z / 16 ≤ 2000000000 := by omega
  have u2 : ¬ ((z / 16 : Nat) : Int) < (n : Int) := by omega
  have lp := p208 (d := d) (s := s) (J := J) (I := up2 I 152 17 0) hh (fun i hi => by rw [up2_na (by decide)]; exact hb i hi) hn ((up2_nj (by decide)).trans hN) hN2 hQ N 0 (by omega) (by omega) rfl
  have v1 := w32_c e16 o1
  simp only [s208_0, s208_1, s208_2, s208_3, s208_4, s208_5, s208_6, s208_7, s208_8, s208_9, s208_10, s208_11, s208_12, s208_13, s208_14, e208, Option.toList_some, Option.toList_none, List.cons_append, List.nil_append, Nat.le_refl, true_and, and_true, true_or, or_true, false_or, or_false, true_implies, false_implies, implies_true, not_true_eq_false, not_false_eq_true, eq_self, Nat.reduceLT, Nat.reduceLeDiff, Nat.reduceEqDiff, Nat.reduceAdd, Nat.reduceSub, Int.reduceLT, Int.reduceLE, Int.reduceEq, Int.reduceNeg, Int.reduceNe, Int.reduceAdd, Int.reduceSub, Int.reduceMul, Int.reduceToNat, Int.toNat_zero, Int.toNat_one, Int.toNat_natCast, am_cats, am_cat, am_st1, am_st2, am_clr, up2_na, up2_nj, up2_same, List.getElem?_cons_zero, List.getElem?_cons_succ, List.set_cons_zero, List.set_cons_succ, ne_eq, tk_152 hh, u1, u2, v1]
  exact lp
end
section
variable {L s d : Nat} {X : Nat → Int}
theorem pr_check (hL : L ≤ 3072) (hX : ∀ j, rg32 (X j)) (hd : 40 ≤ d) : pr L X s LKP d 127 208 1 false false := by
  refine pr_mk (cx := cn132) (cm := cn176) (nx := 1) (nm := 1) hL hX (cn_all 132 (by decide) cn132 rfl) (cn_all 176 (by decide) cn176 rfl) rfl hd (fun as g hl hr hH hs hP => ?_)
  obtain ⟨a, rfl⟩ := len1 hl
  obtain ⟨c, s, T, I, J, R⟩ := g
  obtain ⟨d, rfl⟩ : ∃ e, d = e + 1 := ⟨d - 1, by omega⟩
  have hc : c = 185 := hH.1
  subst hc
  have hh := hp_of (eH5_of hH)
  have hP : LK I := hP
  obtain ⟨l0, l1, l2, l3, l4, l5, l6, l7, l8, l9, l10, l11, l12, l13, l14, l15⟩ := hP
  have e4 : I 17 3 = I 152 4 := l6
  have e8 : I 1 1 = I 152 17 := l8
  have b4 : 0 ≤ I 17 3 ∧ I 17 3 ≤ 200 := ebd hH (by decide) (by decide) (by decide)
  have b8 : 0 ≤ I 152 17 ∧ I 152 17 ≤ 200 := ebd hH (by decide) (by decide) (by decide)
  have hb : ∀ i, i < 200 → -128 ≤ I 162 i ∧ I 162 i ≤ 127 := fun i hi => ebd hH (by decide) hi ((bI_hi (by decide)).trans (by decide))
  have hra := hr a (List.mem_cons_self ..)
  unfold rg32 at hra
  obtain ⟨N, hN⟩ : ∃ n : Nat, I 17 3 = n := ⟨(I 17 3).toNat, by omega⟩
  show wpc codeT mX (d + 1) 127 [.inr (.inr (some 0)), .inl a] _ _
  by_cases hg : (0 ≤ a ∧ a ≤ 12) ∧ 16 * a ≤ I 1 1
  · obtain ⟨g1, g2⟩ := hg
    obtain ⟨n, rfl⟩ : ∃ n : Nat, a = n := ⟨a.toNat, by omega⟩
    have hb' : ∀ i, i < 200 → -128 ≤ up2 I 1 1 0 162 i ∧ up2 I 1 1 0 162 i ≤ 127 := fun i hi => by rw [up2_na (by decide)]; exact hb i hi
    have h17 : up2 I 1 1 0 152 17 = I 152 17 := up2_na (by decide)
    refine x127 hh (by omega) hN (by omega) g2 (fun _ hH1 m1 s1 => ⟨_, rfl, ?_⟩)
    show wpc codeT mX (d + 1) 208 [.inr (.inr (some 152)), .inl (n : Int)] (185, s, T, up2 I 1 1 0, J, R) _
    refine x208 hh hb' (by omega) ((up2_na (by decide)).trans (e4.symm.trans hN)) (by omega) (by rw [h17]; exact b8) (by rw [h17, ← e8]; exact g2) (fun _ hH2 m2 => ⟨_, rfl, fun z => (by cases z), ?_⟩)
    have n8 : twn 1 1 152 17 (up2 (up2 I 1 1 0) 152 17 0) := by
      unfold twn
      rw [up2_same, up2_na (by decide), up2_same]
    have n9 : lkY (up2 (up2 I 1 1 0) 152 17 0) := by
      intro j hj
      rw [up2_na (by decide), up2_same] at hj
      omega
    refine ⟨rdS_2 (twn_S 0 0 152 0) (by decide +kernel : (disj cn132.2.2.2.1 _ && disj cn176.2.2.2.1 _) = true) m1 m2 l0, rdS_2 (twn_S 0 1 152 1) (by decide +kernel : (disj cn132.2.2.2.1 _ && disj cn176.2.2.2.1 _) = true) m1 m2 l1, rdS_2 (twn_S 0 2 152 2) (by decide +kernel : (disj cn132.2.2.2.1 _ && disj cn176.2.2.2.1 _) = true) m1 m2 l2, rdS_2 (twn_S 0 3 152 5) (by decide +kernel : (disj cn132.2.2.2.1 _ && disj cn176.2.2.2.1 _) = true) m1 m2 l3, rdS_2 (twn_S 0 4 152 6) (by decide +kernel : (disj cn132.2.2.2.1 _ && disj cn176.2.2.2.1 _) = true) m1 m2 l4, rdS_2 (twn_S 3 3 152 3) (by decide +kernel : (disj cn132.2.2.2.1 _ && disj cn176.2.2.2.1 _) = true) m1 m2 l5, rdS_2 (twn_S 17 3 152 4) (by decide +kernel : (disj cn132.2.2.2.1 _ && disj cn176.2.2.2.1 _) = true) m1 m2 l6, rdS_2 (twn_S 102 3 152 46) (by decide +kernel : (disj cn132.2.2.2.1 _ && disj cn176.2.2.2.1 _) = true) m1 m2 l7, ?_, ?_, rdS_2 (lkS_S) (by decide +kernel : (disj cn132.2.2.2.1 _ && disj cn176.2.2.2.1 _) = true) m1 m2 l10, rdS_2 (lkT_S) (by decide +kernel : (disj cn132.2.2.2.1 _ && disj cn176.2.2.2.1 _) = true) m1 m2 l11, rdS_2 (lkB_S) (by decide +kernel : (disj cn132.2.2.2.1 _ && disj cn176.2.2.2.1 _) = true) m1 m2 l12, rdS_2 (lkO_S) (by decide +kernel : (disj cn132.2.2.2.1 _ && disj cn176.2.2.2.1 _) = true) m1 m2 l13, rdS_2 (lkC_S) (by decide +kernel : (disj cn132.2.2.2.1 _ && disj cn176.2.2.2.1 _) = true) m1 m2 l14, rdS_2 (lkQ_S) (by decide +kernel : (disj cn132.2.2.2.1 _ && disj cn176.2.2.2.1 _) = true) m1 m2 l15⟩
    · exact n8
    · exact n9
  · have keep : LKP (185, s, T, I, J, R) := ⟨l0, l1, l2, l3, l4, l5, l6, l7, l8, l9, l10, l11, l12, l13, l14, l15⟩
    have go : ∀ Q : Option AV → AH → Prop, Q (some (.inl (-2))) (185, s, T, I, J, R) → wpc codeT mX (d + 1) 127 [.inr (.inr (some 0)), .inl a] (185, s, T, I, J, R) Q := by
      intro Q hQ
      by_cases h1 : 0 ≤ a ∧ a ≤ 12
      · have h2 : w32 (16 * a) = 16 * a := w32_eq (by omega) (by omega)
        have h3 : I 1 1 < 16 * a := by
          clear h2
          omega
        simp only [s127_0, s127_1, s127_2, s127_3, s127_4, s127_5, s127_6, s127_7, s127_8, s127_9, s127_10, s127_11, s127_12, s127_13, e127, Option.toList_some, Option.toList_none, List.cons_append, List.nil_append, Nat.le_refl, true_and, and_true, true_or, or_true, false_or, or_false, true_implies, false_implies, implies_true, not_true_eq_false, not_false_eq_true, eq_self, Nat.reduceLT, Nat.reduceLeDiff, Nat.reduceEqDiff, Nat.reduceAdd, Nat.reduceSub, Int.reduceLT, Int.reduceLE, Int.reduceEq, Int.reduceNeg, Int.reduceNe, Int.reduceAdd, Int.reduceSub, Int.reduceMul, Int.reduceToNat, Int.toNat_zero, Int.toNat_one, Int.toNat_natCast, am_cats, am_cat, am_st1, am_st2, am_clr, up2_na, up2_nj, up2_same, List.getElem?_cons_zero, List.getElem?_cons_succ, List.set_cons_zero, List.set_cons_succ, ne_eq, tk_0 hh, tk_1 hh, rk_0_5 hh, k18, i10, h1, h2, h3]
        exact hQ
      · simp only [s127_0, s127_1, s127_2, s127_3, s127_4, s127_12, s127_13, e127, Option.toList_some, Option.toList_none, List.cons_append, List.nil_append, Nat.le_refl, true_and, and_true, true_or, or_true, false_or, or_false, true_implies, false_implies, implies_true, not_true_eq_false, not_false_eq_true, eq_self, Nat.reduceLT, Nat.reduceLeDiff, Nat.reduceEqDiff, Nat.reduceAdd, Nat.reduceSub, Int.reduceLT, Int.reduceLE, Int.reduceEq, Int.reduceNeg, Int.reduceNe, Int.reduceAdd, Int.reduceSub, Int.reduceMul, Int.reduceToNat, Int.toNat_zero, Int.toNat_one, Int.toNat_natCast, am_cats, am_cat, am_st1, am_st2, am_clr, up2_na, up2_nj, up2_same, List.getElem?_cons_zero, List.getElem?_cons_succ, List.set_cons_zero, List.set_cons_succ, ne_eq, tk_0 hh, k18, i10, h1]
        exact hQ
    have fin : ∀ Q : Option AV → AH → Prop, Q (some (.inl (-2))) (185, s, T, I, J, R) → wpc codeT mX (d + 1) 208 [.inr (.inr (some 152)), .inl a] (185, s, T, I, J, R) Q := by
      intro Q hQ
      by_cases h1 : a < 0
      · simp only [s208_0, s208_1, s208_8, s208_9, e208, Option.toList_some, Option.toList_none, List.cons_append, List.nil_append, Nat.le_refl, true_and, and_true, true_or, or_true, false_or, or_false, true_implies, false_implies, implies_true, not_true_eq_false, not_false_eq_true, eq_self, Nat.reduceLT, Nat.reduceLeDiff, Nat.reduceEqDiff, Nat.reduceAdd, Nat.reduceSub, Int.reduceLT, Int.reduceLE, Int.reduceEq, Int.reduceNeg, Int.reduceNe, Int.reduceAdd, Int.reduceSub, Int.reduceMul, Int.reduceToNat, Int.toNat_zero, Int.toNat_one, Int.toNat_natCast, am_cats, am_cat, am_st1, am_st2, am_clr, up2_na, up2_nj, up2_same, List.getElem?_cons_zero, List.getElem?_cons_succ, List.set_cons_zero, List.set_cons_succ, ne_eq, h1]
        exact hQ
      · obtain ⟨z, hz⟩ : ∃ z : Nat, I 152 17 = z := ⟨(I 152 17).toNat, by omega⟩
        have e16 : Int.tdiv (I 152 17) 16 = ((z / 16 : Nat) : Int) := by rw [hz, Int.tdiv_eq_ediv_of_nonneg (by omega)]; omega
        have o1 : z / 16 ≤ 2000000000 := by omega
        have u2 : ((z / 16 : Nat) : Int) < a := by omega
        have v1 := w32_c e16 o1
        simp only [s208_0, s208_1, s208_2, s208_3, s208_4, s208_5, s208_6, s208_7, s208_8, s208_9, e208, Option.toList_some, Option.toList_none, List.cons_append, List.nil_append, Nat.le_refl, true_and, and_true, true_or, or_true, false_or, or_false, true_implies, false_implies, implies_true, not_true_eq_false, not_false_eq_true, eq_self, Nat.reduceLT, Nat.reduceLeDiff, Nat.reduceEqDiff, Nat.reduceAdd, Nat.reduceSub, Int.reduceLT, Int.reduceLE, Int.reduceEq, Int.reduceNeg, Int.reduceNe, Int.reduceAdd, Int.reduceSub, Int.reduceMul, Int.reduceToNat, Int.toNat_zero, Int.toNat_one, Int.toNat_natCast, am_cats, am_cat, am_st1, am_st2, am_clr, up2_na, up2_nj, up2_same, List.getElem?_cons_zero, List.getElem?_cons_succ, List.set_cons_zero, List.set_cons_succ, ne_eq, tk_152 hh, h1, u2, v1]
        exact hQ
    exact go _ (fun _ hH1 m1 s1 => ⟨-2, rfl, fin _ (fun _ hH2 m2 => ⟨-2, rfl, fun z => (by cases z), keep⟩)⟩)
end
