/-! the law by hand, 10: task -/
/-- a number's rest behind k digits, its digits, their sum, which are above 0 -/
def qd (D : Nat) : Nat → Nat
  | 0 => D
  | k + 1 => qd D k / 10
def dgt (D k : Nat) : Nat := qd D k % 10
def sdN (D : Nat) : Nat → Nat
  | 0 => 0
  | k + 1 => sdN D k + dgt D k
def obN (D : Nat) : Nat → Nat
  | 0 => 0
  | k + 1 => obN D k + (if 0 < dgt D k then 2 ^ k else 0)
theorem qd_le (D : Nat) : ∀ k, qd D k ≤ D
  | 0 => Nat.le_refl _
  | k + 1 => by have := qd_le D k; show qd D k / 10 ≤ D; omega
theorem dgt_9 (D k : Nat) : dgt D k ≤ 9 := by unfold dgt; omega
theorem sdN_le (D : Nat) : ∀ k, sdN D k ≤ 9 * k
  | 0 => Nat.le_refl _
  | k + 1 => by have := sdN_le D k; have := dgt_9 D k; show sdN D k + dgt D k ≤ 9 * (k + 1); omega
theorem obN_lt (D : Nat) : ∀ k, obN D k < 2 ^ k
  | 0 => Nat.one_pos
  | k + 1 => by
    have := obN_lt D k
    show obN D k + (if 0 < dgt D k then 2 ^ k else 0) < 2 ^ (k + 1)
    rw [Nat.pow_succ]
    split <;> omega
theorem qd_0 {D k : Nat} (h : qd D k = 0) : ∀ r, qd D (k + r) = 0
  | 0 => h
  | r + 1 => by have := qd_0 h r; show qd D (k + r) / 10 = 0; omega
theorem sd_tail {D k : Nat} (h : qd D k = 0) : ∀ r, sdN D (k + r) = sdN D k ∧ obN D (k + r) = obN D k
  | 0 => ⟨rfl, rfl⟩
  | r + 1 => by
    obtain ⟨h1, h2⟩ := sd_tail h r
    have h3 : dgt D (k + r) = 0 := by unfold dgt; rw [qd_0 h r]
    refine ⟨?_, ?_⟩
    · show sdN D (k + r) + dgt D (k + r) = _
      omega
    · show obN D (k + r) + (if 0 < dgt D (k + r) then 2 ^ (k + r) else 0) = _
      rw [h3, if_neg (by omega)]
      exact h2
theorem sd_pos {D : Nat} (h0 : 0 < D) : ∀ k, qd D k = 0 → 0 < sdN D k
  | 0, h => by have h : D = 0 := h; omega
  | k + 1, h => by
    show 0 < sdN D k + dgt D k
    by_cases h1 : qd D k = 0
    · have := sd_pos h0 k h1; omega
    · have h : qd D k / 10 = 0 := h
      unfold dgt
      omega
theorem or_all : ∀ k, k < 6 → ∀ v, v < 2 ^ k → (Int32.ofInt (v : Nat) ||| Int32.ofInt (2 ^ k : Nat)).toInt = ((v + 2 ^ k : Nat) : Int) := by decide +kernel
theorem or_nil : ∀ v, v < 64 → (Int32.ofInt (v : Nat) ||| Int32.ofInt 0).toInt = (v : Int) := by decide +kernel
theorem or_st (D : Nat) {k : Nat} (hk : k < 6) : (Int32.ofInt (obN D k : Int) ||| Int32.ofInt (if 0 < (dgt D k : Int) then (Int32.ofInt 1 <<< (Int32.ofInt (k : Int) &&& 31)).toInt else 0)).toInt = (obN D (k + 1) : Int) := by
  have h1 := obN_lt D k
  show _ = ((obN D k + (if 0 < dgt D k then 2 ^ k else 0) : Nat) : Int)
  by_cases h : 0 < dgt D k
  · rw [if_pos (by omega), if_pos h, shl1_all k (by omega)]
    have := or_all k hk _ h1
    rw [show ((2 ^ k : Nat) : Int) = 2 ^ k by norm_cast] at this
    exact this
  · rw [if_neg (by omega), if_neg h]
    have h2 : 2 ^ k ≤ 2 ^ 6 := Nat.pow_le_pow_right (by decide) (by omega)
    have := or_nil _ (show obN D k < 64 by omega)
    rw [this, Nat.add_zero]
theorem td10 (a : Nat) : Int.tdiv (a : Int) 10 = ((a / 10 : Nat) : Int) := by rw [Int.tdiv_eq_ediv_of_nonneg (by omega)]; omega
section
variable {d s : Nat} {T : Nat → Nat × Nat} {I J : Nat → Nat → Int} {R : Nat → Nat → Option Nat} {Q : Option AV → AH → Prop}
/-- the class's heap behind k digits of a new task; the reference's -/
def tkH (I : Nat → Nat → Int) (z D k : Nat) : Nat → Nat → Int := fun a j => if a = 5 + z ∧ j < k then (dgt D j : Int) else if a = 15 ∧ j = z then (obN D k : Int) else if a = 16 ∧ j = z then (sdN D k : Int) else I a j
def tkM (I : Nat → Nat → Int) (z D k : Nat) : Nat → Nat → Int := fun a j => if a = 154 ∧ 6 * z ≤ j ∧ j < 6 * z + k then (dgt D (j - 6 * z) : Int) else I a j
theorem tkH_o {z D k a j : Nat} (h : ¬ (a = 5 + z) ∧ ¬ (a = 15) ∧ ¬ (a = 16)) : tkH I z D k a j = I a j := by
  unfold tkH
  rw [if_neg (fun x => h.1 x.1), if_neg (fun x => h.2.1 x.1), if_neg (fun x => h.2.2 x.1)]
theorem tkH_15 {z D k : Nat} (hz : z < 8) : tkH I z D k 15 z = (obN D k : Int) := by
  unfold tkH
  rw [if_neg (by omega), if_pos ⟨rfl, rfl⟩]
theorem tkH_16 {z D k : Nat} (hz : z < 8) : tkH I z D k 16 z = (sdN D k : Int) := by
  unfold tkH
  rw [if_neg (by omega), if_neg (by omega), if_pos ⟨rfl, rfl⟩]
theorem tkH_0 {z D : Nat} (hz : z < 8) : up2 (up2 I 15 z 0) 16 z 0 = tkH I z D 0 := by
  funext a j
  unfold up2 tkH
  have h0 : ¬ (a = 5 + z ∧ j < 0) := by omega
  by_cases h1 : a = 16 ∧ j = z
  · have h2 : ¬ (a = 15 ∧ j = z) := by omega
    rw [if_pos h1, if_neg h0, if_neg h2, if_pos h1]; rfl
  · by_cases h2 : a = 15 ∧ j = z
    · rw [if_neg h1, if_pos h2, if_neg h0, if_pos h2]; rfl
    · rw [if_neg h1, if_neg h2, if_neg h0, if_neg h2, if_neg h1]
theorem tkH_s {z D k : Nat} (hz : z < 8) : up2 (up2 (up2 (tkH I z D k) (5 + z) k (dgt D k : Int)) 16 z (sdN D (k + 1) : Int)) 15 z (obN D (k + 1) : Int) = tkH I z D (k + 1) := by
  funext a j
  by_cases h1 : a = 15 ∧ j = z
  · obtain ⟨rfl, rfl⟩ := h1
    rw [up2_same, tkH_15 hz]
  by_cases h2 : a = 16 ∧ j = z
  · obtain ⟨rfl, rfl⟩ := h2
    rw [up2_na (by decide), up2_same, tkH_16 hz]
  rw [up2_ne _ _ h1, up2_ne _ _ h2]
  by_cases h3 : a = 5 + z ∧ j = k
  · obtain ⟨rfl, rfl⟩ := h3
    rw [up2_same]
    unfold tkH
    rw [if_pos ⟨rfl, Nat.lt_succ_self _⟩]
  rw [up2_ne _ _ h3]
  unfold tkH
  by_cases h4 : a = 5 + z ∧ j < k
  · rw [if_pos h4, if_pos (show a = 5 + z ∧ j < k + 1 by omega)]
  · rw [if_neg h4, if_neg (show ¬ (a = 5 + z ∧ j < k + 1) by omega), if_neg h1, if_neg h2, if_neg h1, if_neg h2]
theorem x20_loop (hh : hp T R) {z D : Nat} (hz : z < 8) (h3 : I 3 3 = z) (hD : D ≤ 2147483647) {S : Nat} (hS : S ≤ 6) {mo ha : Int} (hQ : ∀ l7, wp codeT mX d 20 72 [some (.inr (.inr (some 3))), some (.inl (D : Int)), some (.inl mo), some (.inl ha), some (.inl (S : Int)), some (.inl (qd D S : Int)), some (.inl (S : Int)), l7] [] (185, s, T, tkH I z D S, J, R) Q) : ∀ (r k : Nat), k + r = S → ∀ l7, wp codeT mX d 20 24 [some (.inr (.inr (some 3))), some (.inl (D : Int)), some (.inl mo), some (.inl ha), some (.inl (S : Int)), some (.inl (qd D k : Int)), some (.inl (k : Int)), l7] [] (185, s, T, tkH I z D k, J, R) Q := by
  intro r
  induction r with
  | zero =>
    intro k hk l7
    have hk : k = S := by omega
    subst hk
    have u : ¬ (k : Int) < (k : Int) := by omega
    refine s20_24.mpr ?_
    simp only [s20_25, s20_26, Option.toList_some, Option.toList_none, List.cons_append, List.nil_append, Nat.le_refl, true_and, and_true, true_or, or_true, false_or, or_false, true_implies, false_implies, implies_true, not_true_eq_false, not_false_eq_true, eq_self, Nat.reduceLT, Nat.reduceLeDiff, Nat.reduceEqDiff, Nat.reduceAdd, Nat.reduceSub, Int.reduceLT, Int.reduceLE, Int.reduceEq, Int.reduceNeg, Int.reduceNe, Int.reduceAdd, Int.reduceSub, Int.reduceMul, Int.reduceToNat, Int.toNat_zero, Int.toNat_one, Int.toNat_natCast, am_cats, am_cat, am_st1, am_st2, am_clr, up2_na, up2_nj, up2_same, List.getElem?_cons_zero, List.getElem?_cons_succ, List.set_cons_zero, List.set_cons_succ, ne_eq, Int.lt_irrefl]
    exact hQ l7
  | succ r ih =>
    intro k hk l7
    have nx := ih (k + 1) (by omega)
    have hk6 : k < 6 := by omega
    have u1 : (k : Int) < (S : Int) ∧ (k : Int) < 6 := by omega
    have u2 : 0 ≤ (z : Int) ∧ (z : Int) < ((8 : Nat) : Int) := by omega
    have u3 : 0 ≤ (k : Int) ∧ (k : Int) < ((6 : Nat) : Int) := by omega
    have u4 : 5 + z < 185 ∧ 3 ≠ 5 + z ∧ 16 ≠ 5 + z ∧ 15 ≠ 5 + z := by omega
    have hq := qd_le D k
    have h9 := dgt_9 D k
    have hs9 := sdN_le D k
    have e3 : tkH I z D k 3 3 = z := (tkH_o (by omega)).trans h3
    have e15 := tkH_15 (I := I) (D := D) (k := k) hz
    have e16 := tkH_16 (I := I) (D := D) (k := k) hz
    have o1 : ((qd D k : Nat) : Int) - ((qd D k / 10 : Nat) : Int) * 10 = (dgt D k : Int) := by unfold dgt; omega
    have o2 : dgt D k ≤ 2000000000 := by omega
    have o3 : qd D k / 10 ≤ 2000000000 := by omega
    have o4 : (sdN D k : Int) + (dgt D k : Int) = (sdN D (k + 1) : Int) := by show _ = ((sdN D k + dgt D k : Nat) : Int); omega
    have o5 : sdN D (k + 1) ≤ 2000000000 := by have := sdN_le D (k + 1); omega
    have o6 : (k : Int) + 1 = ((k + 1 : Nat) : Int) := by omega
    have o7 : k + 1 ≤ 2000000000 := by omega
    have so := or_st D hk6
    have hs := tkH_s (I := I) (D := D) (k := k) hz
    have p10 : (10 : Int) ≠ 0 := by decide
    have v1 := w32_c o1 o2
    have v2 := w32_c (rfl : ((qd D k / 10 : Nat) : Int) = ((qd D k / 10 : Nat) : Int)) o3
    have v3 := w32_c o4 o5
    have v4 := w32_c o6 o7
    refine s20_24.mpr ?_
    by_cases hd0 : 0 < (dgt D k : Int)
    · rw [if_pos hd0] at so
      simp only [s20_0, s20_1, s20_2, s20_3, s20_4, s20_5, s20_6, s20_7, s20_8, s20_9, s20_10, s20_11, s20_12, s20_13, s20_14, s20_15, s20_16, s20_17, s20_18, s20_19, s20_20, s20_21, s20_22, s20_23, s20_25, s20_26, s20_27, s20_28, s20_29, s20_30, s20_31, s20_32, s20_33, s20_34, s20_35, s20_36, s20_37, s20_38, s20_39, s20_40, s20_41, s20_42, s20_43, s20_44, s20_45, s20_46, s20_47, s20_48, s20_49, s20_50, s20_51, s20_52, s20_53, s20_54, s20_55, s20_56, s20_57, s20_58, s20_59, s20_60, s20_61, s20_62, s20_63, s20_64, s20_65, s20_66, s20_67, s20_68, s20_69, s20_70, s20_71, s20_72, s20_73, s20_74, s20_75, s20_76, s20_77, s20_78, s20_79, s20_80, s20_81, s20_82, s20_83, s20_84, s20_85, s20_86, s20_87, s20_88, s20_89, s20_90, s20_91, s20_92, s20_93, s20_94, s20_95, s20_96, s20_97, s20_98, Option.toList_some, Option.toList_none, List.cons_append, List.nil_append, Nat.le_refl, true_and, and_true, true_or, or_true, false_or, or_false, true_implies, false_implies, implies_true, not_true_eq_false, not_false_eq_true, eq_self, Nat.reduceLT, Nat.reduceLeDiff, Nat.reduceEqDiff, Nat.reduceAdd, Nat.reduceSub, Int.reduceLT, Int.reduceLE, Int.reduceEq, Int.reduceNeg, Int.reduceNe, Int.reduceAdd, Int.reduceSub, Int.reduceMul, Int.reduceToNat, Int.toNat_zero, Int.toNat_one, Int.toNat_natCast, am_cats, am_cat, am_st1, am_st2, am_clr, up2_na, up2_nj, up2_same, List.getElem?_cons_zero, List.getElem?_cons_succ, List.set_cons_zero, List.set_cons_succ, ne_eq, tk_3 hh, tk_4 hh, tk_15 hh, tk_16 hh, rk_3_0 hh, rk_3_4 hh, rk_3_5 hh, gk_4 hh hz, tg_5 hh hz, td10, u1, u2, u3, u4, e3, e15, e16, v1, v2, v3, v4, hd0, so, hs]
      exact nx _
    · rw [if_neg hd0] at so
      simp only [s20_0, s20_1, s20_2, s20_3, s20_4, s20_5, s20_6, s20_7, s20_8, s20_9, s20_10, s20_11, s20_12, s20_13, s20_14, s20_15, s20_16, s20_17, s20_18, s20_19, s20_20, s20_21, s20_22, s20_23, s20_25, s20_26, s20_27, s20_28, s20_29, s20_30, s20_31, s20_32, s20_33, s20_34, s20_35, s20_36, s20_37, s20_38, s20_39, s20_40, s20_41, s20_42, s20_43, s20_44, s20_45, s20_46, s20_47, s20_48, s20_49, s20_50, s20_51, s20_52, s20_53, s20_54, s20_55, s20_56, s20_57, s20_58, s20_59, s20_60, s20_61, s20_62, s20_63, s20_64, s20_65, s20_66, s20_67, s20_68, s20_69, s20_70, s20_71, s20_72, s20_73, s20_74, s20_75, s20_76, s20_77, s20_78, s20_79, s20_80, s20_81, s20_82, s20_83, s20_84, s20_85, s20_86, s20_87, s20_88, s20_89, s20_90, s20_91, s20_92, s20_93, s20_94, s20_95, s20_96, s20_97, s20_98, Option.toList_some, Option.toList_none, List.cons_append, List.nil_append, Nat.le_refl, true_and, and_true, true_or, or_true, false_or, or_false, true_implies, false_implies, implies_true, not_true_eq_false, not_false_eq_true, eq_self, Nat.reduceLT, Nat.reduceLeDiff, Nat.reduceEqDiff, Nat.reduceAdd, Nat.reduceSub, Int.reduceLT, Int.reduceLE, Int.reduceEq, Int.reduceNeg, Int.reduceNe, Int.reduceAdd, Int.reduceSub, Int.reduceMul, Int.reduceToNat, Int.toNat_zero, Int.toNat_one, Int.toNat_natCast, am_cats, am_cat, am_st1, am_st2, am_clr, up2_na, up2_nj, up2_same, List.getElem?_cons_zero, List.getElem?_cons_succ, List.set_cons_zero, List.set_cons_succ, ne_eq, tk_3 hh, tk_4 hh, tk_15 hh, tk_16 hh, rk_3_0 hh, rk_3_4 hh, rk_3_5 hh, gk_4 hh hz, tg_5 hh hz, td10, u1, u2, u3, u4, e3, e15, e16, v1, v2, v3, v4, hd0, so, hs]
      exact nx _
theorem x20_no (hh : hp T R) {D mo ha S : Int} (h : D ≤ 0 ∨ 8 ≤ I 3 3) (hQ : Q (some (.inl (-1))) (185, s, T, I, J, R)) : wpc codeT mX d 20 [.inr (.inr (some 3)), .inl D, .inl mo, .inl ha, .inl S] (185, s, T, I, J, R) Q := by
  simp only [s20_0, s20_1, s20_2, s20_3, s20_4, s20_5, s20_6, s20_7, e20, Option.toList_some, Option.toList_none, List.cons_append, List.nil_append, Nat.le_refl, true_and, and_true, true_or, or_true, false_or, or_false, true_implies, false_implies, implies_true, not_true_eq_false, not_false_eq_true, eq_self, Nat.reduceLT, Nat.reduceLeDiff, Nat.reduceEqDiff, Nat.reduceAdd, Nat.reduceSub, Int.reduceLT, Int.reduceLE, Int.reduceEq, Int.reduceNeg, Int.reduceNe, Int.reduceAdd, Int.reduceSub, Int.reduceMul, Int.reduceToNat, Int.toNat_zero, Int.toNat_one, Int.toNat_natCast, am_cats, am_cat, am_st1, am_st2, am_clr, up2_na, up2_nj, up2_same, List.getElem?_cons_zero, List.getElem?_cons_succ, List.set_cons_zero, List.set_cons_succ, ne_eq, tk_3 hh]
  exact ⟨fun h1 => ⟨fun h2 => absurd h (by omega), fun _ => hQ⟩, fun _ => hQ⟩
theorem x20 (hh : hp T R) {z D : Nat} (hz : z < 8) (h3 : I 3 3 = z) (hD0 : 0 < D) (hD : D ≤ 2147483647) {S : Nat} (hS : S ≤ 6) {mo ha : Int} (q0 : qd D S ≠ 0 → Q (some (.inl (-1))) (185, s, T, tkH I z D S, J, R)) (q1 : qd D S = 0 → Q (some (.inl (z : Int))) (185, s, T, up2 (up2 (up2 (tkH I z D S) 13 z mo) 14 z ha) 3 3 ((z + 1 : Nat) : Int), J, R)) : wpc codeT mX d 20 [.inr (.inr (some 3)), .inl (D : Int), .inl mo, .inl ha, .inl (S : Int)] (185, s, T, I, J, R) Q := by
  have u0 : 0 < (D : Int) ∧ (z : Int) < 8 := by omega
  have u2 : 0 ≤ (z : Int) ∧ (z : Int) < ((8 : Nat) : Int) := by omega
  have n1 : 3 ≠ 5 + z := by omega
  have e3 : tkH I z D S 3 3 = z := (tkH_o (by omega)).trans h3
  have o1 : (z : Int) + 1 = ((z + 1 : Nat) : Int) := by omega
  have o2 : z + 1 ≤ 2000000000 := by omega
  have o3 : ((z + 1 : Nat) : Int) - 1 = (z : Int) := by omega
  have o4 : z ≤ 2000000000 := by omega
  have lp := x20_loop (d := d) (s := s) (J := J) (Q := Q) hh hz h3 hD hS (mo := mo) (ha := ha) (by
    intro l7
    have v1 := w32_c o1 o2
    have v2 := w32_c o3 o4
    refine s20_72.mpr (s20_73.mpr ⟨fun h => ?_, fun h => ?_⟩)
    · simp only [s20_74, s20_75, Option.toList_some, Option.toList_none, List.cons_append, List.nil_append, Nat.le_refl, true_and, and_true, true_or, or_true, false_or, or_false, true_implies, false_implies, implies_true, not_true_eq_false, not_false_eq_true, eq_self, Nat.reduceLT, Nat.reduceLeDiff, Nat.reduceEqDiff, Nat.reduceAdd, Nat.reduceSub, Int.reduceLT, Int.reduceLE, Int.reduceEq, Int.reduceNeg, Int.reduceNe, Int.reduceAdd, Int.reduceSub, Int.reduceMul, Int.reduceToNat, Int.toNat_zero, Int.toNat_one, Int.toNat_natCast, am_cats, am_cat, am_st1, am_st2, am_clr, up2_na, up2_nj, up2_same, List.getElem?_cons_zero, List.getElem?_cons_succ, List.set_cons_zero, List.set_cons_succ, ne_eq]
      exact q0 (by omega)
    · simp only [s20_76, s20_77, s20_78, s20_79, s20_80, s20_81, s20_82, s20_83, s20_84, s20_85, s20_86, s20_87, s20_88, s20_89, s20_90, s20_91, s20_92, s20_93, s20_94, s20_95, s20_96, s20_97, s20_98, Option.toList_some, Option.toList_none, List.cons_append, List.nil_append, Nat.le_refl, true_and, and_true, true_or, or_true, false_or, or_false, true_implies, false_implies, implies_true, not_true_eq_false, not_false_eq_true, eq_self, Nat.reduceLT, Nat.reduceLeDiff, Nat.reduceEqDiff, Nat.reduceAdd, Nat.reduceSub, Int.reduceLT, Int.reduceLE, Int.reduceEq, Int.reduceNeg, Int.reduceNe, Int.reduceAdd, Int.reduceSub, Int.reduceMul, Int.reduceToNat, Int.toNat_zero, Int.toNat_one, Int.toNat_natCast, am_cats, am_cat, am_st1, am_st2, am_clr, up2_na, up2_nj, up2_same, List.getElem?_cons_zero, List.getElem?_cons_succ, List.set_cons_zero, List.set_cons_succ, ne_eq, tk_3 hh, tk_13 hh, tk_14 hh, rk_3_1 hh, rk_3_2 hh, e3, u2, v1, v2]
      exact q1 (by omega)) S 0 (by omega)
  rw [← tkH_0 hz] at lp
  simp only [s20_0, s20_1, s20_2, s20_3, s20_4, s20_5, s20_6, s20_7, s20_8, s20_9, s20_10, s20_11, s20_12, s20_13, s20_14, s20_15, s20_16, s20_17, s20_18, s20_19, s20_20, s20_21, s20_22, s20_23, e20, Option.toList_some, Option.toList_none, List.cons_append, List.nil_append, Nat.le_refl, true_and, and_true, true_or, or_true, false_or, or_false, true_implies, false_implies, implies_true, not_true_eq_false, not_false_eq_true, eq_self, Nat.reduceLT, Nat.reduceLeDiff, Nat.reduceEqDiff, Nat.reduceAdd, Nat.reduceSub, Int.reduceLT, Int.reduceLE, Int.reduceEq, Int.reduceNeg, Int.reduceNe, Int.reduceAdd, Int.reduceSub, Int.reduceMul, Int.reduceToNat, Int.toNat_zero, Int.toNat_one, Int.toNat_natCast, am_cats, am_cat, am_st1, am_st2, am_clr, up2_na, up2_nj, up2_same, List.getElem?_cons_zero, List.getElem?_cons_succ, List.set_cons_zero, List.set_cons_succ, ne_eq, tk_3 hh, tk_15 hh, tk_16 hh, rk_3_4 hh, rk_3_5 hh, h3, u0, u2]
  exact lp none
/-- the reference's task -/
theorem tkM_0 {z D : Nat} : tkM I z D 0 = I := by
  funext a j
  unfold tkM
  rw [if_neg (show ¬ (a = 154 ∧ 6 * z ≤ j ∧ j < 6 * z + 0) by omega)]
theorem tkM_s {z D k : Nat} : up2 (tkM I z D k) 154 (6 * z + k) (dgt D k : Int) = tkM I z D (k + 1) := by
  funext a j
  by_cases h : a = 154 ∧ j = 6 * z + k
  · obtain ⟨rfl, rfl⟩ := h
    rw [up2_same]
    unfold tkM
    rw [if_pos (show 154 = 154 ∧ 6 * z ≤ 6 * z + k ∧ 6 * z + k < 6 * z + (k + 1) by omega), show 6 * z + k - 6 * z = k by omega]
  · rw [up2_ne _ _ h]
    unfold tkM
    by_cases h4 : a = 154 ∧ 6 * z ≤ j ∧ j < 6 * z + k
    · rw [if_pos h4, if_pos (show a = 154 ∧ 6 * z ≤ j ∧ j < 6 * z + (k + 1) by omega)]
    · rw [if_neg h4, if_neg (show ¬ (a = 154 ∧ 6 * z ≤ j ∧ j < 6 * z + (k + 1)) by omega)]
theorem tkM_o {z D k a j : Nat} (h : a ≠ 154) : tkM I z D k a j = I a j := by
  unfold tkM
  rw [if_neg (fun x => h x.1)]
theorem x137_l1 (hh : hp T R) {D S : Nat} (hD : D ≤ 2147483647) (hS : S ≤ 6) (h1 : I 152 1 = S) {mo ha : Int} (hQ : wp codeT mX d 137 32 [some (.inr (.inr (some 152))), some (.inl (D : Int)), some (.inl mo), some (.inl ha), some (.inl (qd D S : Int)), some (.inl (S : Int))] [] (185, s, T, I, J, R) Q) : ∀ (r k : Nat), k + r = S → wp codeT mX d 137 22 [some (.inr (.inr (some 152))), some (.inl (D : Int)), some (.inl mo), some (.inl ha), some (.inl (qd D k : Int)), some (.inl (k : Int))] [] (185, s, T, I, J, R) Q := by
  intro r
  induction r with
  | zero =>
    intro k hk
    have hk : k = S := by omega
    subst hk
    refine s137_22.mpr ?_
    simp only [s137_23, s137_24, s137_25, Option.toList_some, Option.toList_none, List.cons_append, List.nil_append, Nat.le_refl, true_and, and_true, true_or, or_true, false_or, or_false, true_implies, false_implies, implies_true, not_true_eq_false, not_false_eq_true, eq_self, Nat.reduceLT, Nat.reduceLeDiff, Nat.reduceEqDiff, Nat.reduceAdd, Nat.reduceSub, Int.reduceLT, Int.reduceLE, Int.reduceEq, Int.reduceNeg, Int.reduceNe, Int.reduceAdd, Int.reduceSub, Int.reduceMul, Int.reduceToNat, Int.toNat_zero, Int.toNat_one, Int.toNat_natCast, am_cats, am_cat, am_st1, am_st2, am_clr, up2_na, up2_nj, up2_same, List.getElem?_cons_zero, List.getElem?_cons_succ, List.set_cons_zero, List.set_cons_succ, ne_eq, Int.lt_irrefl, tk_152 hh, h1]
    exact hQ
  | succ r ih =>
    intro k hk
    have nx := ih (k + 1) (by omega)
    have u1 : (k : Int) < (S : Int) := by omega
    have hq := qd_le D k
    have o3 : qd D k / 10 ≤ 2000000000 := by omega
    have o6 : (k : Int) + 1 = ((k + 1 : Nat) : Int) := by omega
    have o7 : k + 1 ≤ 2000000000 := by omega
    have v2 := w32_c (rfl : ((qd D k / 10 : Nat) : Int) = ((qd D k / 10 : Nat) : Int)) o3
    have v4 := w32_c o6 o7
    refine s137_22.mpr ?_
    simp only [s137_23, s137_24, s137_25, s137_26, s137_27, s137_28, s137_29, s137_30, s137_31, Option.toList_some, Option.toList_none, List.cons_append, List.nil_append, Nat.le_refl, true_and, and_true, true_or, or_true, false_or, or_false, true_implies, false_implies, implies_true, not_true_eq_false, not_false_eq_true, eq_self, Nat.reduceLT, Nat.reduceLeDiff, Nat.reduceEqDiff, Nat.reduceAdd, Nat.reduceSub, Int.reduceLT, Int.reduceLE, Int.reduceEq, Int.reduceNeg, Int.reduceNe, Int.reduceAdd, Int.reduceSub, Int.reduceMul, Int.reduceToNat, Int.toNat_zero, Int.toNat_one, Int.toNat_natCast, am_cats, am_cat, am_st1, am_st2, am_clr, up2_na, up2_nj, up2_same, List.getElem?_cons_zero, List.getElem?_cons_succ, List.set_cons_zero, List.set_cons_succ, ne_eq, tk_152 hh, td10, u1, h1, v2, v4]
    exact nx
theorem x137_l2 (hh : hp T R) {z D : Nat} (hz : z < 8) (h3 : I 152 3 = z) (hD : D ≤ 2147483647) {mo ha : Int} (hQ : wp codeT mX d 137 61 [some (.inr (.inr (some 152))), some (.inl (D : Int)), some (.inl mo), some (.inl ha), some (.inl (qd D 6 : Int)), some (.inl ((6 : Nat) : Int))] [] (185, s, T, tkM I z D 6, J, R) Q) : ∀ (r k : Nat), k + r = 6 → wp codeT mX d 137 40 [some (.inr (.inr (some 152))), some (.inl (D : Int)), some (.inl mo), some (.inl ha), some (.inl (qd D k : Int)), some (.inl (k : Int))] [] (185, s, T, tkM I z D k, J, R) Q := by
  intro r
  induction r with
  | zero =>
    intro k hk
    have hk : k = 6 := by omega
    subst hk
    have u : ¬ ((6 : Nat) : Int) < 6 := by decide
    refine s137_40.mpr ?_
    simp only [s137_41, s137_42, Option.toList_some, Option.toList_none, List.cons_append, List.nil_append, Nat.le_refl, true_and, and_true, true_or, or_true, false_or, or_false, true_implies, false_implies, implies_true, not_true_eq_false, not_false_eq_true, eq_self, Nat.reduceLT, Nat.reduceLeDiff, Nat.reduceEqDiff, Nat.reduceAdd, Nat.reduceSub, Int.reduceLT, Int.reduceLE, Int.reduceEq, Int.reduceNeg, Int.reduceNe, Int.reduceAdd, Int.reduceSub, Int.reduceMul, Int.reduceToNat, Int.toNat_zero, Int.toNat_one, Int.toNat_natCast, am_cats, am_cat, am_st1, am_st2, am_clr, up2_na, up2_nj, up2_same, List.getElem?_cons_zero, List.getElem?_cons_succ, List.set_cons_zero, List.set_cons_succ, ne_eq, u]
    exact hQ
  | succ r ih =>
    intro k hk
    have nx := ih (k + 1) (by omega)
    have u1 : (k : Int) < 6 := by omega
    have u4 : 0 ≤ ((6 * z + k : Nat) : Int) ∧ ((6 * z + k : Nat) : Int) < ((48 : Nat) : Int) := by omega
    have hq := qd_le D k
    have h9 := dgt_9 D k
    have e3 : tkM I z D k 152 3 = z := (tkM_o (by decide)).trans h3
    have o1 : ((qd D k : Nat) : Int) - ((qd D k / 10 : Nat) : Int) * 10 = (dgt D k : Int) := by unfold dgt; omega
    have o2 : dgt D k ≤ 2000000000 := by omega
    have o3 : qd D k / 10 ≤ 2000000000 := by omega
    have o4 : 6 * (z : Int) = ((6 * z : Nat) : Int) := by omega
    have o5 : 6 * z ≤ 2000000000 := by omega
    have o6 : (k : Int) + 1 = ((k + 1 : Nat) : Int) := by omega
    have o7 : k + 1 ≤ 2000000000 := by omega
    have o8 : ((6 * z : Nat) : Int) + (k : Int) = ((6 * z + k : Nat) : Int) := by omega
    have o9 : 6 * z + k ≤ 2000000000 := by omega
    have hs := tkM_s (I := I) (z := z) (D := D) (k := k)
    have v1 := w32_c o1 o2
    have v2 := w32_c (rfl : ((qd D k / 10 : Nat) : Int) = ((qd D k / 10 : Nat) : Int)) o3
    have v3 := w32_c o4 o5
    have v4 := w32_c o6 o7
    have v5 := w32_c o8 o9
    refine s137_40.mpr ?_
    simp only [s137_41, s137_42, s137_43, s137_44, s137_45, s137_46, s137_47, s137_48, s137_49, s137_50, s137_51, s137_52, s137_53, s137_54, s137_55, s137_56, s137_57, s137_58, s137_59, s137_60, Option.toList_some, Option.toList_none, List.cons_append, List.nil_append, Nat.le_refl, true_and, and_true, true_or, or_true, false_or, or_false, true_implies, false_implies, implies_true, not_true_eq_false, not_false_eq_true, eq_self, Nat.reduceLT, Nat.reduceLeDiff, Nat.reduceEqDiff, Nat.reduceAdd, Nat.reduceSub, Int.reduceLT, Int.reduceLE, Int.reduceEq, Int.reduceNeg, Int.reduceNe, Int.reduceAdd, Int.reduceSub, Int.reduceMul, Int.reduceToNat, Int.toNat_zero, Int.toNat_one, Int.toNat_natCast, am_cats, am_cat, am_st1, am_st2, am_clr, up2_na, up2_nj, up2_same, List.getElem?_cons_zero, List.getElem?_cons_succ, List.set_cons_zero, List.set_cons_succ, ne_eq, tk_152 hh, tk_154 hh, rk_152_8 hh, td10, u1, u4, e3, v1, v2, v3, v4, v5, hs]
    exact nx
theorem x137 (hh : hp T R) {z D : Nat} (hz : z < 8) (h3 : I 152 3 = z) (hD0 : 0 < D) (hD : D ≤ 2147483647) {S : Nat} (hS : S ≤ 6) (h1 : I 152 1 = S) {mo ha : Int} (hm : 0 ≤ mo ∧ mo ≤ 1) (hh2 : 0 ≤ ha ∧ ha ≤ 100) (q0 : qd D S ≠ 0 → Q (some (.inl (-1))) (185, s, T, I, J, R)) (q1 : qd D S = 0 → Q (some (.inl (z : Int))) (185, s, T, up2 (up2 (up2 (tkM I z D 6) 155 z mo) 156 z ha) 152 3 ((z + 1 : Nat) : Int), J, R)) : wpc codeT mX (d + 1) 137 [.inr (.inr (some 152)), .inl (D : Int), .inl mo, .inl ha] (185, s, T, I, J, R) Q := by
  have u0 : 0 < (D : Int) ∧ ¬ (z : Int) = 8 := by omega
  have u2 : 0 ≤ (z : Int) ∧ (z : Int) < ((8 : Nat) : Int) := by omega
  have e3 : tkM I z D 6 152 3 = z := (tkM_o (by decide)).trans h3
  have o1 : (z : Int) + 1 = ((z + 1 : Nat) : Int) := by omega
  have o2 : z + 1 ≤ 2000000000 := by omega
  have o3 : ((z + 1 : Nat) : Int) - 1 = (z : Int) := by omega
  have o4 : z ≤ 2000000000 := by omega
  have lp2 : qd D S = 0 → wp codeT mX (d + 1) 137 40 [some (.inr (.inr (some 152))), some (.inl (D : Int)), some (.inl mo), some (.inl ha), some (.inl (D : Int)), some (.inl 0)] [] (185, s, T, I, J, R) Q := by
    intro h0
    have q1 := q1 h0
    have := x137_l2 (d := d + 1) (s := s) (J := J) (Q := Q) hh hz h3 hD (mo := mo) (ha := ha) (by
      have v1 := w32_c o1 o2
      have v2 := w32_c o3 o4
      refine s137_61.mpr ?_
      simp only [s137_62, s137_63, s137_64, s137_65, s137_66, s137_67, s137_68, s137_69, s137_70, s137_71, s137_72, s137_73, s137_74, s137_75, s137_76, s137_77, s137_78, s137_79, s137_80, s137_81, s137_82, s137_83, Option.toList_some, Option.toList_none, List.cons_append, List.nil_append, Nat.le_refl, true_and, and_true, true_or, or_true, false_or, or_false, true_implies, false_implies, implies_true, not_true_eq_false, not_false_eq_true, eq_self, Nat.reduceLT, Nat.reduceLeDiff, Nat.reduceEqDiff, Nat.reduceAdd, Nat.reduceSub, Int.reduceLT, Int.reduceLE, Int.reduceEq, Int.reduceNeg, Int.reduceNe, Int.reduceAdd, Int.reduceSub, Int.reduceMul, Int.reduceToNat, Int.toNat_zero, Int.toNat_one, Int.toNat_natCast, am_cats, am_cat, am_st1, am_st2, am_clr, up2_na, up2_nj, up2_same, List.getElem?_cons_zero, List.getElem?_cons_succ, List.set_cons_zero, List.set_cons_succ, ne_eq, tk_152 hh, tk_155 hh, tk_156 hh, rk_152_9 hh, rk_152_10 hh, e3, u2, v1, v2]
      exact q1) 6 0 (by omega)
    rw [tkM_0] at this
    exact this
  have lp := x137_l1 (d := d + 1) (s := s) (J := J) (Q := Q) hh hD hS h1 (mo := mo) (ha := ha) (by
    refine s137_32.mpr (s137_33.mpr ⟨fun h => ?_, fun h => ?_⟩)
    · simp only [s137_34, s137_35, Option.toList_some, Option.toList_none, List.cons_append, List.nil_append, Nat.le_refl, true_and, and_true, true_or, or_true, false_or, or_false, true_implies, false_implies, implies_true, not_true_eq_false, not_false_eq_true, eq_self, Nat.reduceLT, Nat.reduceLeDiff, Nat.reduceEqDiff, Nat.reduceAdd, Nat.reduceSub, Int.reduceLT, Int.reduceLE, Int.reduceEq, Int.reduceNeg, Int.reduceNe, Int.reduceAdd, Int.reduceSub, Int.reduceMul, Int.reduceToNat, Int.toNat_zero, Int.toNat_one, Int.toNat_natCast, am_cats, am_cat, am_st1, am_st2, am_clr, up2_na, up2_nj, up2_same, List.getElem?_cons_zero, List.getElem?_cons_succ, List.set_cons_zero, List.set_cons_succ, ne_eq]
      exact q0 (by omega)
    · simp only [s137_36, s137_37, s137_38, s137_39, Option.toList_some, Option.toList_none, List.cons_append, List.nil_append, Nat.le_refl, true_and, and_true, true_or, or_true, false_or, or_false, true_implies, false_implies, implies_true, not_true_eq_false, not_false_eq_true, eq_self, Nat.reduceLT, Nat.reduceLeDiff, Nat.reduceEqDiff, Nat.reduceAdd, Nat.reduceSub, Int.reduceLT, Int.reduceLE, Int.reduceEq, Int.reduceNeg, Int.reduceNe, Int.reduceAdd, Int.reduceSub, Int.reduceMul, Int.reduceToNat, Int.toNat_zero, Int.toNat_one, Int.toNat_natCast, am_cats, am_cat, am_st1, am_st2, am_clr, up2_na, up2_nj, up2_same, List.getElem?_cons_zero, List.getElem?_cons_succ, List.set_cons_zero, List.set_cons_succ, ne_eq]
      exact lp2 (by omega)) S 0 (by omega)
  simp only [s137_0, s137_1, s137_2, s137_3, s137_4, s137_5, s137_6, s137_7, s137_8, s137_9, s137_10, s137_11, s137_12, s137_13, s137_14, s137_15, s137_16, s137_17, s137_18, s137_19, s137_20, s137_21, e137, Option.toList_some, Option.toList_none, List.cons_append, List.nil_append, Nat.le_refl, true_and, and_true, true_or, or_true, false_or, or_false, true_implies, false_implies, implies_true, not_true_eq_false, not_false_eq_true, eq_self, Nat.reduceLT, Nat.reduceLeDiff, Nat.reduceEqDiff, Nat.reduceAdd, Nat.reduceSub, Int.reduceLT, Int.reduceLE, Int.reduceEq, Int.reduceNeg, Int.reduceNe, Int.reduceAdd, Int.reduceSub, Int.reduceMul, Int.reduceToNat, Int.toNat_zero, Int.toNat_one, Int.toNat_natCast, am_cats, am_cat, am_st1, am_st2, am_clr, up2_na, up2_nj, up2_same, List.getElem?_cons_zero, List.getElem?_cons_succ, List.set_cons_zero, List.set_cons_succ, ne_eq, tk_152 hh, k136, i10, hm, hh2, h3, u0]
  exact lp
end
