/-! the law by hand, 5: feed -/
def byX (v sh : Int) : Int := (Int32.ofInt (((Int32.ofInt v).toUInt32 >>> ((Int32.ofInt sh).toUInt32 &&& Int32.toUInt32 31)).toInt32).toInt &&& Int32.ofInt 255).toInt
def byM (v sh : Int) : Int := w8 (Int32.ofInt v >>> (Int32.ofInt sh &&& 31)).toInt
theorem w8_w8 (z : Int) : w8 (w8 z) = w8 z := by unfold w8; omega
theorem w8_m (z : Int) : w8 z % 256 = z % 256 := by unfold w8; omega
theorem by_bv (b : BitVec 32) (k : Nat) (hk : k = 24 ∨ k = 16 ∨ k = 8 ∨ k = 0) : ((b >>> k) &&& 255#32).toInt = (b.sshiftRight k).toInt % 256 := by
  have h1 : ((b >>> k) &&& 255#32).toNat = b.toNat / 2 ^ k % 256 := by
    rw [BitVec.toNat_and, BitVec.toNat_ushiftRight, Nat.shiftRight_eq_div_pow]
    exact Nat.and_two_pow_sub_one_eq_mod _ 8
  have h2 : ((b >>> k) &&& 255#32).toInt = ((b.toNat / 2 ^ k % 256 : Nat) : Int) := by
    rw [BitVec.toInt_eq_toNat_cond, h1]
    generalize b.toNat / 2 ^ k = z
    rw [if_pos (by omega)]
  rw [h2, BitVec.toInt_sshiftRight, Int.shiftRight_eq_div_pow, BitVec.toInt_eq_toNat_cond]
  have h3 := b.isLt
  generalize b.toNat = z at *
  rcases hk with rfl | rfl | rfl | rfl <;> split <;> simp only [Nat.reducePow, Int.reducePow] at * <;> omega
theorem byX_M (v : Int) {sh : Int} (h : sh = 24 ∨ sh = 16 ∨ sh = 8 ∨ sh = 0) : byX v sh = byM v sh % 256 := by
  unfold byX byM
  rw [w8_m, Int32.ofInt_toInt]
  generalize Int32.ofInt v = x
  rcases h with rfl | rfl | rfl | rfl
  · exact by_bv x.toBitVec 24 (Or.inl rfl)
  · exact by_bv x.toBitVec 16 (Or.inr (Or.inl rfl))
  · exact by_bv x.toBitVec 8 (Or.inr (Or.inr (Or.inl rfl)))
  · exact by_bv x.toBitVec 0 (Or.inr (Or.inr (Or.inr rfl)))
section
variable {d s : Nat} {T : Nat → Nat × Nat} {I J : Nat → Nat → Int} {R : Nat → Nat → Option Nat} {Q : Option AV → AH → Prop}
def ptX (I : Nat → Nat → Int) (v : Int) (n : Nat) : Nat → Nat → Int := up2 (up2 (up2 (up2 (up2 (up2 (up2 (up2 I 2 n (byX v 24)) 1 1 ((n + 1 : Nat) : Int)) 2 (n + 1) (byX v 16)) 1 1 ((n + 2 : Nat) : Int)) 2 (n + 2) (byX v 8)) 1 1 ((n + 3 : Nat) : Int)) 2 (n + 3) (byX v 0)) 1 1 ((n + 4 : Nat) : Int)
def ptM (I : Nat → Nat → Int) (v : Int) (n : Nat) : Nat → Nat → Int := up2 (up2 (up2 (up2 (up2 (up2 (up2 (up2 I 162 n (byM v 24)) 152 17 ((n + 1 : Nat) : Int)) 162 (n + 1) (byM v 16)) 152 17 ((n + 2 : Nat) : Int)) 162 (n + 2) (byM v 8)) 152 17 ((n + 3 : Nat) : Int)) 162 (n + 3) (byM v 0)) 152 17 ((n + 4 : Nat) : Int)
theorem p25 (hh : hp T R) {v x y : Int} {n : Nat} (hx : ¬ x < 0) (hn : I 1 1 = n) (h4 : n < 200) (hy : w32 (x + -8) = y) (hQ : wp codeT mX d 25 2 [some (.inr (.inr (some 1))), some (.inl v), some (.inl y)] [] (185, s, T, up2 (up2 I 2 n (byX v x)) 1 1 ((n + 1 : Nat) : Int), J, R) Q) : wp codeT mX d 25 2 [some (.inr (.inr (some 1))), some (.inl v), some (.inl x)] [] (185, s, T, I, J, R) Q := by
  have c0 : ((n : Int) < 200) ∧ 0 ≤ (n : Int) ∧ (n : Int) < ((200 : Nat) : Int) := by omega
  have o1 : (n : Int) + 1 = ((n + 1 : Nat) : Int) := by omega
  have o2 : n + 1 ≤ 2000000000 := by omega
  have a1 := w32_c o1 o2
  refine s25_2.mpr ?_
  simp only [s25_0, s25_1, s25_3, s25_4, s25_5, s25_6, s25_7, s25_8, s25_9, s25_10, s25_11, s25_12, s25_13, s25_14, s25_15, s25_16, s25_17, s25_18, s25_19, s25_20, s25_21, s25_22, s25_23, s25_24, s25_25, s25_26, Option.toList_some, Option.toList_none, List.cons_append, List.nil_append, Nat.le_refl, true_and, and_true, true_or, or_true, false_or, or_false, true_implies, false_implies, implies_true, not_true_eq_false, not_false_eq_true, eq_self, Nat.reduceLT, Nat.reduceLeDiff, Nat.reduceEqDiff, Nat.reduceAdd, Nat.reduceSub, Int.reduceLT, Int.reduceLE, Int.reduceEq, Int.reduceNeg, Int.reduceNe, Int.reduceAdd, Int.reduceSub, Int.reduceMul, Int.reduceToNat, Int.toNat_zero, Int.toNat_one, Int.toNat_natCast, am_cats, am_cat, am_st1, am_st2, am_clr, up2_na, up2_nj, up2_same, List.getElem?_cons_zero, List.getElem?_cons_succ, List.set_cons_zero, List.set_cons_succ, ne_eq, tk_1 hh, tk_2 hh, rk_1_0 hh, hn, a1, c0, hx, hy]
  exact hQ
theorem x25 (hh : hp T R) {v : Int} {n : Nat} (hn : I 1 1 = n) (h4 : n + 4 ≤ 200) (hQ : Q none (185, s, T, ptX I v n, J, R)) : wpc codeT mX d 25 [.inr (.inr (some 1)), .inl v] (185, s, T, I, J, R) Q := by
  simp only [e25, s25_0, s25_1, Option.toList_some, Option.toList_none, List.cons_append, List.nil_append, Nat.le_refl, true_and, and_true, true_or, or_true, false_or, or_false, true_implies, false_implies, implies_true, not_true_eq_false, not_false_eq_true, eq_self, Nat.reduceLT, Nat.reduceLeDiff, Nat.reduceEqDiff, Nat.reduceAdd, Nat.reduceSub, Int.reduceLT, Int.reduceLE, Int.reduceEq, Int.reduceNeg, Int.reduceNe, Int.reduceAdd, Int.reduceSub, Int.reduceMul, Int.reduceToNat, Int.toNat_zero, Int.toNat_one, Int.toNat_natCast, am_cats, am_cat, am_st1, am_st2, am_clr, up2_na, up2_nj, up2_same, List.getElem?_cons_zero, List.getElem?_cons_succ, List.set_cons_zero, List.set_cons_succ, ne_eq]
  refine p25 hh (by decide) hn (by omega) (by decide : w32 (24 + -8) = 16) ?_
  refine p25 hh (by decide) (up2_same _ _ _ _) (by omega) (by decide : w32 (16 + -8) = 8) ?_
  refine p25 hh (by decide) (up2_same _ _ _ _) (by omega) (by decide : w32 (8 + -8) = 0) ?_
  refine p25 hh (by decide) (up2_same _ _ _ _) (by omega) (by decide : w32 (0 + -8) = -8) ?_
  refine s25_2.mpr (s25_3.mpr ⟨fun _ => s25_26.mpr ?_, fun z => absurd (by decide) z⟩)
  exact hQ
theorem p141 (hh : hp T R) {v x y z : Int} {n : Nat} (hx : ¬ x < 0) (hn : I 152 17 = n) (h4 : n < 200) (hz : w32 (8 * x) = z) (hy : w32 (x + -1) = y) (hQ : wp codeT mX d 141 2 [some (.inr (.inr (some 152))), some (.inl v), some (.inl y)] [] (185, s, T, up2 (up2 I 162 n (byM v z)) 152 17 ((n + 1 : Nat) : Int), J, R) Q) : wp codeT mX d 141 2 [some (.inr (.inr (some 152))), some (.inl v), some (.inl x)] [] (185, s, T, I, J, R) Q := by
  have c0 : 0 ≤ (n : Int) ∧ (n : Int) < ((200 : Nat) : Int) := by omega
  have o1 : (n : Int) + 1 = ((n + 1 : Nat) : Int) := by omega
  have o2 : n + 1 ≤ 2000000000 := by omega
  have a1 := w32_c o1 o2
  refine s141_2.mpr ?_
  simp only [s141_0, s141_1, s141_3, s141_4, s141_5, s141_6, s141_7, s141_8, s141_9, s141_10, s141_11, s141_12, s141_13, s141_14, s141_15, s141_16, s141_17, s141_18, s141_19, s141_20, s141_21, s141_22, s141_23, Option.toList_some, Option.toList_none, List.cons_append, List.nil_append, Nat.le_refl, true_and, and_true, true_or, or_true, false_or, or_false, true_implies, false_implies, implies_true, not_true_eq_false, not_false_eq_true, eq_self, Nat.reduceLT, Nat.reduceLeDiff, Nat.reduceEqDiff, Nat.reduceAdd, Nat.reduceSub, Int.reduceLT, Int.reduceLE, Int.reduceEq, Int.reduceNeg, Int.reduceNe, Int.reduceAdd, Int.reduceSub, Int.reduceMul, Int.reduceToNat, Int.toNat_zero, Int.toNat_one, Int.toNat_natCast, am_cats, am_cat, am_st1, am_st2, am_clr, up2_na, up2_nj, up2_same, List.getElem?_cons_zero, List.getElem?_cons_succ, List.set_cons_zero, List.set_cons_succ, ne_eq, tk_152 hh, tk_162 hh, rk_152_16 hh, hn, a1, c0, hx, hy, hz, w8_w8]
  exact hQ
theorem x141 (hh : hp T R) {v : Int} {n : Nat} (hn : I 152 17 = n) (h4 : n + 4 ≤ 200) (hQ : Q none (185, s, T, ptM I v n, J, R)) : wpc codeT mX d 141 [.inr (.inr (some 152)), .inl v] (185, s, T, I, J, R) Q := by
  simp only [e141, s141_0, s141_1, Option.toList_some, Option.toList_none, List.cons_append, List.nil_append, Nat.le_refl, true_and, and_true, true_or, or_true, false_or, or_false, true_implies, false_implies, implies_true, not_true_eq_false, not_false_eq_true, eq_self, Nat.reduceLT, Nat.reduceLeDiff, Nat.reduceEqDiff, Nat.reduceAdd, Nat.reduceSub, Int.reduceLT, Int.reduceLE, Int.reduceEq, Int.reduceNeg, Int.reduceNe, Int.reduceAdd, Int.reduceSub, Int.reduceMul, Int.reduceToNat, Int.toNat_zero, Int.toNat_one, Int.toNat_natCast, am_cats, am_cat, am_st1, am_st2, am_clr, up2_na, up2_nj, up2_same, List.getElem?_cons_zero, List.getElem?_cons_succ, List.set_cons_zero, List.set_cons_succ, ne_eq]
  refine p141 hh (by decide) hn (by omega) (by decide : w32 (8 * 3) = 24) (by decide : w32 (3 + -1) = 2) ?_
  refine p141 hh (by decide) (up2_same _ _ _ _) (by omega) (by decide : w32 (8 * 2) = 16) (by decide : w32 (2 + -1) = 1) ?_
  refine p141 hh (by decide) (up2_same _ _ _ _) (by omega) (by decide : w32 (8 * 1) = 8) (by decide : w32 (1 + -1) = 0) ?_
  refine p141 hh (by decide) (up2_same _ _ _ _) (by omega) (by decide : w32 (8 * 0) = 0) (by decide : w32 (0 + -1) = -1) ?_
  refine s141_2.mpr (s141_3.mpr ⟨fun _ => s141_23.mpr ?_, fun z => absurd (by decide) z⟩)
  exact hQ
theorem ptX_n {v : Int} {n : Nat} : ptX I v n 1 1 = ((n + 4 : Nat) : Int) := up2_same _ _ _ _
theorem ptM_n {v : Int} {n : Nat} : ptM I v n 152 17 = ((n + 4 : Nat) : Int) := up2_same _ _ _ _
theorem ptX_2 {v : Int} {n j : Nat} : ptX I v n 2 j = if j = n then byX v 24 else if j = n + 1 then byX v 16 else if j = n + 2 then byX v 8 else if j = n + 3 then byX v 0 else I 2 j := by
  unfold ptX
  rw [up2_na (by decide), up2_at, up2_na (by decide), up2_at, up2_na (by decide), up2_at, up2_na (by decide), up2_at]
  by_cases h3 : j = n + 3
  · rw [if_pos ⟨rfl, h3⟩, if_neg (by omega), if_neg (by omega), if_neg (by omega), if_pos h3]
  rw [if_neg (fun z => h3 z.2)]
  by_cases h2 : j = n + 2
  · rw [if_pos ⟨rfl, h2⟩, if_neg (by omega), if_neg (by omega), if_pos h2]
  rw [if_neg (fun z => h2 z.2)]
  by_cases h1 : j = n + 1
  · rw [if_pos ⟨rfl, h1⟩, if_neg (by omega), if_pos h1]
  rw [if_neg (fun z => h1 z.2)]
  by_cases h0 : j = n
  · rw [if_pos ⟨rfl, h0⟩, if_pos h0]
  rw [if_neg (fun z => h0 z.2), if_neg h0, if_neg h1, if_neg h2, if_neg h3]
theorem ptM_162 {v : Int} {n j : Nat} : ptM I v n 162 j = if j = n then byM v 24 else if j = n + 1 then byM v 16 else if j = n + 2 then byM v 8 else if j = n + 3 then byM v 0 else I 162 j := by
  unfold ptM
  rw [up2_na (by decide), up2_at, up2_na (by decide), up2_at, up2_na (by decide), up2_at, up2_na (by decide), up2_at]
  by_cases h3 : j = n + 3
  · rw [if_pos ⟨rfl, h3⟩, if_neg (by omega), if_neg (by omega), if_neg (by omega), if_pos h3]
  rw [if_neg (fun z => h3 z.2)]
  by_cases h2 : j = n + 2
  · rw [if_pos ⟨rfl, h2⟩, if_neg (by omega), if_neg (by omega), if_pos h2]
  rw [if_neg (fun z => h2 z.2)]
  by_cases h1 : j = n + 1
  · rw [if_pos ⟨rfl, h1⟩, if_neg (by omega), if_pos h1]
  rw [if_neg (fun z => h1 z.2)]
  by_cases h0 : j = n
  · rw [if_pos ⟨rfl, h0⟩, if_pos h0]
  rw [if_neg (fun z => h0 z.2), if_neg h0, if_neg h1, if_neg h2, if_neg h3]
/-- number upon number -/
theorem lk4 {F G F' G' : Nat → Int} {n : Nat} {v : Int} (h : ∀ j, j < n → F j = G j % 256) (hF : ∀ j, F' j = if j = n then byX v 24 else if j = n + 1 then byX v 16 else if j = n + 2 then byX v 8 else if j = n + 3 then byX v 0 else F j) (hG : ∀ j, G' j = if j = n then byM v 24 else if j = n + 1 then byM v 16 else if j = n + 2 then byM v 8 else if j = n + 3 then byM v 0 else G j) : ∀ j, j < n + 4 → F' j = G' j % 256 := by
  intro j hj
  rw [hF, hG]
  by_cases h0 : j = n
  · rw [if_pos h0, if_pos h0]
    exact byX_M v (Or.inl rfl)
  rw [if_neg h0, if_neg h0]
  by_cases h1 : j = n + 1
  · rw [if_pos h1, if_pos h1]
    exact byX_M v (Or.inr (Or.inl rfl))
  rw [if_neg h1, if_neg h1]
  by_cases h2 : j = n + 2
  · rw [if_pos h2, if_pos h2]
    exact byX_M v (Or.inr (Or.inr (Or.inl rfl)))
  rw [if_neg h2, if_neg h2]
  by_cases h3 : j = n + 3
  · rw [if_pos h3, if_pos h3]
    exact byX_M v (Or.inr (Or.inr (Or.inr rfl)))
  rw [if_neg h3, if_neg h3]
  exact h j (by omega)
theorem k25 (hh : hp T R) {v : Int} {n : Nat} (hn : I 1 1 = n) (h4 : n + 4 ≤ 200) : wpc codeT mX d 25 [.inr (.inr (some 1)), .inl v] (185, s, T, I, J, R) Q ↔ Q none (185, s, T, ptX I v n, J, R) := wpc_det (x25 hh hn h4 ⟨rfl, rfl⟩)
theorem k141 (hh : hp T R) {v : Int} {n : Nat} (hn : I 152 17 = n) (h4 : n + 4 ≤ 200) : wpc codeT mX d 141 [.inr (.inr (some 152)), .inl v] (185, s, T, I, J, R) Q ↔ Q none (185, s, T, ptM I v n, J, R) := wpc_det (x141 hh hn h4 ⟨rfl, rfl⟩)
theorem x23 (hh : hp T R) {a b c e f : Int} {n : Nat} (hn : I 1 1 = n) (h4 : n + 20 ≤ 200) (hQ : Q (some (.inl ((n + 20 : Nat) : Int))) (185, s, T, ptX (ptX (ptX (ptX (ptX I a n) b (n + 4)) c (n + 8)) e (n + 12)) f (n + 16), J, R)) : wpc codeT mX (d + 1) 23 [.inr (.inr (some 0)), .inl a, .inl b, .inl c, .inl e, .inl f] (185, s, T, I, J, R) Q := by
  have a1 : ¬ 200 < w32 ((n : Int) + 20) := by rw [w32_eq (by omega) (by omega)]; omega
  simp only [e23, s23_0, s23_1, s23_2, s23_3, s23_4, s23_5, s23_6, s23_7, s23_8, s23_9, s23_10, s23_11, s23_12, s23_13, s23_14, s23_15, s23_16, s23_17, s23_18, s23_19, s23_20, s23_21, s23_22, s23_23, s23_24, s23_25, s23_26, s23_27, s23_28, s23_29, s23_30, e24, s24_0, s24_1, s24_2, s24_3, s24_4, s24_5, s24_6, s24_7, s24_8, s24_9, Option.toList_some, Option.toList_none, List.cons_append, List.nil_append, Nat.le_refl, true_and, and_true, true_or, or_true, false_or, or_false, true_implies, false_implies, implies_true, not_true_eq_false, not_false_eq_true, eq_self, Nat.reduceLT, Nat.reduceLeDiff, Nat.reduceEqDiff, Nat.reduceAdd, Nat.reduceSub, Int.reduceLT, Int.reduceLE, Int.reduceEq, Int.reduceNeg, Int.reduceNe, Int.reduceAdd, Int.reduceSub, Int.reduceMul, Int.reduceToNat, Int.toNat_zero, Int.toNat_one, Int.toNat_natCast, am_cats, am_cat, am_st1, am_st2, am_clr, up2_na, up2_nj, up2_same, List.getElem?_cons_zero, List.getElem?_cons_succ, List.set_cons_zero, List.set_cons_succ, ne_eq, tk_0 hh, tk_1 hh, rk_0_5 hh, hn, a1, k25 hh hn (by omega), k25 hh (ptX_n (I := I)) (by omega : n + 4 + 4 ≤ 200), k25 hh (ptX_n (I := ptX I a n)) (by omega : n + 4 + 4 + 4 ≤ 200), k25 hh (ptX_n (I := ptX (ptX I a n) b (n + 4))) (by omega : n + 4 + 4 + 4 + 4 ≤ 200), k25 hh (ptX_n (I := ptX (ptX (ptX I a n) b (n + 4)) c (n + 4 + 4))) (by omega : n + 4 + 4 + 4 + 4 + 4 ≤ 200), ptX_n]
  exact hQ
theorem x140 (hh : hp T R) {a b c e f : Int} {n : Nat} (hn : I 152 17 = n) (h4 : n + 20 ≤ 200) (hQ : Q (some (.inl ((n + 20 : Nat) : Int))) (185, s, T, ptM (ptM (ptM (ptM (ptM I a n) b (n + 4)) c (n + 8)) e (n + 12)) f (n + 16), J, R)) : wpc codeT mX (d + 1) 140 [.inr (.inr (some 152)), .inl a, .inl b, .inl c, .inl e, .inl f] (185, s, T, I, J, R) Q := by
  have a1 : ¬ 200 < w32 ((n : Int) + 20) := by rw [w32_eq (by omega) (by omega)]; omega
  simp only [e140, s140_0, s140_1, s140_2, s140_3, s140_4, s140_5, s140_6, s140_7, s140_8, s140_9, s140_10, s140_11, s140_12, s140_13, s140_14, s140_15, s140_16, s140_17, s140_18, s140_19, s140_20, s140_21, s140_22, s140_23, s140_24, s140_25, Option.toList_some, Option.toList_none, List.cons_append, List.nil_append, Nat.le_refl, true_and, and_true, true_or, or_true, false_or, or_false, true_implies, false_implies, implies_true, not_true_eq_false, not_false_eq_true, eq_self, Nat.reduceLT, Nat.reduceLeDiff, Nat.reduceEqDiff, Nat.reduceAdd, Nat.reduceSub, Int.reduceLT, Int.reduceLE, Int.reduceEq, Int.reduceNeg, Int.reduceNe, Int.reduceAdd, Int.reduceSub, Int.reduceMul, Int.reduceToNat, Int.toNat_zero, Int.toNat_one, Int.toNat_natCast, am_cats, am_cat, am_st1, am_st2, am_clr, up2_na, up2_nj, up2_same, List.getElem?_cons_zero, List.getElem?_cons_succ, List.set_cons_zero, List.set_cons_succ, ne_eq, tk_152 hh, hn, a1, k141 hh hn (by omega), k141 hh (ptM_n (I := I)) (by omega : n + 4 + 4 ≤ 200), k141 hh (ptM_n (I := ptM I a n)) (by omega : n + 4 + 4 + 4 ≤ 200), k141 hh (ptM_n (I := ptM (ptM I a n) b (n + 4))) (by omega : n + 4 + 4 + 4 + 4 ≤ 200), k141 hh (ptM_n (I := ptM (ptM (ptM I a n) b (n + 4)) c (n + 4 + 4))) (by omega : n + 4 + 4 + 4 + 4 + 4 ≤ 200), ptM_n]
  exact hQ
theorem ptX_o {v : Int} {n a j : Nat} (h1 : a ≠ 1) (h2 : a ≠ 2) : ptX I v n a j = I a j := by
  unfold ptX
  rw [up2_na h1, up2_na h2, up2_na h1, up2_na h2, up2_na h1, up2_na h2, up2_na h1, up2_na h2]
theorem ptM_o {v : Int} {n a j : Nat} (h1 : a ≠ 152) (h2 : a ≠ 162) : ptM I v n a j = I a j := by
  unfold ptM
  rw [up2_na h1, up2_na h2, up2_na h1, up2_na h2, up2_na h1, up2_na h2, up2_na h1, up2_na h2]
end
section
variable {L s d : Nat} {X : Nat → Int}
theorem pr_feed (hL : L ≤ 3072) (hX : ∀ j, rg32 (X j)) (hd : 40 ≤ d) {cmp : Bool} : pr L X s LKP d 23 140 5 false cmp := by
  refine pr_mk (cx := cn7) (cm := cn140) (nx := 0) (nm := 0) hL hX (cn_all 7 (by decide) cn7 rfl) (cn_all 140 (by decide) cn140 rfl) rfl hd (fun as g hl hr hH hs hP => ?_)
  obtain ⟨a, b, c', e, f, rfl⟩ := len5 hl
  obtain ⟨c, s, T, I, J, R⟩ := g
  obtain ⟨d, rfl⟩ : ∃ e, d = e + 1 := ⟨d - 1, by omega⟩
  have hc : c = 185 := hH.1
  subst hc
  have hh := hp_of (eH5_of hH)
  have hP : LK I := hP
  obtain ⟨l0, l1, l2, l3, l4, l5, l6, l7, l8, l9, l10, l11, l12, l13, l14, l15⟩ := hP
  have b1 : 0 ≤ I 1 1 ∧ I 1 1 ≤ 200 := ebd hH (by decide) (by decide) (by decide)
  have e1 : I 1 1 = I 152 17 := l8
  obtain ⟨n, hn⟩ : ∃ n : Nat, I 1 1 = n := ⟨(I 1 1).toNat, by omega⟩
  have hm : I 152 17 = n := e1.symm.trans hn
  show wpc codeT mX (d + 1) 23 [.inr (.inr (some 0)), .inl a, .inl b, .inl c', .inl e, .inl f] _ _
  by_cases h : n + 20 ≤ 200
  · refine x23 hh hn h (fun _ hH1 m1 s1 => ⟨_, rfl, ?_⟩)
    show wpc codeT mX (d + 1) 140 [.inr (.inr (some 152)), .inl a, .inl b, .inl c', .inl e, .inl f] (185, s, T, ptX (ptX (ptX (ptX (ptX I a n) b (n + 4)) c' (n + 8)) e (n + 12)) f (n + 16), J, R) _
    refine x140 hh (by rw [ptX_o (by decide) (by decide), ptX_o (by decide) (by decide), ptX_o (by decide) (by decide), ptX_o (by decide) (by decide), ptX_o (by decide) (by decide)]; exact hm) h (fun _ hH2 m2 => ⟨_, rfl, fun _ => rfl, ?_⟩)
    have k0 : ∀ j, j < n → I 2 j = I 162 j % 256 := fun j hj => l9 j (by rw [hn]; omega)
    have k1 := lk4 (v := a) k0 (fun j => ptX_2 (I := I) (v := a) (n := n)) (fun j => ptM_162 (I := I) (v := a) (n := n))
    have k2 := lk4 (v := b) k1 (fun j => ptX_2 (I := ptX I a n) (v := b) (n := n + 4)) (fun j => ptM_162 (I := ptM I a n) (v := b) (n := n + 4))
    have k3 := lk4 (v := c') k2 (fun j => ptX_2 (I := ptX (ptX I a n) b (n + 4)) (v := c') (n := n + 8)) (fun j => ptM_162 (I := ptM (ptM I a n) b (n + 4)) (v := c') (n := n + 8))
    have k4 := lk4 (v := e) k3 (fun j => ptX_2 (I := ptX (ptX (ptX I a n) b (n + 4)) c' (n + 8)) (v := e) (n := n + 12)) (fun j => ptM_162 (I := ptM (ptM (ptM I a n) b (n + 4)) c' (n + 8)) (v := e) (n := n + 12))
    have k5 := lk4 (v := f) k4 (fun j => ptX_2 (I := ptX (ptX (ptX (ptX I a n) b (n + 4)) c' (n + 8)) e (n + 12)) (v := f) (n := n + 16)) (fun j => ptM_162 (I := ptM (ptM (ptM (ptM I a n) b (n + 4)) c' (n + 8)) e (n + 12)) (v := f) (n := n + 16))
    have z1 : ∀ Y : Nat → Nat → Int, (ptM (ptM (ptM (ptM (ptM Y a n) b (n + 4)) c' (n + 8)) e (n + 12)) f (n + 16)) 1 1 = Y 1 1 := fun Y => by rw [ptM_o (by decide) (by decide), ptM_o (by decide) (by decide), ptM_o (by decide) (by decide), ptM_o (by decide) (by decide), ptM_o (by decide) (by decide)]
    have z2 : ∀ (Y : Nat → Nat → Int) (j : Nat), (ptM (ptM (ptM (ptM (ptM Y a n) b (n + 4)) c' (n + 8)) e (n + 12)) f (n + 16)) 2 j = Y 2 j := fun Y j => by rw [ptM_o (by decide) (by decide), ptM_o (by decide) (by decide), ptM_o (by decide) (by decide), ptM_o (by decide) (by decide), ptM_o (by decide) (by decide)]
    have z3 : ∀ j, ptX (ptX (ptX (ptX (ptX I a n) b (n + 4)) c' (n + 8)) e (n + 12)) f (n + 16) 162 j = I 162 j := fun j => by rw [ptX_o (by decide) (by decide), ptX_o (by decide) (by decide), ptX_o (by decide) (by decide), ptX_o (by decide) (by decide), ptX_o (by decide) (by decide)]
    have n1 : twn 1 1 152 17 (ptM (ptM (ptM (ptM (ptM (ptX (ptX (ptX (ptX (ptX I a n) b (n + 4)) c' (n + 8)) e (n + 12)) f (n + 16)) a n) b (n + 4)) c' (n + 8)) e (n + 12)) f (n + 16)) := by
      unfold twn
      rw [z1, ptX_n, ptM_n]
    have n2 : lkY (ptM (ptM (ptM (ptM (ptM (ptX (ptX (ptX (ptX (ptX I a n) b (n + 4)) c' (n + 8)) e (n + 12)) f (n + 16)) a n) b (n + 4)) c' (n + 8)) e (n + 12)) f (n + 16)) := by
      intro j hj
      rw [z1, ptX_n] at hj
      have := k5 j (by omega)
      rw [z2, this, ptM_162, ptM_162, ptM_162, ptM_162, ptM_162, ptM_162, ptM_162, ptM_162, ptM_162, ptM_162, z3]
    refine ⟨rdS_2 (twn_S 0 0 152 0) (by decide +kernel : (disj cn7.2.2.2.1 _ && disj cn140.2.2.2.1 _) = true) m1 m2 l0, rdS_2 (twn_S 0 1 152 1) (by decide +kernel : (disj cn7.2.2.2.1 _ && disj cn140.2.2.2.1 _) = true) m1 m2 l1, rdS_2 (twn_S 0 2 152 2) (by decide +kernel : (disj cn7.2.2.2.1 _ && disj cn140.2.2.2.1 _) = true) m1 m2 l2, rdS_2 (twn_S 0 3 152 5) (by decide +kernel : (disj cn7.2.2.2.1 _ && disj cn140.2.2.2.1 _) = true) m1 m2 l3, rdS_2 (twn_S 0 4 152 6) (by decide +kernel : (disj cn7.2.2.2.1 _ && disj cn140.2.2.2.1 _) = true) m1 m2 l4, rdS_2 (twn_S 3 3 152 3) (by decide +kernel : (disj cn7.2.2.2.1 _ && disj cn140.2.2.2.1 _) = true) m1 m2 l5, rdS_2 (twn_S 17 3 152 4) (by decide +kernel : (disj cn7.2.2.2.1 _ && disj cn140.2.2.2.1 _) = true) m1 m2 l6, rdS_2 (twn_S 102 3 152 46) (by decide +kernel : (disj cn7.2.2.2.1 _ && disj cn140.2.2.2.1 _) = true) m1 m2 l7, ?_, ?_, rdS_2 (lkS_S) (by decide +kernel : (disj cn7.2.2.2.1 _ && disj cn140.2.2.2.1 _) = true) m1 m2 l10, rdS_2 (lkT_S) (by decide +kernel : (disj cn7.2.2.2.1 _ && disj cn140.2.2.2.1 _) = true) m1 m2 l11, rdS_2 (lkB_S) (by decide +kernel : (disj cn7.2.2.2.1 _ && disj cn140.2.2.2.1 _) = true) m1 m2 l12, rdS_2 (lkO_S) (by decide +kernel : (disj cn7.2.2.2.1 _ && disj cn140.2.2.2.1 _) = true) m1 m2 l13, rdS_2 (lkC_S) (by decide +kernel : (disj cn7.2.2.2.1 _ && disj cn140.2.2.2.1 _) = true) m1 m2 l14, rdS_2 (lkQ_S) (by decide +kernel : (disj cn7.2.2.2.1 _ && disj cn140.2.2.2.1 _) = true) m1 m2 l15⟩
    · exact n1
    · exact n2
  · have a1 : 200 < w32 ((n : Int) + 20) := by rw [w32_eq (by omega) (by omega)]; omega
    have go : ∀ Q : Option AV → AH → Prop, Q (some (.inl (-1))) (185, s, T, I, J, R) → wpc codeT mX (d + 1) 23 [.inr (.inr (some 0)), .inl a, .inl b, .inl c', .inl e, .inl f] (185, s, T, I, J, R) Q := by
      intro Q hQ
      simp only [s23_0, s23_1, s23_2, s23_3, s23_4, s23_5, s23_6, e24, s24_0, s24_1, s24_2, s24_3, s24_4, s24_5, s24_6, s24_7, s24_8, s24_9, e23, Option.toList_some, Option.toList_none, List.cons_append, List.nil_append, Nat.le_refl, true_and, and_true, true_or, or_true, false_or, or_false, true_implies, false_implies, implies_true, not_true_eq_false, not_false_eq_true, eq_self, Nat.reduceLT, Nat.reduceLeDiff, Nat.reduceEqDiff, Nat.reduceAdd, Nat.reduceSub, Int.reduceLT, Int.reduceLE, Int.reduceEq, Int.reduceNeg, Int.reduceNe, Int.reduceAdd, Int.reduceSub, Int.reduceMul, Int.reduceToNat, Int.toNat_zero, Int.toNat_one, Int.toNat_natCast, am_cats, am_cat, am_st1, am_st2, am_clr, up2_na, up2_nj, up2_same, List.getElem?_cons_zero, List.getElem?_cons_succ, List.set_cons_zero, List.set_cons_succ, ne_eq, tk_0 hh, tk_1 hh, rk_0_5 hh, hn, a1]
      exact hQ
    have fin : ∀ Q : Option AV → AH → Prop, Q (some (.inl (-1))) (185, s, T, I, J, R) → wpc codeT mX (d + 1) 140 [.inr (.inr (some 152)), .inl a, .inl b, .inl c', .inl e, .inl f] (185, s, T, I, J, R) Q := by
      intro Q hQ
      simp only [s140_0, s140_1, s140_2, s140_3, s140_4, s140_5, s140_6, s140_7, e140, Option.toList_some, Option.toList_none, List.cons_append, List.nil_append, Nat.le_refl, true_and, and_true, true_or, or_true, false_or, or_false, true_implies, false_implies, implies_true, not_true_eq_false, not_false_eq_true, eq_self, Nat.reduceLT, Nat.reduceLeDiff, Nat.reduceEqDiff, Nat.reduceAdd, Nat.reduceSub, Int.reduceLT, Int.reduceLE, Int.reduceEq, Int.reduceNeg, Int.reduceNe, Int.reduceAdd, Int.reduceSub, Int.reduceMul, Int.reduceToNat, Int.toNat_zero, Int.toNat_one, Int.toNat_natCast, am_cats, am_cat, am_st1, am_st2, am_clr, up2_na, up2_nj, up2_same, List.getElem?_cons_zero, List.getElem?_cons_succ, List.set_cons_zero, List.set_cons_succ, ne_eq, tk_152 hh, hm, a1]
      exact hQ
    exact go _ (fun _ hH1 m1 s1 => ⟨-1, rfl, fin _ (fun _ hH2 m2 => ⟨-1, rfl, fun _ => rfl, l0, l1, l2, l3, l4, l5, l6, l7, l8, l9, l10, l11, l12, l13, l14, l15⟩)⟩)
end
