/-! the law's two readers, 14: the class reckons -/
/-- a law's stack, its height, whether it was refused -/
def eI (I : Nat → Nat → Int) (q : Nat) (S : Nat → Int) (h rf : Int) : Nat → Nat → Int := fun a j => if a = q then (if j = 7 then h else if j = 8 then rf else I q j) else if a = q + 5 then S j else I a j
section
variable {I : Nat → Nat → Int} {q : Nat} {S : Nat → Int} {h rf v : Int} {j a : Nat}
theorem eI_7 : eI I q S h rf q 7 = h := by unfold eI; rw [if_pos rfl, if_pos rfl]
theorem eI_8 : eI I q S h rf q 8 = rf := by unfold eI; rw [if_pos rfl, if_neg (by decide), if_pos rfl]
theorem eI_0 : eI I q S h rf q 0 = I q 0 := by unfold eI; rw [if_pos rfl, if_neg (by decide), if_neg (by decide)]
theorem eI_o (h1 : a ≠ q) (h2 : a ≠ q + 5) : eI I q S h rf a j = I a j := by unfold eI; rw [if_neg h1, if_neg h2]
theorem eI_S : eI I q S h rf (q + 5) j = S j := by unfold eI; rw [if_neg (by omega), if_pos rfl]
theorem eI_1 : eI I q S h rf (q + 1) j = I (q + 1) j := eI_o (by omega) (by omega)
theorem eI_2 : eI I q S h rf (q + 2) j = I (q + 2) j := eI_o (by omega) (by omega)
theorem eI_3 : eI I q S h rf (q + 3) j = I (q + 3) j := eI_o (by omega) (by omega)
theorem eI_4 : eI I q S h rf (q + 4) j = I (q + 4) j := eI_o (by omega) (by omega)
theorem eu_7 : up2 (eI I q S h rf) q 7 v = eI I q S v rf := by
  funext a i
  show (if a = q ∧ i = 7 then v else eI I q S h rf a i) = _
  unfold eI
  by_cases h1 : a = q
  · by_cases h2 : i = 7
    · rw [if_pos ⟨h1, h2⟩, if_pos h1, if_pos h2]
    · rw [if_neg (fun z => h2 z.2), if_pos h1, if_neg h2, if_pos h1, if_neg h2]
  · rw [if_neg (fun z => h1 z.1), if_neg h1, if_neg h1]
theorem eu_8 : up2 (eI I q S h rf) q 8 v = eI I q S h v := by
  funext a i
  show (if a = q ∧ i = 8 then v else eI I q S h rf a i) = _
  unfold eI
  by_cases h1 : a = q
  · by_cases h2 : i = 8
    · rw [if_pos ⟨h1, h2⟩, if_pos h1, if_neg (by omega), if_pos h2]
    · rw [if_neg (fun z => h2 z.2), if_pos h1, if_pos h1, if_neg h2, if_neg h2]
  · rw [if_neg (fun z => h1 z.1), if_neg h1, if_neg h1]
theorem eu_S : up2 (eI I q S h rf) (q + 5) j v = eI I q (sx S j v) h rf := by
  funext a i
  show (if a = q + 5 ∧ i = j then v else eI I q S h rf a i) = _
  unfold eI sx
  by_cases h1 : a = q + 5
  · by_cases h2 : i = j
    · rw [if_pos ⟨h1, h2⟩, if_neg (by omega), if_pos h1, if_pos h2]
    · rw [if_neg (fun z => h2 z.2), if_neg (by omega), if_pos h1, if_neg (by omega), if_pos h1, if_neg h2]
  · rw [if_neg (fun z => h1 z.1), if_neg h1, if_neg h1]
theorem eI_id : eI I q (I (q + 5)) (I q 7) (I q 8) = I := by
  funext a j
  unfold eI
  split
  · rename_i h; subst h
    split
    · rename_i h; rw [h]
    split
    · rename_i h; rw [h]
    rfl
  split
  · rename_i h; rw [h]
  rfl
end
theorem sgn_op {o : Int} (ho : 2 ≤ o ∧ o ≤ 9) : ¬ sgn o = 48 ∧ ¬ sgn o = 97 ∧ ¬ sgn o = 33 ∧ ¬ sgn o = 38 ∧ ¬ sgn o = 124 := by
  have k : o = 2 ∨ o = 3 ∨ o = 4 ∨ o = 5 ∨ o = 6 ∨ o = 7 ∨ o = 8 ∨ o = 9 := by omega
  rcases k with rfl | rfl | rfl | rfl | rfl | rfl | rfl | rfl <;> decide
def stkA (S : Nat → Int) : List Int → Prop
  | [] => True
  | v :: st => S st.length = v ∧ stkA S st
theorem stkA_n {S : Nat → Int} {v : Int} : ∀ {st : List Int} {n : Nat}, stkA S st → st.length ≤ n → stkA (sx S n v) st
  | [], _, _, _ => trivial
  | a :: st, n, h, hn => ⟨by have hn : st.length + 1 ≤ n := hn; rw [sx_n (by omega)]; exact h.1, stkA_n h.2 (by have hn : st.length + 1 ≤ n := hn; omega)⟩
theorem stkA_p {S : Nat → Int} {v : Int} {st : List Int} (h : stkA S st) : stkA (sx S st.length v) (v :: st) := ⟨sx_s, stkA_n h (Nat.le_refl _)⟩
section
variable {d s q n : Nat} {T : Nat → Nat × Nat} {I J : Nat → Nat → Int} {R : Nat → Nat → Option Nat} {Q : Option AV → AH → Prop} {S : Nat → Int} {h rf : Int}
theorem k61 (hl : lawAt T R q) {v : Int} (hn : n < 160) : wpc codeT mX d 61 [.inr (.inr (some q)), .inl v] (185, s, T, eI I q S (n : Int) rf, J, R) Q ↔ Q none (185, s, T, eI I q (sx S n v) ((n + 1 : Nat) : Int) rf, J, R) := wpc_det (by
  obtain ⟨h1, h2, t0, t1, t2, t3, t4, t5, r1, r2, r3, r4, r5⟩ := hl
  have u1 : (n : Int) < 160 := by omega
  have u2 : 0 ≤ (n : Int) ∧ (n : Int) < ((160 : Nat) : Int) := by omega
  have u3 : q < 185 ∧ q + 5 < 185 := by omega
  have o1 : (n : Int) + 1 = ((n + 1 : Nat) : Int) := by omega
  have o2 : n + 1 ≤ 2000000000 := by omega
  have v1 := w32_c o1 o2
  simp only [e61, s61_0, s61_1, s61_2, s61_3, s61_4, s61_5, s61_6, s61_7, s61_8, s61_9, s61_10, s61_11, s61_12, s61_13, s61_14, s61_15, s61_16, Option.toList_some, Option.toList_none, List.cons_append, List.nil_append, Nat.le_refl, true_and, and_true, true_or, or_true, false_or, or_false, true_implies, false_implies, implies_true, not_true_eq_false, not_false_eq_true, eq_self, Nat.reduceLT, Nat.reduceLeDiff, Nat.reduceEqDiff, Nat.reduceAdd, Nat.reduceSub, Int.reduceLT, Int.reduceLE, Int.reduceEq, Int.reduceNeg, Int.reduceNe, Int.reduceAdd, Int.reduceSub, Int.reduceMul, Int.reduceToNat, Int.toNat_zero, Int.toNat_one, Int.toNat_natCast, am_cats, am_cat, am_st1, am_st2, am_clr, up2_na, up2_nj, up2_same, List.getElem?_cons_zero, List.getElem?_cons_succ, List.set_cons_zero, List.set_cons_succ, ne_eq, t0, t5, r5, eI_7, eu_7, eu_S, u1, u2, u3, v1])
theorem k63 (hl : lawAt T R q) (hn : n < 160) : wpc codeT mX d 63 [.inr (.inr (some q))] (185, s, T, eI I q S ((n + 1 : Nat) : Int) rf, J, R) Q ↔ Q (some (.inl (S n))) (185, s, T, eI I q S (n : Int) rf, J, R) := wpc_det (by
  obtain ⟨h1, h2, t0, t1, t2, t3, t4, t5, r1, r2, r3, r4, r5⟩ := hl
  have u1 : 0 < ((n + 1 : Nat) : Int) := by omega
  have u2 : 0 ≤ (n : Int) ∧ (n : Int) < ((160 : Nat) : Int) := by omega
  have u3 : q < 185 ∧ q + 5 < 185 := by omega
  have o1 : ((n + 1 : Nat) : Int) - 1 = (n : Int) := by omega
  have o2 : n ≤ 2000000000 := by omega
  have v1 := w32_c o1 o2
  simp only [e63, s63_0, s63_1, s63_2, s63_3, s63_4, s63_5, s63_6, s63_7, s63_8, s63_9, s63_10, s63_11, s63_12, s63_13, s63_14, s63_15, s63_16, Option.toList_some, Option.toList_none, List.cons_append, List.nil_append, Nat.le_refl, true_and, and_true, true_or, or_true, false_or, or_false, true_implies, false_implies, implies_true, not_true_eq_false, not_false_eq_true, eq_self, Nat.reduceLT, Nat.reduceLeDiff, Nat.reduceEqDiff, Nat.reduceAdd, Nat.reduceSub, Int.reduceLT, Int.reduceLE, Int.reduceEq, Int.reduceNeg, Int.reduceNe, Int.reduceAdd, Int.reduceSub, Int.reduceMul, Int.reduceToNat, Int.toNat_zero, Int.toNat_one, Int.toNat_natCast, am_cats, am_cat, am_st1, am_st2, am_clr, up2_na, up2_nj, up2_same, List.getElem?_cons_zero, List.getElem?_cons_succ, List.set_cons_zero, List.set_cons_succ, ne_eq, t0, t5, r5, eI_7, eu_7, eI_S, u1, u2, u3, v1])
theorem k62 (hh : hp T R) {v : Nat} (hv : v < 9) : wpc codeT mX d 62 [.inr (.inr (some 77)), .inl (v : Int)] (185, s, T, I, J, R) Q ↔ Q (some (.inl (I 78 v))) (185, s, T, I, J, R) := wpc_det (by
  have u1 : ¬ (v : Int) < 0 := by omega
  have u2 : (v : Int) < ((9 : Nat) : Int) := by omega
  have u4 : 0 ≤ (v : Int) := by omega
  simp only [e62, s62_0, s62_1, s62_2, s62_3, s62_4, s62_5, s62_6, s62_7, s62_8, s62_9, s62_10, s62_11, s62_12, s62_13, Option.toList_some, Option.toList_none, List.cons_append, List.nil_append, Nat.le_refl, true_and, and_true, true_or, or_true, false_or, or_false, true_implies, false_implies, implies_true, not_true_eq_false, not_false_eq_true, eq_self, Nat.reduceLT, Nat.reduceLeDiff, Nat.reduceEqDiff, Nat.reduceAdd, Nat.reduceSub, Int.reduceLT, Int.reduceLE, Int.reduceEq, Int.reduceNeg, Int.reduceNe, Int.reduceAdd, Int.reduceSub, Int.reduceMul, Int.reduceToNat, Int.toNat_zero, Int.toNat_one, Int.toNat_natCast, am_cats, am_cat, am_st1, am_st2, am_clr, up2_na, up2_nj, up2_same, List.getElem?_cons_zero, List.getElem?_cons_succ, List.set_cons_zero, List.set_cons_succ, ne_eq, tk_77 hh, tk_78 hh, rk_77_0 hh, u1, u2, u4])
theorem k64 (hl : lawAt T R q) {o a b : Int} (ho : 2 ≤ o ∧ o ≤ 9) (hz : ¬ ((o = 5 ∨ o = 6) ∧ b = 0)) : wpc codeT mX (d + 1) 64 [.inr (.inr (some q)), .inl (sgn o), .inl a, .inl b] (185, s, T, eI I q S h rf, J, R) Q ↔ Q (some (.inl (rkn o a b))) (185, s, T, eI I q S h rf, J, R) := wpc_det (by
  have t0 := hl.2.2.1
  have u3 : q < 185 := by have := hl.2.1; omega
  have k : o = 2 ∨ o = 3 ∨ o = 4 ∨ o = 5 ∨ o = 6 ∨ o = 7 ∨ o = 8 ∨ o = 9 := by omega
  rcases k with rfl | rfl | rfl | rfl | rfl | rfl | rfl | rfl
  · rw [show sgn 2 = 43 from rfl]
    simp only [e64, s64_0, s64_1, s64_2, s64_3, s64_4, s64_5, s64_6, s64_7, s64_8, s64_9, s64_10, s64_11, s64_12, s64_13, s64_14, s64_15, s64_16, s64_17, s64_18, s64_19, s64_20, s64_21, s64_22, s64_23, s64_24, s64_25, s64_26, s64_27, s64_28, s64_29, s64_30, s64_31, s64_32, s64_33, s64_34, s64_35, s64_36, s64_37, s64_38, s64_39, s64_40, Option.toList_some, Option.toList_none, List.cons_append, List.nil_append, Nat.le_refl, true_and, and_true, true_or, or_true, false_or, or_false, true_implies, false_implies, implies_true, not_true_eq_false, not_false_eq_true, eq_self, Nat.reduceLT, Nat.reduceLeDiff, Nat.reduceEqDiff, Nat.reduceAdd, Nat.reduceSub, Int.reduceLT, Int.reduceLE, Int.reduceEq, Int.reduceNeg, Int.reduceNe, Int.reduceAdd, Int.reduceSub, Int.reduceMul, Int.reduceToNat, Int.toNat_zero, Int.toNat_one, Int.toNat_natCast, am_cats, am_cat, am_st1, am_st2, am_clr, up2_na, up2_nj, up2_same, List.getElem?_cons_zero, List.getElem?_cons_succ, List.set_cons_zero, List.set_cons_succ, ne_eq]
    rfl
  · rw [show sgn 3 = 45 from rfl]
    simp only [e64, s64_0, s64_1, s64_2, s64_3, s64_4, s64_5, s64_6, s64_7, s64_8, s64_9, s64_10, s64_11, s64_12, s64_13, s64_14, s64_15, s64_16, s64_17, s64_18, s64_19, s64_20, s64_21, s64_22, s64_23, s64_24, s64_25, s64_26, s64_27, s64_28, s64_29, s64_30, s64_31, s64_32, s64_33, s64_34, s64_35, s64_36, s64_37, s64_38, s64_39, s64_40, Option.toList_some, Option.toList_none, List.cons_append, List.nil_append, Nat.le_refl, true_and, and_true, true_or, or_true, false_or, or_false, true_implies, false_implies, implies_true, not_true_eq_false, not_false_eq_true, eq_self, Nat.reduceLT, Nat.reduceLeDiff, Nat.reduceEqDiff, Nat.reduceAdd, Nat.reduceSub, Int.reduceLT, Int.reduceLE, Int.reduceEq, Int.reduceNeg, Int.reduceNe, Int.reduceAdd, Int.reduceSub, Int.reduceMul, Int.reduceToNat, Int.toNat_zero, Int.toNat_one, Int.toNat_natCast, am_cats, am_cat, am_st1, am_st2, am_clr, up2_na, up2_nj, up2_same, List.getElem?_cons_zero, List.getElem?_cons_succ, List.set_cons_zero, List.set_cons_succ, ne_eq]
    rfl
  · rw [show sgn 4 = 42 from rfl]
    simp only [e64, s64_0, s64_1, s64_2, s64_3, s64_4, s64_5, s64_6, s64_7, s64_8, s64_9, s64_10, s64_11, s64_12, s64_13, s64_14, s64_15, s64_16, s64_17, s64_18, s64_19, s64_20, s64_21, s64_22, s64_23, s64_24, s64_25, s64_26, s64_27, s64_28, s64_29, s64_30, s64_31, s64_32, s64_33, s64_34, s64_35, s64_36, s64_37, s64_38, s64_39, s64_40, Option.toList_some, Option.toList_none, List.cons_append, List.nil_append, Nat.le_refl, true_and, and_true, true_or, or_true, false_or, or_false, true_implies, false_implies, implies_true, not_true_eq_false, not_false_eq_true, eq_self, Nat.reduceLT, Nat.reduceLeDiff, Nat.reduceEqDiff, Nat.reduceAdd, Nat.reduceSub, Int.reduceLT, Int.reduceLE, Int.reduceEq, Int.reduceNeg, Int.reduceNe, Int.reduceAdd, Int.reduceSub, Int.reduceMul, Int.reduceToNat, Int.toNat_zero, Int.toNat_one, Int.toNat_natCast, am_cats, am_cat, am_st1, am_st2, am_clr, up2_na, up2_nj, up2_same, List.getElem?_cons_zero, List.getElem?_cons_succ, List.set_cons_zero, List.set_cons_succ, ne_eq]
    rfl
  · have hb : ¬ b = 0 := fun z => hz ⟨Or.inl rfl, z⟩
    rw [show sgn 5 = 47 from rfl]
    simp only [e64, s64_0, s64_1, s64_2, s64_3, s64_4, s64_5, s64_6, s64_7, s64_8, s64_9, s64_10, s64_11, s64_12, s64_13, s64_14, s64_15, s64_16, s64_17, s64_18, s64_19, s64_20, s64_21, s64_22, s64_23, s64_24, s64_25, s64_26, s64_27, s64_28, s64_29, s64_30, s64_31, s64_32, s64_33, s64_34, s64_35, s64_36, s64_37, s64_38, s64_39, s64_40, e65, s65_0, s65_1, s65_2, s65_3, s65_4, s65_5, s65_6, s65_7, s65_8, s65_9, s65_10, s65_11, s65_12, s65_13, s65_14, s65_15, s65_16, s65_17, Option.toList_some, Option.toList_none, List.cons_append, List.nil_append, Nat.le_refl, true_and, and_true, true_or, or_true, false_or, or_false, true_implies, false_implies, implies_true, not_true_eq_false, not_false_eq_true, eq_self, Nat.reduceLT, Nat.reduceLeDiff, Nat.reduceEqDiff, Nat.reduceAdd, Nat.reduceSub, Int.reduceLT, Int.reduceLE, Int.reduceEq, Int.reduceNeg, Int.reduceNe, Int.reduceAdd, Int.reduceSub, Int.reduceMul, Int.reduceToNat, Int.toNat_zero, Int.toNat_one, Int.toNat_natCast, am_cats, am_cat, am_st1, am_st2, am_clr, up2_na, up2_nj, up2_same, List.getElem?_cons_zero, List.getElem?_cons_succ, List.set_cons_zero, List.set_cons_succ, ne_eq, t0, u3, hb]
    rfl
  · have hb : ¬ b = 0 := fun z => hz ⟨Or.inr rfl, z⟩
    rw [show sgn 6 = 37 from rfl]
    simp only [e64, s64_0, s64_1, s64_2, s64_3, s64_4, s64_5, s64_6, s64_7, s64_8, s64_9, s64_10, s64_11, s64_12, s64_13, s64_14, s64_15, s64_16, s64_17, s64_18, s64_19, s64_20, s64_21, s64_22, s64_23, s64_24, s64_25, s64_26, s64_27, s64_28, s64_29, s64_30, s64_31, s64_32, s64_33, s64_34, s64_35, s64_36, s64_37, s64_38, s64_39, s64_40, e65, s65_0, s65_1, s65_2, s65_3, s65_4, s65_5, s65_6, s65_7, s65_8, s65_9, s65_10, s65_11, s65_12, s65_13, s65_14, s65_15, s65_16, s65_17, Option.toList_some, Option.toList_none, List.cons_append, List.nil_append, Nat.le_refl, true_and, and_true, true_or, or_true, false_or, or_false, true_implies, false_implies, implies_true, not_true_eq_false, not_false_eq_true, eq_self, Nat.reduceLT, Nat.reduceLeDiff, Nat.reduceEqDiff, Nat.reduceAdd, Nat.reduceSub, Int.reduceLT, Int.reduceLE, Int.reduceEq, Int.reduceNeg, Int.reduceNe, Int.reduceAdd, Int.reduceSub, Int.reduceMul, Int.reduceToNat, Int.toNat_zero, Int.toNat_one, Int.toNat_natCast, am_cats, am_cat, am_st1, am_st2, am_clr, up2_na, up2_nj, up2_same, List.getElem?_cons_zero, List.getElem?_cons_succ, List.set_cons_zero, List.set_cons_succ, ne_eq, t0, u3, hb]
    rfl
  · rw [show sgn 7 = 60 from rfl]
    simp only [e64, s64_0, s64_1, s64_2, s64_3, s64_4, s64_5, s64_6, s64_7, s64_8, s64_9, s64_10, s64_11, s64_12, s64_13, s64_14, s64_15, s64_16, s64_17, s64_18, s64_19, s64_20, s64_21, s64_22, s64_23, s64_24, s64_25, s64_26, s64_27, s64_28, s64_29, s64_30, s64_31, s64_32, s64_33, s64_34, s64_35, s64_36, s64_37, s64_38, s64_39, s64_40, Option.toList_some, Option.toList_none, List.cons_append, List.nil_append, Nat.le_refl, true_and, and_true, true_or, or_true, false_or, or_false, true_implies, false_implies, implies_true, not_true_eq_false, not_false_eq_true, eq_self, Nat.reduceLT, Nat.reduceLeDiff, Nat.reduceEqDiff, Nat.reduceAdd, Nat.reduceSub, Int.reduceLT, Int.reduceLE, Int.reduceEq, Int.reduceNeg, Int.reduceNe, Int.reduceAdd, Int.reduceSub, Int.reduceMul, Int.reduceToNat, Int.toNat_zero, Int.toNat_one, Int.toNat_natCast, am_cats, am_cat, am_st1, am_st2, am_clr, up2_na, up2_nj, up2_same, List.getElem?_cons_zero, List.getElem?_cons_succ, List.set_cons_zero, List.set_cons_succ, ne_eq]
    exact ⟨fun z => by show _ = some (Sum.inl (if a < b then 1 else 0)); rw [if_pos z], fun z => by show _ = some (Sum.inl (if a < b then 1 else 0)); rw [if_neg z]⟩
  · rw [show sgn 8 = 62 from rfl]
    simp only [e64, s64_0, s64_1, s64_2, s64_3, s64_4, s64_5, s64_6, s64_7, s64_8, s64_9, s64_10, s64_11, s64_12, s64_13, s64_14, s64_15, s64_16, s64_17, s64_18, s64_19, s64_20, s64_21, s64_22, s64_23, s64_24, s64_25, s64_26, s64_27, s64_28, s64_29, s64_30, s64_31, s64_32, s64_33, s64_34, s64_35, s64_36, s64_37, s64_38, s64_39, s64_40, Option.toList_some, Option.toList_none, List.cons_append, List.nil_append, Nat.le_refl, true_and, and_true, true_or, or_true, false_or, or_false, true_implies, false_implies, implies_true, not_true_eq_false, not_false_eq_true, eq_self, Nat.reduceLT, Nat.reduceLeDiff, Nat.reduceEqDiff, Nat.reduceAdd, Nat.reduceSub, Int.reduceLT, Int.reduceLE, Int.reduceEq, Int.reduceNeg, Int.reduceNe, Int.reduceAdd, Int.reduceSub, Int.reduceMul, Int.reduceToNat, Int.toNat_zero, Int.toNat_one, Int.toNat_natCast, am_cats, am_cat, am_st1, am_st2, am_clr, up2_na, up2_nj, up2_same, List.getElem?_cons_zero, List.getElem?_cons_succ, List.set_cons_zero, List.set_cons_succ, ne_eq]
    exact ⟨fun z => by show _ = some (Sum.inl (if b < a then 1 else 0)); rw [if_pos z], fun z => by show _ = some (Sum.inl (if b < a then 1 else 0)); rw [if_neg z]⟩
  · rw [show sgn 9 = 61 from rfl]
    simp only [e64, s64_0, s64_1, s64_2, s64_3, s64_4, s64_5, s64_6, s64_7, s64_8, s64_9, s64_10, s64_11, s64_12, s64_13, s64_14, s64_15, s64_16, s64_17, s64_18, s64_19, s64_20, s64_21, s64_22, s64_23, s64_24, s64_25, s64_26, s64_27, s64_28, s64_29, s64_30, s64_31, s64_32, s64_33, s64_34, s64_35, s64_36, s64_37, s64_38, s64_39, s64_40, Option.toList_some, Option.toList_none, List.cons_append, List.nil_append, Nat.le_refl, true_and, and_true, true_or, or_true, false_or, or_false, true_implies, false_implies, implies_true, not_true_eq_false, not_false_eq_true, eq_self, Nat.reduceLT, Nat.reduceLeDiff, Nat.reduceEqDiff, Nat.reduceAdd, Nat.reduceSub, Int.reduceLT, Int.reduceLE, Int.reduceEq, Int.reduceNeg, Int.reduceNe, Int.reduceAdd, Int.reduceSub, Int.reduceMul, Int.reduceToNat, Int.toNat_zero, Int.toNat_one, Int.toNat_natCast, am_cats, am_cat, am_st1, am_st2, am_clr, up2_na, up2_nj, up2_same, List.getElem?_cons_zero, List.getElem?_cons_succ, List.set_cons_zero, List.set_cons_succ, ne_eq]
    exact ⟨fun z => by show _ = some (Sum.inl (if a = b then 1 else 0)); rw [if_pos z], fun z => by show _ = some (Sum.inl (if a = b then 1 else 0)); rw [if_neg z]⟩)
theorem k64z (hl : lawAt T R q) {o a : Int} (ho : o = 5 ∨ o = 6) : wpc codeT mX (d + 1) 64 [.inr (.inr (some q)), .inl (sgn o), .inl a, .inl 0] (185, s, T, eI I q S h rf, J, R) Q ↔ Q (some (.inl 0)) (185, s, T, eI I q S h 1, J, R) := wpc_det (by
  have t0 := hl.2.2.1
  have u3 : q < 185 := by have := hl.2.1; omega
  rcases ho with rfl | rfl
  · rw [show sgn 5 = 47 from rfl]
    simp only [e64, s64_0, s64_1, s64_2, s64_3, s64_4, s64_5, s64_6, s64_7, s64_8, s64_9, s64_10, s64_11, s64_12, s64_13, s64_14, s64_15, s64_16, s64_17, s64_18, s64_19, s64_20, s64_21, s64_22, s64_23, s64_24, s64_25, s64_26, s64_27, s64_28, s64_29, s64_30, s64_31, s64_32, s64_33, s64_34, s64_35, s64_36, s64_37, s64_38, s64_39, s64_40, e65, s65_0, s65_1, s65_2, s65_3, s65_4, s65_5, s65_6, s65_7, s65_8, s65_9, s65_10, s65_11, s65_12, s65_13, s65_14, s65_15, s65_16, s65_17, Option.toList_some, Option.toList_none, List.cons_append, List.nil_append, Nat.le_refl, true_and, and_true, true_or, or_true, false_or, or_false, true_implies, false_implies, implies_true, not_true_eq_false, not_false_eq_true, eq_self, Nat.reduceLT, Nat.reduceLeDiff, Nat.reduceEqDiff, Nat.reduceAdd, Nat.reduceSub, Int.reduceLT, Int.reduceLE, Int.reduceEq, Int.reduceNeg, Int.reduceNe, Int.reduceAdd, Int.reduceSub, Int.reduceMul, Int.reduceToNat, Int.toNat_zero, Int.toNat_one, Int.toNat_natCast, am_cats, am_cat, am_st1, am_st2, am_clr, up2_na, up2_nj, up2_same, List.getElem?_cons_zero, List.getElem?_cons_succ, List.set_cons_zero, List.set_cons_succ, ne_eq, t0, u3, eu_8]
  · rw [show sgn 6 = 37 from rfl]
    simp only [e64, s64_0, s64_1, s64_2, s64_3, s64_4, s64_5, s64_6, s64_7, s64_8, s64_9, s64_10, s64_11, s64_12, s64_13, s64_14, s64_15, s64_16, s64_17, s64_18, s64_19, s64_20, s64_21, s64_22, s64_23, s64_24, s64_25, s64_26, s64_27, s64_28, s64_29, s64_30, s64_31, s64_32, s64_33, s64_34, s64_35, s64_36, s64_37, s64_38, s64_39, s64_40, e65, s65_0, s65_1, s65_2, s65_3, s65_4, s65_5, s65_6, s65_7, s65_8, s65_9, s65_10, s65_11, s65_12, s65_13, s65_14, s65_15, s65_16, s65_17, Option.toList_some, Option.toList_none, List.cons_append, List.nil_append, Nat.le_refl, true_and, and_true, true_or, or_true, false_or, or_false, true_implies, false_implies, implies_true, not_true_eq_false, not_false_eq_true, eq_self, Nat.reduceLT, Nat.reduceLeDiff, Nat.reduceEqDiff, Nat.reduceAdd, Nat.reduceSub, Int.reduceLT, Int.reduceLE, Int.reduceEq, Int.reduceNeg, Int.reduceNe, Int.reduceAdd, Int.reduceSub, Int.reduceMul, Int.reduceToNat, Int.toNat_zero, Int.toNat_one, Int.toNat_natCast, am_cats, am_cat, am_st1, am_st2, am_clr, up2_na, up2_nj, up2_same, List.getElem?_cons_zero, List.getElem?_cons_succ, List.set_cons_zero, List.set_cons_succ, ne_eq, t0, u3, eu_8])
set_option maxHeartbeats 1000000 in
theorem p60 (hh : hp T R) (hl : lawAt T R q) {co : Nat → Int × Int} {m to : Nat} {ft : Nat → Int} (hto : to ≤ m) (hm : m ≤ 160) (hc : ∀ j, j < m → I (q + 1) j = sgn (co j).1 ∧ I (q + 2) j = (co j).2) (hf : ∀ v, v < 9 → I 78 v = ft v) {fr : Option AV} {i : Nat} {st : List Int} {r : Option Int} (hr : RUN ft co to i st r) : ∀ (S : Nat → Int) (l5 l6 : Option AV), stkA S st → st.length ≤ i → (r = none → ∀ (S1 : Nat → Int) (h1 : Int), Q (some (.inl 0)) (185, s, T, eI I q S1 h1 1, J, R)) → (∀ v, r = some v → ∀ S1 : Nat → Int, Q (some (.inl v)) (185, s, T, eI I q S1 0 0, J, R)) → wp codeT mX (d + 2) 60 8 [some (.inr (.inr (some q))), fr, some (.inl (to : Int)), some (.inr (.inr (some 77))), some (.inl (i : Int)), l5, l6] [] (185, s, T, eI I q S (st.length : Int) 0, J, R) Q := by
  obtain ⟨h1, h2, t0, t1, t2, t3, t4, t5, r1, r2, r3, r4, r5⟩ := id hl
  have u3 : q < 185 ∧ q + 1 < 185 ∧ q + 2 < 185 := by omega
  have e78 : ∀ (S : Nat → Int) (h rf : Int) (v : Nat), eI I q S h rf 78 v = I 78 v := fun S h rf v => eI_o (by omega) (by omega)
  refine hr (fun i st r => ∀ (S : Nat → Int) (l5 l6 : Option AV), stkA S st → st.length ≤ i → (r = none → ∀ (S1 : Nat → Int) (h1 : Int), Q (some (.inl 0)) (185, s, T, eI I q S1 h1 1, J, R)) → (∀ v, r = some v → ∀ S1 : Nat → Int, Q (some (.inl v)) (185, s, T, eI I q S1 0 0, J, R)) → wp codeT mX (d + 2) 60 8 [some (.inr (.inr (some q))), fr, some (.inl (to : Int)), some (.inr (.inr (some 77))), some (.inl (i : Int)), l5, l6] [] (185, s, T, eI I q S (st.length : Int) 0, J, R) Q) ⟨fun v => ?_, fun i v st r hi e v0 v1 ih => ?_, fun i v st r hi e hv ih => ?_, fun i a st r hi e ih => ?_, fun i t o a st r hi e ho h3 h4 ih => ?_, fun i t o a st r hi e ho h3 h4 ih => ?_, fun i o a st hi e ho => ?_, fun i o a b st r hi e ho hz ih => ?_⟩
  · intro S l5 l6 hS hi hN hV
    have fin := hV v rfl S
    have e : S 0 = v := hS.1
    rw [← e] at fin
    have k := k63 (d := d + 1) (s := s) (I := I) (J := J) (S := S) (rf := 0) (n := ([] : List Int).length) hl (by decide) (Q := fun v h1 => (185 ≤ h1.1 ∧ s ≤ h1.2.1) ∧ wp codeT mX (d + 2) 60 100 [some (.inr (.inr (some q))), fr, some (.inl (to : Int)), some (.inr (.inr (some 77))), some (.inl (to : Int)), l5, l6] (v.toList ++ []) h1 Q)
    refine s60_8.mpr ?_
    show wp codeT mX (d + 2) 60 9 _ _ (185, s, T, eI I q S ((([] : List Int).length + 1 : Nat) : Int) 0, J, R) Q
    simp only [s60_9, s60_10, s60_98, s60_99, Option.toList_some, Option.toList_none, List.cons_append, List.nil_append, Nat.le_refl, true_and, and_true, true_or, or_true, false_or, or_false, true_implies, false_implies, implies_true, not_true_eq_false, not_false_eq_true, eq_self, Nat.reduceLT, Nat.reduceLeDiff, Nat.reduceEqDiff, Nat.reduceAdd, Nat.reduceSub, Int.reduceLT, Int.reduceLE, Int.reduceEq, Int.reduceNeg, Int.reduceNe, Int.reduceAdd, Int.reduceSub, Int.reduceMul, Int.reduceToNat, Int.toNat_zero, Int.toNat_one, Int.toNat_natCast, am_cats, am_cat, am_st1, am_st2, am_clr, up2_na, up2_nj, up2_same, List.getElem?_cons_zero, List.getElem?_cons_succ, List.set_cons_zero, List.set_cons_succ, ne_eq, t0, u3, Int.lt_irrefl]
    refine k.mpr ⟨⟨Nat.le_refl _, Nat.le_refl _⟩, ?_⟩
    simp only [s60_100, Option.toList_some, Option.toList_none, List.cons_append, List.nil_append, Nat.le_refl, true_and, and_true, true_or, or_true, false_or, or_false, true_implies, false_implies, implies_true, not_true_eq_false, not_false_eq_true, eq_self, Nat.reduceLT, Nat.reduceLeDiff, Nat.reduceEqDiff, Nat.reduceAdd, Nat.reduceSub, Int.reduceLT, Int.reduceLE, Int.reduceEq, Int.reduceNeg, Int.reduceNe, Int.reduceAdd, Int.reduceSub, Int.reduceMul, Int.reduceToNat, Int.toNat_zero, Int.toNat_one, Int.toNat_natCast, am_cats, am_cat, am_st1, am_st2, am_clr, up2_na, up2_nj, up2_same, List.getElem?_cons_zero, List.getElem?_cons_succ, List.set_cons_zero, List.set_cons_succ, ne_eq]
    exact fin
  · intro S l5 l6 hS hl2 hN hV
    have nx := fun l5 l6 => ih (sx S st.length v) l5 l6 (stkA_p hS) (Nat.succ_le_succ hl2) hN hV
    have hcc := hc i (by omega)
    rw [e] at hcc
    have c1 : I (q + 1) i = 48 := hcc.1
    have c2 : I (q + 2) i = v := hcc.2
    have u1 : (i : Int) < (to : Int) := by omega
    have u2 : 0 ≤ (i : Int) ∧ (i : Int) < ((160 : Nat) : Int) := by omega
    have hn : st.length < 160 := by omega
    have i2 : i ≤ 1080 := by omega
    refine s60_8.mpr ?_
    simp only [s60_9, s60_10, s60_11, s60_12, s60_13, s60_14, s60_15, s60_16, s60_17, s60_18, s60_19, s60_20, s60_21, s60_22, s60_23, s60_24, s60_25, s60_26, s60_27, s60_28, s60_96, s60_97, Option.toList_some, Option.toList_none, List.cons_append, List.nil_append, Nat.le_refl, true_and, and_true, true_or, or_true, false_or, or_false, true_implies, false_implies, implies_true, not_true_eq_false, not_false_eq_true, eq_self, Nat.reduceLT, Nat.reduceLeDiff, Nat.reduceEqDiff, Nat.reduceAdd, Nat.reduceSub, Int.reduceLT, Int.reduceLE, Int.reduceEq, Int.reduceNeg, Int.reduceNe, Int.reduceAdd, Int.reduceSub, Int.reduceMul, Int.reduceToNat, Int.toNat_zero, Int.toNat_one, Int.toNat_natCast, am_cats, am_cat, am_st1, am_st2, am_clr, up2_na, up2_nj, up2_same, List.getElem?_cons_zero, List.getElem?_cons_succ, List.set_cons_zero, List.set_cons_succ, ne_eq, t0, t1, t2, r1, r2, eI_8, eI_1, eI_2, c1, c2, u1, u2, u3, k61 hl hn, w32_s i2]
    exact nx _ _
  · intro S l5 l6 hS hl2 hN hV
    have nx := fun l5 l6 => ih (sx S st.length (ft v)) l5 l6 (stkA_p hS) (Nat.succ_le_succ hl2) hN hV
    have hcc := hc i (by omega)
    rw [e] at hcc
    have c1 : I (q + 1) i = 97 := hcc.1
    have c2 : I (q + 2) i = (v : Int) := hcc.2
    have u1 : (i : Int) < (to : Int) := by omega
    have u2 : 0 ≤ (i : Int) ∧ (i : Int) < ((160 : Nat) : Int) := by omega
    have hn : st.length < 160 := by omega
    have i2 : i ≤ 1080 := by omega
    refine s60_8.mpr ?_
    simp only [s60_9, s60_10, s60_11, s60_12, s60_13, s60_14, s60_15, s60_16, s60_17, s60_18, s60_19, s60_20, s60_21, s60_29, s60_30, s60_31, s60_32, s60_33, s60_34, s60_35, s60_36, s60_37, s60_38, s60_39, s60_40, s60_96, s60_97, Option.toList_some, Option.toList_none, List.cons_append, List.nil_append, Nat.le_refl, true_and, and_true, true_or, or_true, false_or, or_false, true_implies, false_implies, implies_true, not_true_eq_false, not_false_eq_true, eq_self, Nat.reduceLT, Nat.reduceLeDiff, Nat.reduceEqDiff, Nat.reduceAdd, Nat.reduceSub, Int.reduceLT, Int.reduceLE, Int.reduceEq, Int.reduceNeg, Int.reduceNe, Int.reduceAdd, Int.reduceSub, Int.reduceMul, Int.reduceToNat, Int.toNat_zero, Int.toNat_one, Int.toNat_natCast, am_cats, am_cat, am_st1, am_st2, am_clr, up2_na, up2_nj, up2_same, List.getElem?_cons_zero, List.getElem?_cons_succ, List.set_cons_zero, List.set_cons_succ, ne_eq, t0, t1, t2, r1, r2, tk_77 hh, eI_8, eI_1, eI_2, c1, c2, u1, u2, u3, k62 hh hv, e78, hf v hv, k61 hl hn, w32_s i2]
    exact nx _ _
  · intro S l5 l6 hS hl2 hN hV
    have nx := fun l5 l6 => ih (sx S st.length (w32 (1 - a))) l5 l6 (stkA_p hS.2) (Nat.le_succ_of_le hl2) hN hV
    have hl2 : st.length + 1 ≤ i := hl2
    have hcc := hc i (by omega)
    rw [e] at hcc
    have c1 : I (q + 1) i = 33 := hcc.1
    have u1 : (i : Int) < (to : Int) := by omega
    have u2 : 0 ≤ (i : Int) ∧ (i : Int) < ((160 : Nat) : Int) := by omega
    have hn : st.length < 160 := by omega
    have i2 : i ≤ 1080 := by omega
    have ha : S st.length = a := hS.1
    refine s60_8.mpr ?_
    show wp codeT mX (d + 2) 60 9 _ _ (185, s, T, eI I q S ((st.length + 1 : Nat) : Int) 0, J, R) Q
    simp only [s60_9, s60_10, s60_11, s60_12, s60_13, s60_14, s60_15, s60_16, s60_17, s60_18, s60_19, s60_20, s60_21, s60_29, s60_30, s60_31, s60_41, s60_42, s60_43, s60_44, s60_45, s60_46, s60_47, s60_48, s60_49, s60_50, s60_96, s60_97, Option.toList_some, Option.toList_none, List.cons_append, List.nil_append, Nat.le_refl, true_and, and_true, true_or, or_true, false_or, or_false, true_implies, false_implies, implies_true, not_true_eq_false, not_false_eq_true, eq_self, Nat.reduceLT, Nat.reduceLeDiff, Nat.reduceEqDiff, Nat.reduceAdd, Nat.reduceSub, Int.reduceLT, Int.reduceLE, Int.reduceEq, Int.reduceNeg, Int.reduceNe, Int.reduceAdd, Int.reduceSub, Int.reduceMul, Int.reduceToNat, Int.toNat_zero, Int.toNat_one, Int.toNat_natCast, am_cats, am_cat, am_st1, am_st2, am_clr, up2_na, up2_nj, up2_same, List.getElem?_cons_zero, List.getElem?_cons_succ, List.set_cons_zero, List.set_cons_succ, ne_eq, t0, t1, r1, eI_8, eI_1, c1, u1, u2, u3, k63 hl hn, ha, k61 hl hn, w32_s i2]
    exact nx _ _
  · intro S l5 l6 hS hl2 hN hV
    have hl2 : st.length + 1 ≤ i := hl2
    have nx := fun l5 l6 => ih (sx S st.length a) l5 l6 (stkA_p hS.2) (show st.length + 1 ≤ t by omega) hN hV
    have hcc := hc i (by omega)
    rw [e] at hcc
    have c2 : I (q + 2) i = (t : Int) := hcc.2
    have u1 : (i : Int) < (to : Int) := by omega
    have u2 : 0 ≤ (i : Int) ∧ (i : Int) < ((160 : Nat) : Int) := by omega
    have hn : st.length < 160 := by omega
    have ha : S st.length = a := hS.1
    have mx : (if (i : Int) < (t : Int) - 1 then (t : Int) - 1 else (i : Int)) = (t : Int) - 1 := by
      by_cases z : (i : Int) < (t : Int) - 1
      · rw [if_pos z]
      · rw [if_neg z]
        omega
    have e1 : w32 ((t : Int) - 1) = (t : Int) - 1 := w32_eq (by omega) (by omega)
    have e2 : w32 ((t : Int) - 1 + 1) = (t : Int) := (congrArg w32 (show (t : Int) - 1 + 1 = (t : Int) by clear e1; omega)).trans (w32_eq (by clear e1; omega) (by clear e1; omega))
    refine s60_8.mpr ?_
    show wp codeT mX (d + 2) 60 9 _ _ (185, s, T, eI I q S ((st.length + 1 : Nat) : Int) 0, J, R) Q
    rcases ho with ⟨rfl, rfl⟩ | ⟨rfl, rfl⟩
    · have c1 : I (q + 1) i = 38 := hcc.1
      simp only [s60_9, s60_10, s60_11, s60_12, s60_13, s60_14, s60_15, s60_16, s60_17, s60_18, s60_19, s60_20, s60_21, s60_29, s60_30, s60_31, s60_41, s60_42, s60_43, s60_51, s60_52, s60_53, s60_54, s60_55, s60_56, s60_57, s60_58, s60_59, s60_60, s60_61, s60_62, s60_63, s60_64, s60_65, s60_66, s60_67, s60_68, s60_69, s60_70, s60_71, s60_72, s60_73, s60_74, s60_75, s60_76, s60_77, s60_78, s60_79, s60_80, s60_81, s60_82, s60_83, s60_84, s60_96, s60_97, Option.toList_some, Option.toList_none, List.cons_append, List.nil_append, Nat.le_refl, true_and, and_true, true_or, or_true, false_or, or_false, true_implies, false_implies, implies_true, not_true_eq_false, not_false_eq_true, eq_self, Nat.reduceLT, Nat.reduceLeDiff, Nat.reduceEqDiff, Nat.reduceAdd, Nat.reduceSub, Int.reduceLT, Int.reduceLE, Int.reduceEq, Int.reduceNeg, Int.reduceNe, Int.reduceAdd, Int.reduceSub, Int.reduceMul, Int.reduceToNat, Int.toNat_zero, Int.toNat_one, Int.toNat_natCast, am_cats, am_cat, am_st1, am_st2, am_clr, up2_na, up2_nj, up2_same, List.getElem?_cons_zero, List.getElem?_cons_succ, List.set_cons_zero, List.set_cons_succ, ne_eq, t0, t1, t2, r1, r2, eI_8, eI_1, eI_2, c1, c2, u1, u2, u3, k63 hl hn, ha, k61 hl hn, k211, mx, e1, e2]
      exact nx _ _
    · have c1 : I (q + 1) i = 124 := hcc.1
      simp only [s60_9, s60_10, s60_11, s60_12, s60_13, s60_14, s60_15, s60_16, s60_17, s60_18, s60_19, s60_20, s60_21, s60_29, s60_30, s60_31, s60_41, s60_42, s60_43, s60_51, s60_52, s60_53, s60_54, s60_55, s60_56, s60_57, s60_58, s60_59, s60_60, s60_61, s60_62, s60_63, s60_64, s60_65, s60_66, s60_67, s60_68, s60_69, s60_70, s60_71, s60_72, s60_73, s60_74, s60_75, s60_76, s60_77, s60_78, s60_79, s60_80, s60_81, s60_82, s60_83, s60_84, s60_96, s60_97, Option.toList_some, Option.toList_none, List.cons_append, List.nil_append, Nat.le_refl, true_and, and_true, true_or, or_true, false_or, or_false, true_implies, false_implies, implies_true, not_true_eq_false, not_false_eq_true, eq_self, Nat.reduceLT, Nat.reduceLeDiff, Nat.reduceEqDiff, Nat.reduceAdd, Nat.reduceSub, Int.reduceLT, Int.reduceLE, Int.reduceEq, Int.reduceNeg, Int.reduceNe, Int.reduceAdd, Int.reduceSub, Int.reduceMul, Int.reduceToNat, Int.toNat_zero, Int.toNat_one, Int.toNat_natCast, am_cats, am_cat, am_st1, am_st2, am_clr, up2_na, up2_nj, up2_same, List.getElem?_cons_zero, List.getElem?_cons_succ, List.set_cons_zero, List.set_cons_succ, ne_eq, t0, t1, t2, r1, r2, eI_8, eI_1, eI_2, c1, c2, u1, u2, u3, k63 hl hn, ha, k61 hl hn, k211, mx, e1, e2]
      exact nx _ _
  · intro S l5 l6 hS hl2 hN hV
    have hl2 : st.length + 1 ≤ i := hl2
    have nx := fun l5 l6 => ih S l5 l6 hS.2 (show st.length ≤ i + 1 by omega) hN hV
    have hcc := hc i (by omega)
    rw [e] at hcc
    have u1 : (i : Int) < (to : Int) := by omega
    have u2 : 0 ≤ (i : Int) ∧ (i : Int) < ((160 : Nat) : Int) := by omega
    have hn : st.length < 160 := by omega
    have i2 : i ≤ 1080 := by omega
    have ha : S st.length = a := hS.1
    refine s60_8.mpr ?_
    show wp codeT mX (d + 2) 60 9 _ _ (185, s, T, eI I q S ((st.length + 1 : Nat) : Int) 0, J, R) Q
    rcases ho with ⟨rfl, rfl⟩ | ⟨rfl, rfl⟩
    · have c1 : I (q + 1) i = 38 := hcc.1
      simp only [s60_9, s60_10, s60_11, s60_12, s60_13, s60_14, s60_15, s60_16, s60_17, s60_18, s60_19, s60_20, s60_21, s60_29, s60_30, s60_31, s60_41, s60_42, s60_43, s60_51, s60_52, s60_53, s60_54, s60_55, s60_56, s60_57, s60_58, s60_59, s60_60, s60_61, s60_62, s60_63, s60_64, s60_65, s60_66, s60_67, s60_68, s60_69, s60_70, s60_71, s60_84, s60_96, s60_97, Option.toList_some, Option.toList_none, List.cons_append, List.nil_append, Nat.le_refl, true_and, and_true, true_or, or_true, false_or, or_false, true_implies, false_implies, implies_true, not_true_eq_false, not_false_eq_true, eq_self, Nat.reduceLT, Nat.reduceLeDiff, Nat.reduceEqDiff, Nat.reduceAdd, Nat.reduceSub, Int.reduceLT, Int.reduceLE, Int.reduceEq, Int.reduceNeg, Int.reduceNe, Int.reduceAdd, Int.reduceSub, Int.reduceMul, Int.reduceToNat, Int.toNat_zero, Int.toNat_one, Int.toNat_natCast, am_cats, am_cat, am_st1, am_st2, am_clr, up2_na, up2_nj, up2_same, List.getElem?_cons_zero, List.getElem?_cons_succ, List.set_cons_zero, List.set_cons_succ, ne_eq, t0, t1, r1, eI_8, eI_1, c1, u1, u2, u3, k63 hl hn, ha, w32_s i2]
      exact nx _ _
    · have c1 : I (q + 1) i = 124 := hcc.1
      simp only [s60_9, s60_10, s60_11, s60_12, s60_13, s60_14, s60_15, s60_16, s60_17, s60_18, s60_19, s60_20, s60_21, s60_29, s60_30, s60_31, s60_41, s60_42, s60_43, s60_51, s60_52, s60_53, s60_54, s60_55, s60_56, s60_57, s60_58, s60_59, s60_60, s60_61, s60_62, s60_63, s60_64, s60_65, s60_66, s60_67, s60_68, s60_69, s60_70, s60_71, s60_84, s60_96, s60_97, Option.toList_some, Option.toList_none, List.cons_append, List.nil_append, Nat.le_refl, true_and, and_true, true_or, or_true, false_or, or_false, true_implies, false_implies, implies_true, not_true_eq_false, not_false_eq_true, eq_self, Nat.reduceLT, Nat.reduceLeDiff, Nat.reduceEqDiff, Nat.reduceAdd, Nat.reduceSub, Int.reduceLT, Int.reduceLE, Int.reduceEq, Int.reduceNeg, Int.reduceNe, Int.reduceAdd, Int.reduceSub, Int.reduceMul, Int.reduceToNat, Int.toNat_zero, Int.toNat_one, Int.toNat_natCast, am_cats, am_cat, am_st1, am_st2, am_clr, up2_na, up2_nj, up2_same, List.getElem?_cons_zero, List.getElem?_cons_succ, List.set_cons_zero, List.set_cons_succ, ne_eq, t0, t1, r1, eI_8, eI_1, c1, u1, u2, u3, k63 hl hn, ha, w32_s i2]
      exact nx _ _
  · intro S l5 l6 hS hl2 hN hV
    have hl2 : st.length + 1 + 1 ≤ i := hl2
    have fin := hN rfl (sx S st.length 0) (st.length : Int)
    have hcc := hc i (by omega)
    rw [e] at hcc
    have c1 : I (q + 1) i = sgn o := hcc.1
    obtain ⟨g1, g2, g3, g4, g5⟩ := sgn_op (o := o) (by omega)
    have u1 : (i : Int) < (to : Int) := by omega
    have u2 : 0 ≤ (i : Int) ∧ (i : Int) < ((160 : Nat) : Int) := by omega
    have hn : st.length < 160 := by omega
    have hn1 : st.length + 1 < 160 := by omega
    have i2 : i ≤ 1080 := by omega
    have hb : S (st.length + 1) = 0 := hS.1
    have ha : S st.length = a := hS.2.1
    refine s60_8.mpr ?_
    show wp codeT mX (d + 2) 60 9 _ _ (185, s, T, eI I q S ((st.length + 1 + 1 : Nat) : Int) 0, J, R) Q
    simp only [s60_9, s60_10, s60_11, s60_12, s60_13, s60_14, s60_15, s60_16, s60_17, s60_18, s60_19, s60_20, s60_21, s60_29, s60_30, s60_31, s60_41, s60_42, s60_43, s60_51, s60_52, s60_53, s60_54, s60_55, s60_56, s60_85, s60_86, s60_87, s60_88, s60_89, s60_90, s60_91, s60_92, s60_93, s60_94, s60_95, s60_96, s60_97, Option.toList_some, Option.toList_none, List.cons_append, List.nil_append, Nat.le_refl, true_and, and_true, true_or, or_true, false_or, or_false, true_implies, false_implies, implies_true, not_true_eq_false, not_false_eq_true, eq_self, Nat.reduceLT, Nat.reduceLeDiff, Nat.reduceEqDiff, Nat.reduceAdd, Nat.reduceSub, Int.reduceLT, Int.reduceLE, Int.reduceEq, Int.reduceNeg, Int.reduceNe, Int.reduceAdd, Int.reduceSub, Int.reduceMul, Int.reduceToNat, Int.toNat_zero, Int.toNat_one, Int.toNat_natCast, am_cats, am_cat, am_st1, am_st2, am_clr, up2_na, up2_nj, up2_same, List.getElem?_cons_zero, List.getElem?_cons_succ, List.set_cons_zero, List.set_cons_succ, ne_eq, t0, t1, r1, eI_8, eI_1, c1, g1, g2, g3, g4, g5, u1, u2, u3, k63 hl hn, k63 hl hn1, ha, hb, k64z hl ho, k61 hl hn, w32_s i2]
    refine s60_8.mpr ?_
    simp only [s60_9, s60_10, s60_11, s60_12, s60_13, s60_98, s60_99, s60_100, Option.toList_some, Option.toList_none, List.cons_append, List.nil_append, Nat.le_refl, true_and, and_true, true_or, or_true, false_or, or_false, true_implies, false_implies, implies_true, not_true_eq_false, not_false_eq_true, eq_self, Nat.reduceLT, Nat.reduceLeDiff, Nat.reduceEqDiff, Nat.reduceAdd, Nat.reduceSub, Int.reduceLT, Int.reduceLE, Int.reduceEq, Int.reduceNeg, Int.reduceNe, Int.reduceAdd, Int.reduceSub, Int.reduceMul, Int.reduceToNat, Int.toNat_zero, Int.toNat_one, Int.toNat_natCast, am_cats, am_cat, am_st1, am_st2, am_clr, up2_na, up2_nj, up2_same, List.getElem?_cons_zero, List.getElem?_cons_succ, List.set_cons_zero, List.set_cons_succ, ne_eq, t0, eI_8, u3, k63 hl hn, sx_s]
    exact ⟨fun _ => fin, fun _ => fin⟩
  · intro S l5 l6 hS hl2 hN hV
    have hl2 : st.length + 1 + 1 ≤ i := hl2
    have nx := fun l5 l6 => ih (sx S st.length (rkn o a b)) l5 l6 (stkA_p hS.2.2) (show st.length + 1 ≤ i + 1 by omega) hN hV
    have hcc := hc i (by omega)
    rw [e] at hcc
    have c1 : I (q + 1) i = sgn o := hcc.1
    obtain ⟨g1, g2, g3, g4, g5⟩ := sgn_op ho
    have u1 : (i : Int) < (to : Int) := by omega
    have u2 : 0 ≤ (i : Int) ∧ (i : Int) < ((160 : Nat) : Int) := by omega
    have hn : st.length < 160 := by omega
    have hn1 : st.length + 1 < 160 := by omega
    have i2 : i ≤ 1080 := by omega
    have hb : S (st.length + 1) = b := hS.1
    have ha : S st.length = a := hS.2.1
    refine s60_8.mpr ?_
    show wp codeT mX (d + 2) 60 9 _ _ (185, s, T, eI I q S ((st.length + 1 + 1 : Nat) : Int) 0, J, R) Q
    simp only [s60_9, s60_10, s60_11, s60_12, s60_13, s60_14, s60_15, s60_16, s60_17, s60_18, s60_19, s60_20, s60_21, s60_29, s60_30, s60_31, s60_41, s60_42, s60_43, s60_51, s60_52, s60_53, s60_54, s60_55, s60_56, s60_85, s60_86, s60_87, s60_88, s60_89, s60_90, s60_91, s60_92, s60_93, s60_94, s60_95, s60_96, s60_97, Option.toList_some, Option.toList_none, List.cons_append, List.nil_append, Nat.le_refl, true_and, and_true, true_or, or_true, false_or, or_false, true_implies, false_implies, implies_true, not_true_eq_false, not_false_eq_true, eq_self, Nat.reduceLT, Nat.reduceLeDiff, Nat.reduceEqDiff, Nat.reduceAdd, Nat.reduceSub, Int.reduceLT, Int.reduceLE, Int.reduceEq, Int.reduceNeg, Int.reduceNe, Int.reduceAdd, Int.reduceSub, Int.reduceMul, Int.reduceToNat, Int.toNat_zero, Int.toNat_one, Int.toNat_natCast, am_cats, am_cat, am_st1, am_st2, am_clr, up2_na, up2_nj, up2_same, List.getElem?_cons_zero, List.getElem?_cons_succ, List.set_cons_zero, List.set_cons_succ, ne_eq, t0, t1, r1, eI_8, eI_1, c1, g1, g2, g3, g4, g5, u1, u2, u3, k63 hl hn, k63 hl hn1, ha, hb, k64 hl ho hz, k61 hl hn, w32_s i2]
    exact nx _ _
theorem k60 (hh : hp T R) (hl : lawAt T R q) {co : Nat → Int × Int} {m to : Nat} {ft : Nat → Int} (hto : to ≤ m) (hm : m ≤ 160) (hc : ∀ j, j < m → I (q + 1) j = sgn (co j).1 ∧ I (q + 2) j = (co j).2) (hf : ∀ v, v < 9 → I 78 v = ft v) {i : Nat} {r : Option Int} (hr : RUN ft co to i [] r) (hN : r = none → ∀ (S1 : Nat → Int) (h1 : Int), Q (some (.inl 0)) (185, s, T, eI I q S1 h1 1, J, R)) (hV : ∀ v, r = some v → ∀ S1 : Nat → Int, Q (some (.inl v)) (185, s, T, eI I q S1 0 0, J, R)) : wpc codeT mX (d + 2) 60 [.inr (.inr (some q)), .inl (i : Int), .inl (to : Int), .inr (.inr (some 77))] (185, s, T, eI I q S h rf, J, R) Q := by
  have t0 := hl.2.2.1
  have u3 : q < 185 := by have := hl.2.1; omega
  have fin := p60 (d := d) (s := s) (J := J) (Q := Q) (fr := some (.inl (i : Int))) hh hl hto hm hc hf hr S none none trivial (Nat.zero_le _) hN hV
  simp only [s60_0, s60_1, s60_2, s60_3, s60_4, s60_5, s60_6, s60_7, e60, Option.toList_some, Option.toList_none, List.cons_append, List.nil_append, Nat.le_refl, true_and, and_true, true_or, or_true, false_or, or_false, true_implies, false_implies, implies_true, not_true_eq_false, not_false_eq_true, eq_self, Nat.reduceLT, Nat.reduceLeDiff, Nat.reduceEqDiff, Nat.reduceAdd, Nat.reduceSub, Int.reduceLT, Int.reduceLE, Int.reduceEq, Int.reduceNeg, Int.reduceNe, Int.reduceAdd, Int.reduceSub, Int.reduceMul, Int.reduceToNat, Int.toNat_zero, Int.toNat_one, Int.toNat_natCast, am_cats, am_cat, am_st1, am_st2, am_clr, up2_na, up2_nj, up2_same, List.getElem?_cons_zero, List.getElem?_cons_succ, List.set_cons_zero, List.set_cons_succ, ne_eq, t0, u3, eu_7, eu_8]
  exact fin
end
/-- what a law says behind j clauses -/
def clm (w : Int) : Int := if w < 0 then 0 else if 100 < w then 100 else w
def sayC (ft : Nat → Int) (co : Nat → Int × Int) (b : List (Nat × Nat)) (P : Nat → Int → Prop) : Prop := (∀ j : Nat, j = b.length → P j 0) ∧ (∀ (j : Nat) (v : Int) (r : Option Int), j < b.length → RUN ft co (b.getD j (0, 0)).2 (b.getD j (0, 0)).1 [] r → (r = none ∨ r = some 0) → P (j + 1) v → P j v) ∧ (∀ j : Nat, j < b.length → RUN ft co (b.getD j (0, 0)).2 (b.getD j (0, 0)).1 [] (some 1) → RUN ft co (b.getD j (0, 0)).1 (stF 0 b j) [] none → P j 0) ∧ (∀ (j : Nat) (w : Int), j < b.length → RUN ft co (b.getD j (0, 0)).2 (b.getD j (0, 0)).1 [] (some 1) → RUN ft co (b.getD j (0, 0)).1 (stF 0 b j) [] (some w) → P j (clm w))
def SAY (ft : Nat → Int) (co : Nat → Int × Int) (b : List (Nat × Nat)) (j : Nat) (v : Int) : Prop := ∀ P : Nat → Int → Prop, sayC ft co b P → P j v
section
variable {ft : Nat → Int} {co : Nat → Int × Int} {b : List (Nat × Nat)} {j : Nat}
theorem SAY.fin (h : j = b.length) : SAY ft co b j 0 := fun P hP => hP.1 j h
theorem SAY.skp {v : Int} {r : Option Int} (h1 : j < b.length) (h2 : RUN ft co (b.getD j (0, 0)).2 (b.getD j (0, 0)).1 [] r) (h3 : r = none ∨ r = some 0) (h : SAY ft co b (j + 1) v) : SAY ft co b j v := fun P hP => hP.2.1 j v r h1 h2 h3 (h P hP)
theorem SAY.ref (h1 : j < b.length) (h2 : RUN ft co (b.getD j (0, 0)).2 (b.getD j (0, 0)).1 [] (some 1)) (h3 : RUN ft co (b.getD j (0, 0)).1 (stF 0 b j) [] none) : SAY ft co b j 0 := fun P hP => hP.2.2.1 j h1 h2 h3
theorem SAY.tak {w : Int} (h1 : j < b.length) (h2 : RUN ft co (b.getD j (0, 0)).2 (b.getD j (0, 0)).1 [] (some 1)) (h3 : RUN ft co (b.getD j (0, 0)).1 (stF 0 b j) [] (some w)) : SAY ft co b j (clm w) := fun P hP => hP.2.2.2 j w h1 h2 h3
end
theorem clm_b {w : Int} : 0 ≤ clm w ∧ clm w ≤ 100 := by
  unfold clm
  split
  · decide
  split
  · decide
  omega
theorem SAY_ex {ft : Nat → Int} {co : Nat → Int × Int} {b : List (Nat × Nat)} {m : Nat} (hv : lwV co b m) : ∀ n j, j + n = b.length → ∃ v, SAY ft co b j v ∧ 0 ≤ v ∧ v ≤ 100 := by
  intro n
  induction n with
  | zero => exact fun j hj => ⟨0, SAY.fin hj, by decide, by decide⟩
  | succ n ih =>
    intro j hj
    have hjb : j < b.length := by omega
    obtain ⟨⟨-, -, hr⟩, -⟩ := hv.2.2 j hjb
    obtain ⟨⟨r1, w1⟩, r2, c2, w2⟩ := hr ft
    obtain ⟨v, sv, v0, v1⟩ := ih (j + 1) (by omega)
    cases r2 with
    | none => exact ⟨v, SAY.skp hjb w2 (Or.inl rfl) sv, v0, v1⟩
    | some x =>
      rcases c2 x rfl with rfl | rfl
      · exact ⟨v, SAY.skp hjb w2 (Or.inr rfl) sv, v0, v1⟩
      · cases r1 with
        | none => exact ⟨0, SAY.ref hjb w2 w1, by decide, by decide⟩
        | some w => exact ⟨_, SAY.tak hjb w2 w1, clm_b.1, clm_b.2⟩
section
variable {d s q : Nat} {T : Nat → Nat × Nat} {I J : Nat → Nat → Int} {R : Nat → Nat → Option Nat} {Q : Option AV → AH → Prop}
theorem lwX_s {m j : Nat} {co : Nat → Int × Int} {b : List (Nat × Nat)} (hx : lwX I q co b m) (hj : j < b.length) : I (q + 3) j = ((stF 0 b j : Nat) : Int) := by
  cases j with
  | zero => exact hx.2.2.1
  | succ j => exact (hx.2.2.2 j (by omega)).2
set_option maxHeartbeats 1000000 in
theorem p59 (hh : hp T R) (hl : lawAt T R q) {co : Nat → Int × Int} {b : List (Nat × Nat)} {m : Nat} {ft : Nat → Int} (hx : lwX I q co b m) (hv : lwV co b m) (hf : ∀ v, v < 9 → I 78 v = ft v) {j : Nat} {v : Int} (sv : SAY ft co b j v) : ∀ (S : Nat → Int) (h rf : Int) (l3 l4 : Option AV), (∀ (S1 : Nat → Int) (h1 rf1 : Int), Q (some (.inl v)) (185, s, T, eI I q S1 h1 rf1, J, R)) → wp codeT mX (d + 3) 59 7 [some (.inr (.inr (some q))), some (.inr (.inr (some 77))), some (.inl (j : Int)), l3, l4] [] (185, s, T, eI I q S h rf, J, R) Q := by
  obtain ⟨h1, h2, t0, t1, t2, t3, t4, t5, r1, r2, r3, r4, r5⟩ := id hl
  obtain ⟨x0, xc, xz, xb⟩ := id hx
  obtain ⟨v1, v2, vr⟩ := id hv
  have u3 : q < 185 ∧ q + 3 < 185 ∧ q + 4 < 185 := by omega
  have goE : ∀ {S : Nat → Int} {h rf : Int} {i to : Nat} {r : Option Int} {Q : Option AV → AH → Prop}, to ≤ m → RUN ft co to i [] r → (r = none → ∀ (S1 : Nat → Int) (h1 : Int), Q (some (.inl 0)) (185, s, T, eI I q S1 h1 1, J, R)) → (∀ v, r = some v → ∀ S1 : Nat → Int, Q (some (.inl v)) (185, s, T, eI I q S1 0 0, J, R)) → wpc codeT mX (d + 2) 60 [.inr (.inr (some q)), .inl (i : Int), .inl (to : Int), .inr (.inr (some 77))] (185, s, T, eI I q S h rf, J, R) Q := fun ht hr hN hV => k60 hh hl ht v2 xc hf hr hN hV
  refine sv (fun j v => ∀ (S : Nat → Int) (h rf : Int) (l3 l4 : Option AV), (∀ (S1 : Nat → Int) (h1 rf1 : Int), Q (some (.inl v)) (185, s, T, eI I q S1 h1 rf1, J, R)) → wp codeT mX (d + 3) 59 7 [some (.inr (.inr (some q))), some (.inr (.inr (some 77))), some (.inl (j : Int)), l3, l4] [] (185, s, T, eI I q S h rf, J, R) Q) ⟨fun j hj => ?_, fun j v r hj w hr ih => ?_, fun j hj w w1 => ?_, fun j w hj w0 w1 => ?_⟩
  · intro S h rf l3 l4 hQ
    have fin := hQ S h rf
    have z : ¬ (j : Int) < (b.length : Int) := by omega
    refine s59_7.mpr ?_
    simp only [s59_8, s59_9, s59_10, s59_55, s59_56, Option.toList_some, Option.toList_none, List.cons_append, List.nil_append, Nat.le_refl, true_and, and_true, true_or, or_true, false_or, or_false, true_implies, false_implies, implies_true, not_true_eq_false, not_false_eq_true, eq_self, Nat.reduceLT, Nat.reduceLeDiff, Nat.reduceEqDiff, Nat.reduceAdd, Nat.reduceSub, Int.reduceLT, Int.reduceLE, Int.reduceEq, Int.reduceNeg, Int.reduceNe, Int.reduceAdd, Int.reduceSub, Int.reduceMul, Int.reduceToNat, Int.toNat_zero, Int.toNat_one, Int.toNat_natCast, am_cats, am_cat, am_st1, am_st2, am_clr, up2_na, up2_nj, up2_same, List.getElem?_cons_zero, List.getElem?_cons_succ, List.set_cons_zero, List.set_cons_succ, ne_eq, t0, u3, eI_0, x0, z]
    exact fin
  · intro S h rf l3 l4 hQ
    have z : (j : Int) < (b.length : Int) := by omega
    have b1 : 0 ≤ (j : Int) ∧ (j : Int) < ((12 : Nat) : Int) := by omega
    have b2 : 0 ≤ ((j + 1 : Nat) : Int) ∧ ((j + 1 : Nat) : Int) < ((13 : Nat) : Int) := by omega
    obtain ⟨x1, x2⟩ := xb j hj
    have i2 : j ≤ 1080 := by omega
    refine s59_7.mpr ?_
    simp only [s59_8, s59_9, s59_10, s59_11, s59_12, s59_13, s59_14, s59_15, s59_16, s59_17, s59_18, s59_19, s59_20, s59_21, s59_22, s59_23, Option.toList_some, Option.toList_none, List.cons_append, List.nil_append, Nat.le_refl, true_and, and_true, true_or, or_true, false_or, or_false, true_implies, false_implies, implies_true, not_true_eq_false, not_false_eq_true, eq_self, Nat.reduceLT, Nat.reduceLeDiff, Nat.reduceEqDiff, Nat.reduceAdd, Nat.reduceSub, Int.reduceLT, Int.reduceLE, Int.reduceEq, Int.reduceNeg, Int.reduceNe, Int.reduceAdd, Int.reduceSub, Int.reduceMul, Int.reduceToNat, Int.toNat_zero, Int.toNat_one, Int.toNat_natCast, am_cats, am_cat, am_st1, am_st2, am_clr, up2_na, up2_nj, up2_same, List.getElem?_cons_zero, List.getElem?_cons_succ, List.set_cons_zero, List.set_cons_succ, ne_eq, t0, t3, t4, r3, r4, u3, eI_0, eI_3, eI_4, x0, z, b1, b2, x1, x2, w32_s i2]
    refine goE (vr j hj).2 w (fun e S1 g1 => ⟨⟨Nat.le_refl _, Nat.le_refl _⟩, ?_⟩) (fun x e S1 => ⟨⟨Nat.le_refl _, Nat.le_refl _⟩, ?_⟩)
    · have nx := fun l3 l4 => ih S1 g1 1 l3 l4 hQ
      simp only [s59_24, s59_25, s59_26, s59_27, s59_53, s59_54, Option.toList_some, Option.toList_none, List.cons_append, List.nil_append, Nat.le_refl, true_and, and_true, true_or, or_true, false_or, or_false, true_implies, false_implies, implies_true, not_true_eq_false, not_false_eq_true, eq_self, Nat.reduceLT, Nat.reduceLeDiff, Nat.reduceEqDiff, Nat.reduceAdd, Nat.reduceSub, Int.reduceLT, Int.reduceLE, Int.reduceEq, Int.reduceNeg, Int.reduceNe, Int.reduceAdd, Int.reduceSub, Int.reduceMul, Int.reduceToNat, Int.toNat_zero, Int.toNat_one, Int.toNat_natCast, am_cats, am_cat, am_st1, am_st2, am_clr, up2_na, up2_nj, up2_same, List.getElem?_cons_zero, List.getElem?_cons_succ, List.set_cons_zero, List.set_cons_succ, ne_eq, t0, u3, eI_8, w32_s i2]
      exact nx _ _
    · have nx := fun l3 l4 => ih S1 0 0 l3 l4 hQ
      have x00 : x = 0 := by
        rcases hr with e2 | e2
        · rw [e2] at e
          cases e
        · rw [e2] at e
          cases e
          rfl
      subst x00
      simp only [s59_24, s59_25, s59_26, s59_27, s59_28, s59_29, s59_53, s59_54, Option.toList_some, Option.toList_none, List.cons_append, List.nil_append, Nat.le_refl, true_and, and_true, true_or, or_true, false_or, or_false, true_implies, false_implies, implies_true, not_true_eq_false, not_false_eq_true, eq_self, Nat.reduceLT, Nat.reduceLeDiff, Nat.reduceEqDiff, Nat.reduceAdd, Nat.reduceSub, Int.reduceLT, Int.reduceLE, Int.reduceEq, Int.reduceNeg, Int.reduceNe, Int.reduceAdd, Int.reduceSub, Int.reduceMul, Int.reduceToNat, Int.toNat_zero, Int.toNat_one, Int.toNat_natCast, am_cats, am_cat, am_st1, am_st2, am_clr, up2_na, up2_nj, up2_same, List.getElem?_cons_zero, List.getElem?_cons_succ, List.set_cons_zero, List.set_cons_succ, ne_eq, t0, u3, eI_8, w32_s i2]
      exact nx _ _
  · intro S h rf l3 l4 hQ
    have z : (j : Int) < (b.length : Int) := by omega
    have b1 : 0 ≤ (j : Int) ∧ (j : Int) < ((12 : Nat) : Int) := by omega
    have b2 : 0 ≤ ((j + 1 : Nat) : Int) ∧ ((j + 1 : Nat) : Int) < ((13 : Nat) : Int) := by omega
    have b3 : (j : Int) < ((13 : Nat) : Int) := by omega
    obtain ⟨x1, x2⟩ := xb j hj
    have x3 := lwX_s hx hj
    have hle : (b.getD j (0, 0)).1 ≤ m := Nat.le_trans (vr j hj).1.2.1 (vr j hj).2
    have i2 : j ≤ 1080 := by omega
    refine s59_7.mpr ?_
    simp only [s59_8, s59_9, s59_10, s59_11, s59_12, s59_13, s59_14, s59_15, s59_16, s59_17, s59_18, s59_19, s59_20, s59_21, s59_22, s59_23, Option.toList_some, Option.toList_none, List.cons_append, List.nil_append, Nat.le_refl, true_and, and_true, true_or, or_true, false_or, or_false, true_implies, false_implies, implies_true, not_true_eq_false, not_false_eq_true, eq_self, Nat.reduceLT, Nat.reduceLeDiff, Nat.reduceEqDiff, Nat.reduceAdd, Nat.reduceSub, Int.reduceLT, Int.reduceLE, Int.reduceEq, Int.reduceNeg, Int.reduceNe, Int.reduceAdd, Int.reduceSub, Int.reduceMul, Int.reduceToNat, Int.toNat_zero, Int.toNat_one, Int.toNat_natCast, am_cats, am_cat, am_st1, am_st2, am_clr, up2_na, up2_nj, up2_same, List.getElem?_cons_zero, List.getElem?_cons_succ, List.set_cons_zero, List.set_cons_succ, ne_eq, t0, t3, t4, r3, r4, u3, eI_0, eI_3, eI_4, x0, z, b1, b2, x1, x2, w32_s i2]
    refine goE (vr j hj).2 w (fun e => by cases e) (fun x e S1 => ⟨⟨Nat.le_refl _, Nat.le_refl _⟩, ?_⟩)
    cases e
    simp only [s59_24, s59_25, s59_26, s59_27, s59_28, s59_29, s59_30, s59_31, s59_32, s59_33, s59_34, s59_35, s59_36, s59_37, s59_38, s59_39, s59_40, Option.toList_some, Option.toList_none, List.cons_append, List.nil_append, Nat.le_refl, true_and, and_true, true_or, or_true, false_or, or_false, true_implies, false_implies, implies_true, not_true_eq_false, not_false_eq_true, eq_self, Nat.reduceLT, Nat.reduceLeDiff, Nat.reduceEqDiff, Nat.reduceAdd, Nat.reduceSub, Int.reduceLT, Int.reduceLE, Int.reduceEq, Int.reduceNeg, Int.reduceNe, Int.reduceAdd, Int.reduceSub, Int.reduceMul, Int.reduceToNat, Int.toNat_zero, Int.toNat_one, Int.toNat_natCast, am_cats, am_cat, am_st1, am_st2, am_clr, up2_na, up2_nj, up2_same, List.getElem?_cons_zero, List.getElem?_cons_succ, List.set_cons_zero, List.set_cons_succ, ne_eq, t0, t3, t4, r3, r4, u3, eI_8, eI_3, eI_4, b1, b3, x1, x3]
    refine goE hle w1 (fun e S2 g2 => ⟨⟨Nat.le_refl _, Nat.le_refl _⟩, ?_⟩) (fun x e => by cases e)
    have fin := hQ S2 g2 1
    simp only [s59_41, s59_42, s59_43, s59_44, s59_45, s59_46, s59_52, Option.toList_some, Option.toList_none, List.cons_append, List.nil_append, Nat.le_refl, true_and, and_true, true_or, or_true, false_or, or_false, true_implies, false_implies, implies_true, not_true_eq_false, not_false_eq_true, eq_self, Nat.reduceLT, Nat.reduceLeDiff, Nat.reduceEqDiff, Nat.reduceAdd, Nat.reduceSub, Int.reduceLT, Int.reduceLE, Int.reduceEq, Int.reduceNeg, Int.reduceNe, Int.reduceAdd, Int.reduceSub, Int.reduceMul, Int.reduceToNat, Int.toNat_zero, Int.toNat_one, Int.toNat_natCast, am_cats, am_cat, am_st1, am_st2, am_clr, up2_na, up2_nj, up2_same, List.getElem?_cons_zero, List.getElem?_cons_succ, List.set_cons_zero, List.set_cons_succ, ne_eq, t0, u3, eI_8]
    exact fin
  · intro S h rf l3 l4 hQ
    have z : (j : Int) < (b.length : Int) := by omega
    have b1 : 0 ≤ (j : Int) ∧ (j : Int) < ((12 : Nat) : Int) := by omega
    have b2 : 0 ≤ ((j + 1 : Nat) : Int) ∧ ((j + 1 : Nat) : Int) < ((13 : Nat) : Int) := by omega
    have b3 : (j : Int) < ((13 : Nat) : Int) := by omega
    obtain ⟨x1, x2⟩ := xb j hj
    have x3 := lwX_s hx hj
    have hle : (b.getD j (0, 0)).1 ≤ m := Nat.le_trans (vr j hj).1.2.1 (vr j hj).2
    have i2 : j ≤ 1080 := by omega
    refine s59_7.mpr ?_
    simp only [s59_8, s59_9, s59_10, s59_11, s59_12, s59_13, s59_14, s59_15, s59_16, s59_17, s59_18, s59_19, s59_20, s59_21, s59_22, s59_23, Option.toList_some, Option.toList_none, List.cons_append, List.nil_append, Nat.le_refl, true_and, and_true, true_or, or_true, false_or, or_false, true_implies, false_implies, implies_true, not_true_eq_false, not_false_eq_true, eq_self, Nat.reduceLT, Nat.reduceLeDiff, Nat.reduceEqDiff, Nat.reduceAdd, Nat.reduceSub, Int.reduceLT, Int.reduceLE, Int.reduceEq, Int.reduceNeg, Int.reduceNe, Int.reduceAdd, Int.reduceSub, Int.reduceMul, Int.reduceToNat, Int.toNat_zero, Int.toNat_one, Int.toNat_natCast, am_cats, am_cat, am_st1, am_st2, am_clr, up2_na, up2_nj, up2_same, List.getElem?_cons_zero, List.getElem?_cons_succ, List.set_cons_zero, List.set_cons_succ, ne_eq, t0, t3, t4, r3, r4, u3, eI_0, eI_3, eI_4, x0, z, b1, b2, x1, x2, w32_s i2]
    refine goE (vr j hj).2 w0 (fun e => by cases e) (fun x e S1 => ⟨⟨Nat.le_refl _, Nat.le_refl _⟩, ?_⟩)
    cases e
    simp only [s59_24, s59_25, s59_26, s59_27, s59_28, s59_29, s59_30, s59_31, s59_32, s59_33, s59_34, s59_35, s59_36, s59_37, s59_38, s59_39, s59_40, Option.toList_some, Option.toList_none, List.cons_append, List.nil_append, Nat.le_refl, true_and, and_true, true_or, or_true, false_or, or_false, true_implies, false_implies, implies_true, not_true_eq_false, not_false_eq_true, eq_self, Nat.reduceLT, Nat.reduceLeDiff, Nat.reduceEqDiff, Nat.reduceAdd, Nat.reduceSub, Int.reduceLT, Int.reduceLE, Int.reduceEq, Int.reduceNeg, Int.reduceNe, Int.reduceAdd, Int.reduceSub, Int.reduceMul, Int.reduceToNat, Int.toNat_zero, Int.toNat_one, Int.toNat_natCast, am_cats, am_cat, am_st1, am_st2, am_clr, up2_na, up2_nj, up2_same, List.getElem?_cons_zero, List.getElem?_cons_succ, List.set_cons_zero, List.set_cons_succ, ne_eq, t0, t3, t4, r3, r4, u3, eI_8, eI_3, eI_4, b1, b3, x1, x3]
    refine goE hle w1 (fun e => by cases e) (fun x e S2 => ⟨⟨Nat.le_refl _, Nat.le_refl _⟩, ?_⟩)
    cases e
    have fin := hQ S2 0 0
    have mm : (if 0 < (if w < 100 then w else 100) then (if w < 100 then w else 100) else 0) = clm w := by
      unfold clm
      repeat' split
      all_goals omega
    simp only [s59_41, s59_42, s59_43, s59_44, s59_47, s59_48, s59_49, s59_50, s59_51, s59_52, Option.toList_some, Option.toList_none, List.cons_append, List.nil_append, Nat.le_refl, true_and, and_true, true_or, or_true, false_or, or_false, true_implies, false_implies, implies_true, not_true_eq_false, not_false_eq_true, eq_self, Nat.reduceLT, Nat.reduceLeDiff, Nat.reduceEqDiff, Nat.reduceAdd, Nat.reduceSub, Int.reduceLT, Int.reduceLE, Int.reduceEq, Int.reduceNeg, Int.reduceNe, Int.reduceAdd, Int.reduceSub, Int.reduceMul, Int.reduceToNat, Int.toNat_zero, Int.toNat_one, Int.toNat_natCast, am_cats, am_cat, am_st1, am_st2, am_clr, up2_na, up2_nj, up2_same, List.getElem?_cons_zero, List.getElem?_cons_succ, List.set_cons_zero, List.set_cons_succ, ne_eq, t0, u3, eI_8, k211, k212, mm]
    exact fin
/-- what the class's law says -/
theorem k59 (hh : hp T R) (hl : lawAt T R q) {co : Nat → Int × Int} {b : List (Nat × Nat)} {m : Nat} {ft : Nat → Int} (hx : lwX I q co b m) (hv : lwV co b m) (hf : ∀ v, v < 9 → I 78 v = ft v) {v : Int} (sv : SAY ft co b 0 v) (hQ : ∀ (S1 : Nat → Int) (h1 rf1 : Int), Q (some (.inl (if b.length = 0 then 100 else v))) (185, s, T, eI I q S1 h1 rf1, J, R)) : wpc codeT mX (d + 3) 59 [.inr (.inr (some q)), .inr (.inr (some 77))] (185, s, T, I, J, R) Q := by
  have t0 := hl.2.2.1
  have u3 : q < 185 := by have := hl.2.1; omega
  have x0 := hx.1
  rw [← eI_id (I := I) (q := q)]
  by_cases hb : b.length = 0
  · rw [if_pos hb] at hQ
    have fin := hQ (I (q + 5)) (I q 7) (I q 8)
    rw [hb] at x0
    have x0 : I q 0 = 0 := x0
    simp only [s59_0, s59_1, s59_2, s59_3, s59_4, e59, Option.toList_some, Option.toList_none, List.cons_append, List.nil_append, Nat.le_refl, true_and, and_true, true_or, or_true, false_or, or_false, true_implies, false_implies, implies_true, not_true_eq_false, not_false_eq_true, eq_self, Nat.reduceLT, Nat.reduceLeDiff, Nat.reduceEqDiff, Nat.reduceAdd, Nat.reduceSub, Int.reduceLT, Int.reduceLE, Int.reduceEq, Int.reduceNeg, Int.reduceNe, Int.reduceAdd, Int.reduceSub, Int.reduceMul, Int.reduceToNat, Int.toNat_zero, Int.toNat_one, Int.toNat_natCast, am_cats, am_cat, am_st1, am_st2, am_clr, up2_na, up2_nj, up2_same, List.getElem?_cons_zero, List.getElem?_cons_succ, List.set_cons_zero, List.set_cons_succ, ne_eq, t0, u3, eI_0, x0]
    exact fin
  · rw [if_neg hb] at hQ
    have fin := fun l3 l4 => p59 (d := d) (s := s) (J := J) (Q := Q) hh hl hx hv hf sv (I (q + 5)) (I q 7) (I q 8) l3 l4 hQ
    have z : ¬ (b.length : Int) = 0 := by omega
    simp only [s59_0, s59_1, s59_2, s59_3, s59_4, s59_5, s59_6, e59, Option.toList_some, Option.toList_none, List.cons_append, List.nil_append, Nat.le_refl, true_and, and_true, true_or, or_true, false_or, or_false, true_implies, false_implies, implies_true, not_true_eq_false, not_false_eq_true, eq_self, Nat.reduceLT, Nat.reduceLeDiff, Nat.reduceEqDiff, Nat.reduceAdd, Nat.reduceSub, Int.reduceLT, Int.reduceLE, Int.reduceEq, Int.reduceNeg, Int.reduceNe, Int.reduceAdd, Int.reduceSub, Int.reduceMul, Int.reduceToNat, Int.toNat_zero, Int.toNat_one, Int.toNat_natCast, am_cats, am_cat, am_st1, am_st2, am_clr, up2_na, up2_nj, up2_same, List.getElem?_cons_zero, List.getElem?_cons_succ, List.set_cons_zero, List.set_cons_succ, ne_eq, t0, u3, eI_0, x0, z]
    exact fin _ _
end
