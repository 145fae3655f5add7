/-! the law's two readers, 2: the class's reader, its small methods -/
/-- the cells of the reader and of the law that is read into -/
def xI (I : Nat → Nat → Int) (q : Nat) (p fa cl sz : Int) (S V A C : Nat → Int) : Nat → Nat → Int := fun a j => if a = 79 then (if j = 2 then p else if j = 3 then fa else I 79 j) else if a = q then (if j = 0 then cl else if j = 6 then sz else I q j) else if a = q + 1 then S j else if a = q + 2 then V j else if a = q + 3 then A j else if a = q + 4 then C j else I a j
def lawAt (T : Nat → Nat × Nat) (R : Nat → Nat → Option Nat) (q : Nat) : Prop := 80 < q ∧ q + 5 < 185 ∧ T q = (4, 9) ∧ T (q + 1) = (100, 160) ∧ T (q + 2) = (100, 160) ∧ T (q + 3) = (100, 13) ∧ T (q + 4) = (100, 12) ∧ T (q + 5) = (100, 160) ∧ R q 1 = some (q + 1) ∧ R q 2 = some (q + 2) ∧ R q 3 = some (q + 3) ∧ R q 4 = some (q + 4) ∧ R q 5 = some (q + 5)
def lawIds : List Nat := [81, 116, 122, 128, 134, 140, 146]
theorem lawAt_of {T : Nat → Nat × Nat} {R : Nat → Nat → Option Nat} (hh : hp T R) {q : Nat} (hq : q ∈ lawIds) : lawAt T R q := by
  have f : ∀ q, q ∈ lawIds → (80 < q ∧ q + 5 < 185) ∧ (tT.getD q (0, 0) = (4, 9) ∧ tT.getD (q + 1) (0, 0) = (100, 160) ∧ tT.getD (q + 2) (0, 0) = (100, 160) ∧ tT.getD (q + 3) (0, 0) = (100, 13) ∧ tT.getD (q + 4) (0, 0) = (100, 12) ∧ tT.getD (q + 5) (0, 0) = (100, 160)) ∧ bR q 1 = [q + 1] ∧ bR q 2 = [q + 2] ∧ bR q 3 = [q + 3] ∧ bR q 4 = [q + 4] ∧ bR q 5 = [q + 5] := by decide +kernel
  obtain ⟨⟨h1, h2⟩, ⟨t0, t1, t2, t3, t4, t5⟩, r1, r2, r3, r4, r5⟩ := f q hq
  have n : nO = 185 := rfl
  exact ⟨h1, h2, (hh.1 _ (by omega)).trans t0, (hh.1 _ (by omega)).trans t1, (hh.1 _ (by omega)).trans t2, (hh.1 _ (by omega)).trans t3, (hh.1 _ (by omega)).trans t4, (hh.1 _ (by omega)).trans t5, hh.2 _ _ _ (by omega) (by rw [t0]; decide) r1, hh.2 _ _ _ (by omega) (by rw [t0]; decide) r2, hh.2 _ _ _ (by omega) (by rw [t0]; decide) r3, hh.2 _ _ _ (by omega) (by rw [t0]; decide) r4, hh.2 _ _ _ (by omega) (by rw [t0]; decide) r5⟩
section
variable {I : Nat → Nat → Int} {q : Nat} {p fa cl sz v : Int} {S V A C : Nat → Int} {j : Nat}
theorem xI_1 : xI I q p fa cl sz S V A C 79 1 = I 79 1 := rfl
theorem xI_p : xI I q p fa cl sz S V A C 79 2 = p := rfl
theorem xI_f : xI I q p fa cl sz S V A C 79 3 = fa := rfl
theorem xI_c (h : 80 < q) : xI I q p fa cl sz S V A C q 0 = cl := by
  unfold xI
  rw [if_neg (by omega), if_pos rfl, if_pos rfl]
theorem xI_z (h : 80 < q) : xI I q p fa cl sz S V A C q 6 = sz := by
  unfold xI
  rw [if_neg (by omega), if_pos rfl, if_neg (by decide), if_pos rfl]
theorem xI_S (h : 80 < q) : xI I q p fa cl sz S V A C (q + 1) j = S j := by
  unfold xI
  rw [if_neg (by omega), if_neg (by omega), if_pos rfl]
theorem xI_V (h : 80 < q) : xI I q p fa cl sz S V A C (q + 2) j = V j := by
  unfold xI
  rw [if_neg (by omega), if_neg (by omega), if_neg (by omega), if_pos rfl]
theorem xI_A (h : 80 < q) : xI I q p fa cl sz S V A C (q + 3) j = A j := by
  unfold xI
  rw [if_neg (by omega), if_neg (by omega), if_neg (by omega), if_neg (by omega), if_pos rfl]
theorem xI_C (h : 80 < q) : xI I q p fa cl sz S V A C (q + 4) j = C j := by
  unfold xI
  rw [if_neg (by omega), if_neg (by omega), if_neg (by omega), if_neg (by omega), if_neg (by omega), if_pos rfl]
theorem xI_o (h : 80 < q) {a : Nat} (h1 : a ≠ 79) (h2 : a < q ∨ q + 4 < a) : xI I q p fa cl sz S V A C a j = I a j := by
  unfold xI
  rw [if_neg h1, if_neg (by omega), if_neg (by omega), if_neg (by omega), if_neg (by omega), if_neg (by omega)]
theorem xI_2 (h : 80 < q) : xI I q p fa cl sz S V A C 2 j = I 2 j := xI_o h (by decide) (by omega)
theorem xu_p : up2 (xI I q p fa cl sz S V A C) 79 2 v = xI I q v fa cl sz S V A C := by
  funext a i
  unfold up2 xI
  by_cases h : a = 79
  · subst h
    by_cases h2 : i = 2
    · subst h2
      simp
    · simp [h2]
  · simp [h]
theorem xu_f : up2 (xI I q p fa cl sz S V A C) 79 3 v = xI I q p v cl sz S V A C := by
  funext a i
  unfold up2 xI
  by_cases h : a = 79
  · subst h
    by_cases h2 : i = 3
    · subst h2
      simp
    · simp [h2]
  · simp [h]
theorem xu_c (hq : 80 < q) : up2 (xI I q p fa cl sz S V A C) q 0 v = xI I q p fa v sz S V A C := by
  funext a i
  show (if a = q ∧ i = 0 then v else xI I q p fa cl sz S V A C a i) = _
  unfold xI
  by_cases h : a = q
  · have h9 : ¬ a = 79 := by omega
    by_cases h2 : i = 0
    · rw [if_pos ⟨h, h2⟩, if_neg h9, if_pos h, if_pos h2]
    · rw [if_neg (fun z => h2 z.2), if_neg h9, if_pos h, if_neg h2, if_neg h9, if_pos h, if_neg h2]
  · rw [if_neg (fun z => h z.1)]
    by_cases h9 : a = 79
    · rw [if_pos h9, if_pos h9]
    · rw [if_neg h9, if_neg h, if_neg h9, if_neg h]
theorem xu_z (hq : 80 < q) : up2 (xI I q p fa cl sz S V A C) q 6 v = xI I q p fa cl v S V A C := by
  funext a i
  show (if a = q ∧ i = 6 then v else xI I q p fa cl sz S V A C a i) = _
  unfold xI
  by_cases h : a = q
  · have h9 : ¬ a = 79 := by omega
    by_cases h2 : i = 6
    · rw [if_pos ⟨h, h2⟩, if_neg h9, if_pos h, if_neg (by omega), if_pos h2]
    · rw [if_neg (fun z => h2 z.2), if_neg h9, if_pos h, if_neg h9, if_pos h]
      by_cases h3 : i = 0
      · rw [if_pos h3, if_pos h3]
      · rw [if_neg h3, if_neg h2, if_neg h3, if_neg h2]
  · rw [if_neg (fun z => h z.1)]
    by_cases h9 : a = 79
    · rw [if_pos h9, if_pos h9]
    · rw [if_neg h9, if_neg h, if_neg h9, if_neg h]
theorem xu_S (hq : 80 < q) : up2 (xI I q p fa cl sz S V A C) (q + 1) j v = xI I q p fa cl sz (sx S j v) V A C := by
  funext a i
  show (if a = q + 1 ∧ i = j then v else xI I q p fa cl sz S V A C a i) = _
  unfold xI sx
  by_cases h : a = q + 1
  · have h9 : ¬ a = 79 := by omega
    have h8 : ¬ a = q := by omega
    by_cases h2 : i = j
    · rw [if_pos ⟨h, h2⟩, if_neg h9, if_neg h8, if_pos h, if_pos h2]
    · rw [if_neg (fun z => h2 z.2), if_neg h9, if_neg h8, if_pos h, if_neg h9, if_neg h8, if_pos h, if_neg h2]
  · rw [if_neg (fun z => h z.1), if_neg h, if_neg h]
theorem xu_V (hq : 80 < q) : up2 (xI I q p fa cl sz S V A C) (q + 2) j v = xI I q p fa cl sz S (sx V j v) A C := by
  funext a i
  show (if a = q + 2 ∧ i = j then v else xI I q p fa cl sz S V A C a i) = _
  unfold xI sx
  by_cases h : a = q + 2
  · have h9 : ¬ a = 79 := by omega
    have h8 : ¬ a = q := by omega
    have h7 : ¬ a = q + 1 := by omega
    by_cases h2 : i = j
    · rw [if_pos ⟨h, h2⟩, if_neg h9, if_neg h8, if_neg h7, if_pos h, if_pos h2]
    · rw [if_neg (fun z => h2 z.2), if_neg h9, if_neg h8, if_neg h7, if_pos h, if_neg h9, if_neg h8, if_neg h7, if_pos h, if_neg h2]
  · rw [if_neg (fun z => h z.1), if_neg h, if_neg h]
theorem xu_A (hq : 80 < q) : up2 (xI I q p fa cl sz S V A C) (q + 3) j v = xI I q p fa cl sz S V (sx A j v) C := by
  funext a i
  show (if a = q + 3 ∧ i = j then v else xI I q p fa cl sz S V A C a i) = _
  unfold xI sx
  by_cases h : a = q + 3
  · have h9 : ¬ a = 79 := by omega
    have h8 : ¬ a = q := by omega
    have h7 : ¬ a = q + 1 := by omega
    have h6 : ¬ a = q + 2 := by omega
    by_cases h2 : i = j
    · rw [if_pos ⟨h, h2⟩, if_neg h9, if_neg h8, if_neg h7, if_neg h6, if_pos h, if_pos h2]
    · rw [if_neg (fun z => h2 z.2), if_neg h9, if_neg h8, if_neg h7, if_neg h6, if_pos h, if_neg h9, if_neg h8, if_neg h7, if_neg h6, if_pos h, if_neg h2]
  · rw [if_neg (fun z => h z.1), if_neg h, if_neg h]
theorem xu_C (hq : 80 < q) : up2 (xI I q p fa cl sz S V A C) (q + 4) j v = xI I q p fa cl sz S V A (sx C j v) := by
  funext a i
  show (if a = q + 4 ∧ i = j then v else xI I q p fa cl sz S V A C a i) = _
  unfold xI sx
  by_cases h : a = q + 4
  · have h9 : ¬ a = 79 := by omega
    have h8 : ¬ a = q := by omega
    have h7 : ¬ a = q + 1 := by omega
    have h6 : ¬ a = q + 2 := by omega
    have h5 : ¬ a = q + 3 := by omega
    by_cases h2 : i = j
    · rw [if_pos ⟨h, h2⟩, if_neg h9, if_neg h8, if_neg h7, if_neg h6, if_neg h5, if_pos h, if_pos h2]
    · rw [if_neg (fun z => h2 z.2), if_neg h9, if_neg h8, if_neg h7, if_neg h6, if_neg h5, if_pos h, if_neg h9, if_neg h8, if_neg h7, if_neg h6, if_neg h5, if_pos h, if_neg h2]
  · rw [if_neg (fun z => h z.1), if_neg h, if_neg h]
end
def sgX (I : Nat → Nat → Int) (L p : Nat) : Int := if p < L then I 2 p else -1
section
variable {d s q L p n : Nat} {T : Nat → Nat × Nat} {I J : Nat → Nat → Int} {R : Nat → Nat → Option Nat} {Q : Option AV → AH → Prop} {fa cl sz : Int} {S V A C : Nat → Int}
theorem k30 (hh : hp T R) (hq : 80 < q) (hL : I 79 1 = L) (hL2 : L ≤ 160) (hR : R 79 0 = some 2) : wpc codeT mX d 30 [.inr (.inr (some 79))] (185, s, T, xI I q (p : Int) 0 cl sz S V A C, J, R) Q ↔ Q (some (.inl (sgX I L p))) (185, s, T, xI I q (p : Int) 0 cl sz S V A C, J, R) := wpc_det (by
  by_cases h : p < L
  · have e : sgX I L p = I 2 p := if_pos h
    have u1 : (p : Int) < (L : Int) := by omega
    have u2 : 0 ≤ (p : Int) ∧ (p : Int) < ((200 : Nat) : Int) := by omega
    rw [e]
    simp only [e30, s30_0, s30_1, s30_2, s30_3, s30_4, s30_5, s30_6, s30_7, s30_8, s30_9, s30_10, s30_11, s30_12, s30_13, s30_14, s30_15, Option.toList_some, Option.toList_none, List.cons_append, List.nil_append, Nat.le_refl, true_and, and_true, true_or, or_true, false_or, or_false, true_implies, false_implies, implies_true, not_true_eq_false, not_false_eq_true, eq_self, Nat.reduceLT, Nat.reduceLeDiff, Nat.reduceEqDiff, Nat.reduceAdd, Nat.reduceSub, Int.reduceLT, Int.reduceLE, Int.reduceEq, Int.reduceNeg, Int.reduceNe, Int.reduceAdd, Int.reduceSub, Int.reduceMul, Int.reduceToNat, Int.toNat_zero, Int.toNat_one, Int.toNat_natCast, am_cats, am_cat, am_st1, am_st2, am_clr, up2_na, up2_nj, up2_same, List.getElem?_cons_zero, List.getElem?_cons_succ, List.set_cons_zero, List.set_cons_succ, ne_eq, tk_79 hh, tk_2 hh, hR, xI_1, xI_p, xI_f, xI_2 hq, hL, u1, u2]
  · have e : sgX I L p = -1 := if_neg h
    have u1 : ¬ (p : Int) < (L : Int) := by omega
    rw [e]
    simp only [e30, s30_0, s30_1, s30_2, s30_3, s30_4, s30_5, s30_6, s30_7, s30_8, s30_9, s30_10, s30_11, s30_12, s30_13, s30_14, s30_15, Option.toList_some, Option.toList_none, List.cons_append, List.nil_append, Nat.le_refl, true_and, and_true, true_or, or_true, false_or, or_false, true_implies, false_implies, implies_true, not_true_eq_false, not_false_eq_true, eq_self, Nat.reduceLT, Nat.reduceLeDiff, Nat.reduceEqDiff, Nat.reduceAdd, Nat.reduceSub, Int.reduceLT, Int.reduceLE, Int.reduceEq, Int.reduceNeg, Int.reduceNe, Int.reduceAdd, Int.reduceSub, Int.reduceMul, Int.reduceToNat, Int.toNat_zero, Int.toNat_one, Int.toNat_natCast, am_cats, am_cat, am_st1, am_st2, am_clr, up2_na, up2_nj, up2_same, List.getElem?_cons_zero, List.getElem?_cons_succ, List.set_cons_zero, List.set_cons_succ, ne_eq, tk_79 hh, xI_1, xI_p, xI_f, hL, u1])
theorem k30f (hh : hp T R) (hf : ¬ fa = 0) {p : Int} : wpc codeT mX d 30 [.inr (.inr (some 79))] (185, s, T, xI I q p fa cl sz S V A C, J, R) Q ↔ Q (some (.inl (-1))) (185, s, T, xI I q p fa cl sz S V A C, J, R) := wpc_det (by
  simp only [e30, s30_0, s30_1, s30_2, s30_3, s30_4, s30_5, s30_6, s30_7, s30_8, s30_9, s30_10, s30_11, s30_12, s30_13, s30_14, s30_15, Option.toList_some, Option.toList_none, List.cons_append, List.nil_append, Nat.le_refl, true_and, and_true, true_or, or_true, false_or, or_false, true_implies, false_implies, implies_true, not_true_eq_false, not_false_eq_true, eq_self, Nat.reduceLT, Nat.reduceLeDiff, Nat.reduceEqDiff, Nat.reduceAdd, Nat.reduceSub, Int.reduceLT, Int.reduceLE, Int.reduceEq, Int.reduceNeg, Int.reduceNe, Int.reduceAdd, Int.reduceSub, Int.reduceMul, Int.reduceToNat, Int.toNat_zero, Int.toNat_one, Int.toNat_natCast, am_cats, am_cat, am_st1, am_st2, am_clr, up2_na, up2_nj, up2_same, List.getElem?_cons_zero, List.getElem?_cons_succ, List.set_cons_zero, List.set_cons_succ, ne_eq, tk_79 hh, xI_f, hf])
theorem k31 (hh : hp T R) {z : Int} (hz : 1 ≤ z ∧ z ≤ 9) (hp2 : p ≤ 160) : wpc codeT mX d 31 [.inr (.inr (some 79)), .inl z] (185, s, T, xI I q (p : Int) 0 cl sz S V A C, J, R) Q ↔ Q none (185, s, T, xI I q (p : Int) (-1000 * z - (p : Int)) cl sz S V A C, J, R) := wpc_det (by
  have e1 : w32 (-1000 * z) = -1000 * z := w32_eq (by omega) (by omega)
  have e2 : w32 (-1000 * z - (p : Int)) = -1000 * z - (p : Int) := w32_eq (by omega) (by omega)
  simp only [e31, s31_0, s31_1, s31_2, s31_3, s31_4, s31_5, s31_6, s31_7, s31_8, s31_9, s31_10, s31_11, Option.toList_some, Option.toList_none, List.cons_append, List.nil_append, Nat.le_refl, true_and, and_true, true_or, or_true, false_or, or_false, true_implies, false_implies, implies_true, not_true_eq_false, not_false_eq_true, eq_self, Nat.reduceLT, Nat.reduceLeDiff, Nat.reduceEqDiff, Nat.reduceAdd, Nat.reduceSub, Int.reduceLT, Int.reduceLE, Int.reduceEq, Int.reduceNeg, Int.reduceNe, Int.reduceAdd, Int.reduceSub, Int.reduceMul, Int.reduceToNat, Int.toNat_zero, Int.toNat_one, Int.toNat_natCast, am_cats, am_cat, am_st1, am_st2, am_clr, up2_na, up2_nj, up2_same, List.getElem?_cons_zero, List.getElem?_cons_succ, List.set_cons_zero, List.set_cons_succ, ne_eq, tk_79 hh, xI_p, xI_f, xu_f, e1, e2])
theorem k31f (hh : hp T R) (hf : ¬ fa = 0) {p z : Int} : wpc codeT mX d 31 [.inr (.inr (some 79)), .inl z] (185, s, T, xI I q p fa cl sz S V A C, J, R) Q ↔ Q none (185, s, T, xI I q p fa cl sz S V A C, J, R) := wpc_det (by
  simp only [e31, s31_0, s31_1, s31_2, s31_3, s31_4, s31_5, s31_6, s31_7, s31_8, s31_9, s31_10, s31_11, Option.toList_some, Option.toList_none, List.cons_append, List.nil_append, Nat.le_refl, true_and, and_true, true_or, or_true, false_or, or_false, true_implies, false_implies, implies_true, not_true_eq_false, not_false_eq_true, eq_self, Nat.reduceLT, Nat.reduceLeDiff, Nat.reduceEqDiff, Nat.reduceAdd, Nat.reduceSub, Int.reduceLT, Int.reduceLE, Int.reduceEq, Int.reduceNeg, Int.reduceNe, Int.reduceAdd, Int.reduceSub, Int.reduceMul, Int.reduceToNat, Int.toNat_zero, Int.toNat_one, Int.toNat_natCast, am_cats, am_cat, am_st1, am_st2, am_clr, up2_na, up2_nj, up2_same, List.getElem?_cons_zero, List.getElem?_cons_succ, List.set_cons_zero, List.set_cons_succ, ne_eq, tk_79 hh, xI_f, hf])
theorem k32y (hh : hp T R) (hq : 80 < q) (hL : I 79 1 = L) (hL2 : L ≤ 160) (hR : R 79 0 = some 2) {c : Int} (hc : sgX I L p = c) (hp2 : p < L) : wpc codeT mX (d + 1) 32 [.inr (.inr (some 79)), .inl c] (185, s, T, xI I q (p : Int) 0 cl sz S V A C, J, R) Q ↔ Q none (185, s, T, xI I q ((p + 1 : Nat) : Int) 0 cl sz S V A C, J, R) := wpc_det (by
  have v1 := w32_c (show (p : Int) + 1 = ((p + 1 : Nat) : Int) by omega) (by omega)
  simp only [e32, s32_0, s32_1, s32_2, s32_3, s32_4, s32_5, s32_6, s32_7, s32_8, s32_9, s32_10, s32_11, s32_12, s32_13, s32_14, Option.toList_some, Option.toList_none, List.cons_append, List.nil_append, Nat.le_refl, true_and, and_true, true_or, or_true, false_or, or_false, true_implies, false_implies, implies_true, not_true_eq_false, not_false_eq_true, eq_self, Nat.reduceLT, Nat.reduceLeDiff, Nat.reduceEqDiff, Nat.reduceAdd, Nat.reduceSub, Int.reduceLT, Int.reduceLE, Int.reduceEq, Int.reduceNeg, Int.reduceNe, Int.reduceAdd, Int.reduceSub, Int.reduceMul, Int.reduceToNat, Int.toNat_zero, Int.toNat_one, Int.toNat_natCast, am_cats, am_cat, am_st1, am_st2, am_clr, up2_na, up2_nj, up2_same, List.getElem?_cons_zero, List.getElem?_cons_succ, List.set_cons_zero, List.set_cons_succ, ne_eq, tk_79 hh, k30 hh hq hL hL2 hR, xI_p, xu_p, hc, v1])
theorem k32n (hh : hp T R) (hq : 80 < q) (hL : I 79 1 = L) (hL2 : L ≤ 160) (hR : R 79 0 = some 2) {c : Int} (hc : ¬ sgX I L p = c) (hp2 : p ≤ L) : wpc codeT mX (d + 1) 32 [.inr (.inr (some 79)), .inl c] (185, s, T, xI I q (p : Int) 0 cl sz S V A C, J, R) Q ↔ Q none (185, s, T, xI I q (p : Int) (-1000 * 1 - (p : Int)) cl sz S V A C, J, R) := wpc_det (by
  have u1 : p ≤ 160 := by omega
  simp only [e32, s32_0, s32_1, s32_2, s32_3, s32_4, s32_5, s32_6, s32_7, s32_8, s32_9, s32_10, s32_11, s32_12, s32_13, s32_14, Option.toList_some, Option.toList_none, List.cons_append, List.nil_append, Nat.le_refl, true_and, and_true, true_or, or_true, false_or, or_false, true_implies, false_implies, implies_true, not_true_eq_false, not_false_eq_true, eq_self, Nat.reduceLT, Nat.reduceLeDiff, Nat.reduceEqDiff, Nat.reduceAdd, Nat.reduceSub, Int.reduceLT, Int.reduceLE, Int.reduceEq, Int.reduceNeg, Int.reduceNe, Int.reduceAdd, Int.reduceSub, Int.reduceMul, Int.reduceToNat, Int.toNat_zero, Int.toNat_one, Int.toNat_natCast, am_cats, am_cat, am_st1, am_st2, am_clr, up2_na, up2_nj, up2_same, List.getElem?_cons_zero, List.getElem?_cons_succ, List.set_cons_zero, List.set_cons_succ, ne_eq, tk_79 hh, k30 hh hq hL hL2 hR, k31 hh (by decide : (1 : Int) ≤ 1 ∧ (1 : Int) ≤ 9) u1, hc])
theorem k32f (hh : hp T R) (hf : ¬ fa = 0) {p c : Int} (hc : ¬ -1 = c) : wpc codeT mX (d + 1) 32 [.inr (.inr (some 79)), .inl c] (185, s, T, xI I q p fa cl sz S V A C, J, R) Q ↔ Q none (185, s, T, xI I q p fa cl sz S V A C, J, R) := wpc_det (by
  simp only [e32, s32_0, s32_1, s32_2, s32_3, s32_4, s32_5, s32_6, s32_7, s32_8, s32_9, s32_10, s32_11, s32_12, s32_13, s32_14, Option.toList_some, Option.toList_none, List.cons_append, List.nil_append, Nat.le_refl, true_and, and_true, true_or, or_true, false_or, or_false, true_implies, false_implies, implies_true, not_true_eq_false, not_false_eq_true, eq_self, Nat.reduceLT, Nat.reduceLeDiff, Nat.reduceEqDiff, Nat.reduceAdd, Nat.reduceSub, Int.reduceLT, Int.reduceLE, Int.reduceEq, Int.reduceNeg, Int.reduceNe, Int.reduceAdd, Int.reduceSub, Int.reduceMul, Int.reduceToNat, Int.toNat_zero, Int.toNat_one, Int.toNat_natCast, am_cats, am_cat, am_st1, am_st2, am_clr, up2_na, up2_nj, up2_same, List.getElem?_cons_zero, List.getElem?_cons_succ, List.set_cons_zero, List.set_cons_succ, ne_eq, tk_79 hh, k30f hh hf, k31f hh hf, hc])
theorem k36y (hh : hp T R) {o : Nat} (ho : ¬ 6 ≤ o) (hp2 : p ≤ 160) : wpc codeT mX (d + 1) 36 [.inr (.inr (some 79)), .inl (o : Int)] (185, s, T, xI I q (p : Int) 0 cl sz S V A C, J, R) Q ↔ Q (some (.inl 1)) (185, s, T, xI I q ((p + 1 : Nat) : Int) 0 cl sz S V A C, J, R) := wpc_det (by
  have v1 := w32_c (show (p : Int) + 1 = ((p + 1 : Nat) : Int) by omega) (by omega)
  have u1 : (o : Int) < 6 := by omega
  simp only [e36, s36_0, s36_1, s36_2, s36_3, s36_4, s36_5, s36_6, s36_7, s36_8, s36_9, s36_10, s36_11, s36_12, s36_13, s36_14, s36_15, Option.toList_some, Option.toList_none, List.cons_append, List.nil_append, Nat.le_refl, true_and, and_true, true_or, or_true, false_or, or_false, true_implies, false_implies, implies_true, not_true_eq_false, not_false_eq_true, eq_self, Nat.reduceLT, Nat.reduceLeDiff, Nat.reduceEqDiff, Nat.reduceAdd, Nat.reduceSub, Int.reduceLT, Int.reduceLE, Int.reduceEq, Int.reduceNeg, Int.reduceNe, Int.reduceAdd, Int.reduceSub, Int.reduceMul, Int.reduceToNat, Int.toNat_zero, Int.toNat_one, Int.toNat_natCast, am_cats, am_cat, am_st1, am_st2, am_clr, up2_na, up2_nj, up2_same, List.getElem?_cons_zero, List.getElem?_cons_succ, List.set_cons_zero, List.set_cons_succ, ne_eq, tk_79 hh, xI_p, xu_p, u1, v1])
theorem k36n (hh : hp T R) {o : Nat} (ho : 6 ≤ o) (hp2 : p ≤ 160) : wpc codeT mX (d + 1) 36 [.inr (.inr (some 79)), .inl (o : Int)] (185, s, T, xI I q (p : Int) 0 cl sz S V A C, J, R) Q ↔ Q (some (.inl 0)) (185, s, T, xI I q (p : Int) (-1000 * 5 - (p : Int)) cl sz S V A C, J, R) := wpc_det (by
  have u1 : ¬ (o : Int) < 6 := by omega
  simp only [e36, s36_0, s36_1, s36_2, s36_3, s36_4, s36_5, s36_6, s36_7, s36_8, s36_9, s36_10, s36_11, s36_12, s36_13, s36_14, s36_15, Option.toList_some, Option.toList_none, List.cons_append, List.nil_append, Nat.le_refl, true_and, and_true, true_or, or_true, false_or, or_false, true_implies, false_implies, implies_true, not_true_eq_false, not_false_eq_true, eq_self, Nat.reduceLT, Nat.reduceLeDiff, Nat.reduceEqDiff, Nat.reduceAdd, Nat.reduceSub, Int.reduceLT, Int.reduceLE, Int.reduceEq, Int.reduceNeg, Int.reduceNe, Int.reduceAdd, Int.reduceSub, Int.reduceMul, Int.reduceToNat, Int.toNat_zero, Int.toNat_one, Int.toNat_natCast, am_cats, am_cat, am_st1, am_st2, am_clr, up2_na, up2_nj, up2_same, List.getElem?_cons_zero, List.getElem?_cons_succ, List.set_cons_zero, List.set_cons_succ, ne_eq, tk_79 hh, k31 hh (by decide : (1 : Int) ≤ 5 ∧ (5 : Int) ≤ 9) hp2, u1])
theorem k37 (hl : lawAt T R q) {a b : Int} {p : Int} (hn : n < 160) : wpc codeT mX d 37 [.inr (.inr (some q)), .inl a, .inl b] (185, s, T, xI I q p fa cl (n : Int) S V A C, J, R) Q ↔ Q (some (.inl (n : Int))) (185, s, T, xI I q p fa cl ((n + 1 : Nat) : Int) (sx S n a) (sx V n b) A C, J, R) := wpc_det (by
  obtain ⟨h1, h2, t0, t1, t2, t3, t4, t5, r1, r2, r3, r4, r5⟩ := hl
  have u1 : (n : Int) < 160 := by omega
  have u2 : 0 ≤ (n : Int) ∧ (n : Int) < ((160 : Nat) : Int) := by omega
  have u3 : q < 185 ∧ q + 1 < 185 ∧ q + 2 < 185 := by omega
  have o1 : (n : Int) + 1 = ((n + 1 : Nat) : Int) := by omega
  have o2 : n + 1 ≤ 2000000000 := by omega
  have o3 : ((n + 1 : Nat) : Int) - 1 = (n : Int) := by omega
  have o4 : n ≤ 2000000000 := by omega
  have v1 := w32_c o1 o2
  have v2 := w32_c o3 o4
  simp only [e37, s37_0, s37_1, s37_2, s37_3, s37_4, s37_5, s37_6, s37_7, s37_8, s37_9, s37_10, s37_11, s37_12, s37_13, s37_14, s37_15, s37_16, s37_17, s37_18, s37_19, s37_20, s37_21, s37_22, s37_23, s37_24, s37_25, s37_26, s37_27, s37_28, Option.toList_some, Option.toList_none, List.cons_append, List.nil_append, Nat.le_refl, true_and, and_true, true_or, or_true, false_or, or_false, true_implies, false_implies, implies_true, not_true_eq_false, not_false_eq_true, eq_self, Nat.reduceLT, Nat.reduceLeDiff, Nat.reduceEqDiff, Nat.reduceAdd, Nat.reduceSub, Int.reduceLT, Int.reduceLE, Int.reduceEq, Int.reduceNeg, Int.reduceNe, Int.reduceAdd, Int.reduceSub, Int.reduceMul, Int.reduceToNat, Int.toNat_zero, Int.toNat_one, Int.toNat_natCast, am_cats, am_cat, am_st1, am_st2, am_clr, up2_na, up2_nj, up2_same, List.getElem?_cons_zero, List.getElem?_cons_succ, List.set_cons_zero, List.set_cons_succ, ne_eq, t0, t1, t2, r1, r2, xI_z h1, xu_z h1, xu_S h1, xu_V h1, u1, u2, u3, v1, v2])
theorem k37f (hl : lawAt T R q) {a b : Int} {p : Int} (hn : ¬ n < 160) : wpc codeT mX d 37 [.inr (.inr (some q)), .inl a, .inl b] (185, s, T, xI I q p fa cl (n : Int) S V A C, J, R) Q ↔ Q (some (.inl (-1))) (185, s, T, xI I q p fa cl (n : Int) S V A C, J, R) := wpc_det (by
  obtain ⟨h1, h2, t0, -⟩ := hl
  have u1 : ¬ (n : Int) < 160 := by omega
  have u3 : q < 185 := by omega
  simp only [e37, s37_0, s37_1, s37_2, s37_3, s37_4, s37_5, s37_6, s37_7, s37_8, s37_9, s37_10, s37_11, s37_12, s37_13, s37_14, s37_15, s37_16, s37_17, s37_18, s37_19, s37_20, s37_21, s37_22, s37_23, s37_24, s37_25, s37_26, s37_27, s37_28, Option.toList_some, Option.toList_none, List.cons_append, List.nil_append, Nat.le_refl, true_and, and_true, true_or, or_true, false_or, or_false, true_implies, false_implies, implies_true, not_true_eq_false, not_false_eq_true, eq_self, Nat.reduceLT, Nat.reduceLeDiff, Nat.reduceEqDiff, Nat.reduceAdd, Nat.reduceSub, Int.reduceLT, Int.reduceLE, Int.reduceEq, Int.reduceNeg, Int.reduceNe, Int.reduceAdd, Int.reduceSub, Int.reduceMul, Int.reduceToNat, Int.toNat_zero, Int.toNat_one, Int.toNat_natCast, am_cats, am_cat, am_st1, am_st2, am_clr, up2_na, up2_nj, up2_same, List.getElem?_cons_zero, List.getElem?_cons_succ, List.set_cons_zero, List.set_cons_succ, ne_eq, t0, xI_z h1, u1, u3])
theorem k38 {g : AH} {c : Int} : wpc codeT mX d 38 [.inl c] g Q ↔ Q (some (.inl (if 48 ≤ c ∧ c ≤ 57 then 1 else 0))) g := wpc_det (by
  simp only [e38, s38_0, s38_1, s38_2, s38_3, s38_4, s38_5, s38_6, s38_7, s38_8, s38_9, Option.toList_some, Option.toList_none, List.cons_append, List.nil_append, Nat.le_refl, true_and, and_true, true_or, or_true, false_or, or_false, true_implies, false_implies, implies_true, not_true_eq_false, not_false_eq_true, eq_self, Nat.reduceLT, Nat.reduceLeDiff, Nat.reduceEqDiff, Nat.reduceAdd, Nat.reduceSub, Int.reduceLT, Int.reduceLE, Int.reduceEq, Int.reduceNeg, Int.reduceNe, Int.reduceAdd, Int.reduceSub, Int.reduceMul, Int.reduceToNat, Int.toNat_zero, Int.toNat_one, Int.toNat_natCast, am_cats, am_cat, am_st1, am_st2, am_clr, up2_na, up2_nj, up2_same, List.getElem?_cons_zero, List.getElem?_cons_succ, List.set_cons_zero, List.set_cons_succ, ne_eq]
  refine ⟨fun h => ?_, fun h => ⟨fun h2 => ?_, fun h2 => ?_⟩⟩
  · rw [if_neg (by omega)]
  · rw [if_neg (by omega)]
  · rw [if_pos (by omega)])
theorem k40 (hl : lawAt T R q) {p : Int} {k : Nat} (hk : k < 12) : wpc codeT mX d 40 [.inr (.inr (some q))] (185, s, T, xI I q p fa (k : Int) sz S V A C, J, R) Q ↔ Q none (185, s, T, xI I q p fa (k : Int) sz S V A (sx C k sz), J, R) := wpc_det (by
  obtain ⟨h1, h2, t0, t1, t2, t3, t4, t5, r1, r2, r3, r4, r5⟩ := hl
  have u1 : (k : Int) < 12 := by omega
  have u2 : 0 ≤ (k : Int) ∧ (k : Int) < ((12 : Nat) : Int) := by omega
  have u3 : q < 185 ∧ q + 4 < 185 := by omega
  simp only [e40, s40_0, s40_1, s40_2, s40_3, s40_4, s40_5, s40_6, s40_7, s40_8, s40_9, s40_10, s40_11, Option.toList_some, Option.toList_none, List.cons_append, List.nil_append, Nat.le_refl, true_and, and_true, true_or, or_true, false_or, or_false, true_implies, false_implies, implies_true, not_true_eq_false, not_false_eq_true, eq_self, Nat.reduceLT, Nat.reduceLeDiff, Nat.reduceEqDiff, Nat.reduceAdd, Nat.reduceSub, Int.reduceLT, Int.reduceLE, Int.reduceEq, Int.reduceNeg, Int.reduceNe, Int.reduceAdd, Int.reduceSub, Int.reduceMul, Int.reduceToNat, Int.toNat_zero, Int.toNat_one, Int.toNat_natCast, am_cats, am_cat, am_st1, am_st2, am_clr, up2_na, up2_nj, up2_same, List.getElem?_cons_zero, List.getElem?_cons_succ, List.set_cons_zero, List.set_cons_succ, ne_eq, t0, t4, r4, xI_c h1, xI_z h1, xu_C h1, u1, u2, u3])
theorem k40f (hl : lawAt T R q) {p : Int} {k : Nat} (hk : ¬ k < 12) : wpc codeT mX d 40 [.inr (.inr (some q))] (185, s, T, xI I q p fa (k : Int) sz S V A C, J, R) Q ↔ Q none (185, s, T, xI I q p fa (k : Int) sz S V A C, J, R) := wpc_det (by
  obtain ⟨h1, h2, t0, -⟩ := hl
  have u1 : ¬ (k : Int) < 12 := by omega
  have u3 : q < 185 := by omega
  simp only [e40, s40_0, s40_1, s40_2, s40_3, s40_4, s40_5, s40_6, s40_7, s40_8, s40_9, s40_10, s40_11, Option.toList_some, Option.toList_none, List.cons_append, List.nil_append, Nat.le_refl, true_and, and_true, true_or, or_true, false_or, or_false, true_implies, false_implies, implies_true, not_true_eq_false, not_false_eq_true, eq_self, Nat.reduceLT, Nat.reduceLeDiff, Nat.reduceEqDiff, Nat.reduceAdd, Nat.reduceSub, Int.reduceLT, Int.reduceLE, Int.reduceEq, Int.reduceNeg, Int.reduceNe, Int.reduceAdd, Int.reduceSub, Int.reduceMul, Int.reduceToNat, Int.toNat_zero, Int.toNat_one, Int.toNat_natCast, am_cats, am_cat, am_st1, am_st2, am_clr, up2_na, up2_nj, up2_same, List.getElem?_cons_zero, List.getElem?_cons_succ, List.set_cons_zero, List.set_cons_succ, ne_eq, t0, xI_c h1, u1, u3])
theorem k47 (hl : lawAt T R q) {p : Int} {i : Nat} (hn : n ≤ 160) (hi : i < n) : wpc codeT mX d 47 [.inr (.inr (some q)), .inl (i : Int)] (185, s, T, xI I q p fa cl (n : Int) S V A C, J, R) Q ↔ Q none (185, s, T, xI I q p fa cl (n : Int) S (sx V i (n : Int)) A C, J, R) := wpc_det (by
  obtain ⟨h1, h2, t0, t1, t2, t3, t4, t5, r1, r2, r3, r4, r5⟩ := hl
  have u0 : ¬ (i : Int) < 0 := by omega
  have u1 : (i : Int) < (n : Int) := by omega
  have u2 : 0 ≤ (i : Int) ∧ (i : Int) < ((160 : Nat) : Int) := by omega
  have u3 : q < 185 ∧ q + 2 < 185 := by omega
  simp only [e47, s47_0, s47_1, s47_2, s47_3, s47_4, s47_5, s47_6, s47_7, s47_8, s47_9, s47_10, s47_11, s47_12, Option.toList_some, Option.toList_none, List.cons_append, List.nil_append, Nat.le_refl, true_and, and_true, true_or, or_true, false_or, or_false, true_implies, false_implies, implies_true, not_true_eq_false, not_false_eq_true, eq_self, Nat.reduceLT, Nat.reduceLeDiff, Nat.reduceEqDiff, Nat.reduceAdd, Nat.reduceSub, Int.reduceLT, Int.reduceLE, Int.reduceEq, Int.reduceNeg, Int.reduceNe, Int.reduceAdd, Int.reduceSub, Int.reduceMul, Int.reduceToNat, Int.toNat_zero, Int.toNat_one, Int.toNat_natCast, am_cats, am_cat, am_st1, am_st2, am_clr, up2_na, up2_nj, up2_same, List.getElem?_cons_zero, List.getElem?_cons_succ, List.set_cons_zero, List.set_cons_succ, ne_eq, t0, t2, r2, xI_z h1, xu_V h1, u0, u1, u2, u3])
theorem k47f (hl : lawAt T R q) {p i : Int} (hi : i < 0 ∨ (n : Int) ≤ i) : wpc codeT mX d 47 [.inr (.inr (some q)), .inl i] (185, s, T, xI I q p fa cl (n : Int) S V A C, J, R) Q ↔ Q none (185, s, T, xI I q p fa cl (n : Int) S V A C, J, R) := wpc_det (by
  obtain ⟨h1, h2, t0, -⟩ := hl
  have u3 : q < 185 := by omega
  by_cases h : i < 0
  · simp only [e47, s47_0, s47_1, s47_2, s47_3, s47_4, s47_5, s47_6, s47_7, s47_8, s47_9, s47_10, s47_11, s47_12, Option.toList_some, Option.toList_none, List.cons_append, List.nil_append, Nat.le_refl, true_and, and_true, true_or, or_true, false_or, or_false, true_implies, false_implies, implies_true, not_true_eq_false, not_false_eq_true, eq_self, Nat.reduceLT, Nat.reduceLeDiff, Nat.reduceEqDiff, Nat.reduceAdd, Nat.reduceSub, Int.reduceLT, Int.reduceLE, Int.reduceEq, Int.reduceNeg, Int.reduceNe, Int.reduceAdd, Int.reduceSub, Int.reduceMul, Int.reduceToNat, Int.toNat_zero, Int.toNat_one, Int.toNat_natCast, am_cats, am_cat, am_st1, am_st2, am_clr, up2_na, up2_nj, up2_same, List.getElem?_cons_zero, List.getElem?_cons_succ, List.set_cons_zero, List.set_cons_succ, ne_eq, h]
  · have u1 : ¬ i < (n : Int) := by omega
    simp only [e47, s47_0, s47_1, s47_2, s47_3, s47_4, s47_5, s47_6, s47_7, s47_8, s47_9, s47_10, s47_11, s47_12, Option.toList_some, Option.toList_none, List.cons_append, List.nil_append, Nat.le_refl, true_and, and_true, true_or, or_true, false_or, or_false, true_implies, false_implies, implies_true, not_true_eq_false, not_false_eq_true, eq_self, Nat.reduceLT, Nat.reduceLeDiff, Nat.reduceEqDiff, Nat.reduceAdd, Nat.reduceSub, Int.reduceLT, Int.reduceLE, Int.reduceEq, Int.reduceNeg, Int.reduceNe, Int.reduceAdd, Int.reduceSub, Int.reduceMul, Int.reduceToNat, Int.toNat_zero, Int.toNat_one, Int.toNat_natCast, am_cats, am_cat, am_st1, am_st2, am_clr, up2_na, up2_nj, up2_same, List.getElem?_cons_zero, List.getElem?_cons_succ, List.set_cons_zero, List.set_cons_succ, ne_eq, t0, xI_z h1, h, u1, u3])
theorem k48 (hl : lawAt T R q) {p : Int} {k : Nat} (hk : k < 12) : wpc codeT mX d 48 [.inr (.inr (some q))] (185, s, T, xI I q p fa (k : Int) sz S V A C, J, R) Q ↔ Q none (185, s, T, xI I q p fa ((k + 1 : Nat) : Int) sz S V (sx A (k + 1) sz) C, J, R) := wpc_det (by
  obtain ⟨h1, h2, t0, t1, t2, t3, t4, t5, r1, r2, r3, r4, r5⟩ := hl
  have u1 : (k : Int) < 12 := by omega
  have u2 : 0 ≤ ((k + 1 : Nat) : Int) ∧ ((k + 1 : Nat) : Int) < ((13 : Nat) : Int) := by omega
  have u3 : q < 185 ∧ q + 3 < 185 := by omega
  have v1 := w32_c (show (k : Int) + 1 = ((k + 1 : Nat) : Int) by omega) (by omega)
  simp only [e48, s48_0, s48_1, s48_2, s48_3, s48_4, s48_5, s48_6, s48_7, s48_8, s48_9, s48_10, s48_11, s48_12, s48_13, s48_14, s48_15, s48_16, s48_17, Option.toList_some, Option.toList_none, List.cons_append, List.nil_append, Nat.le_refl, true_and, and_true, true_or, or_true, false_or, or_false, true_implies, false_implies, implies_true, not_true_eq_false, not_false_eq_true, eq_self, Nat.reduceLT, Nat.reduceLeDiff, Nat.reduceEqDiff, Nat.reduceAdd, Nat.reduceSub, Int.reduceLT, Int.reduceLE, Int.reduceEq, Int.reduceNeg, Int.reduceNe, Int.reduceAdd, Int.reduceSub, Int.reduceMul, Int.reduceToNat, Int.toNat_zero, Int.toNat_one, Int.toNat_natCast, am_cats, am_cat, am_st1, am_st2, am_clr, up2_na, up2_nj, up2_same, List.getElem?_cons_zero, List.getElem?_cons_succ, List.set_cons_zero, List.set_cons_succ, ne_eq, t0, t3, r3, xI_c h1, xI_z h1, xu_c h1, xu_A h1, u1, u2, u3, v1])
theorem k48f (hl : lawAt T R q) {p : Int} {k : Nat} (hk : ¬ k < 12) : wpc codeT mX d 48 [.inr (.inr (some q))] (185, s, T, xI I q p fa (k : Int) sz S V A C, J, R) Q ↔ Q none (185, s, T, xI I q p fa (k : Int) sz S V A C, J, R) := wpc_det (by
  obtain ⟨h1, h2, t0, -⟩ := hl
  have u1 : ¬ (k : Int) < 12 := by omega
  have u3 : q < 185 := by omega
  simp only [e48, s48_0, s48_1, s48_2, s48_3, s48_4, s48_5, s48_6, s48_7, s48_8, s48_9, s48_10, s48_11, s48_12, s48_13, s48_14, s48_15, s48_16, s48_17, Option.toList_some, Option.toList_none, List.cons_append, List.nil_append, Nat.le_refl, true_and, and_true, true_or, or_true, false_or, or_false, true_implies, false_implies, implies_true, not_true_eq_false, not_false_eq_true, eq_self, Nat.reduceLT, Nat.reduceLeDiff, Nat.reduceEqDiff, Nat.reduceAdd, Nat.reduceSub, Int.reduceLT, Int.reduceLE, Int.reduceEq, Int.reduceNeg, Int.reduceNe, Int.reduceAdd, Int.reduceSub, Int.reduceMul, Int.reduceToNat, Int.toNat_zero, Int.toNat_one, Int.toNat_natCast, am_cats, am_cat, am_st1, am_st2, am_clr, up2_na, up2_nj, up2_same, List.getElem?_cons_zero, List.getElem?_cons_succ, List.set_cons_zero, List.set_cons_succ, ne_eq, t0, xI_c h1, u1, u3])
theorem k28 (hl : lawAt T R q) {p : Int} : wpc codeT mX d 28 [.inr (.inr (some q))] (185, s, T, xI I q p fa cl sz S V A C, J, R) Q ↔ Q none (185, s, T, xI I q p fa 0 0 S V A C, J, R) := wpc_det (by
  obtain ⟨h1, h2, t0, -⟩ := hl
  have u3 : q < 185 := by omega
  simp only [e28, s28_0, s28_1, s28_2, s28_3, s28_4, s28_5, s28_6, Option.toList_some, Option.toList_none, List.cons_append, List.nil_append, Nat.le_refl, true_and, and_true, true_or, or_true, false_or, or_false, true_implies, false_implies, implies_true, not_true_eq_false, not_false_eq_true, eq_self, Nat.reduceLT, Nat.reduceLeDiff, Nat.reduceEqDiff, Nat.reduceAdd, Nat.reduceSub, Int.reduceLT, Int.reduceLE, Int.reduceEq, Int.reduceNeg, Int.reduceNe, Int.reduceAdd, Int.reduceSub, Int.reduceMul, Int.reduceToNat, Int.toNat_zero, Int.toNat_one, Int.toNat_natCast, am_cats, am_cat, am_st1, am_st2, am_clr, up2_na, up2_nj, up2_same, List.getElem?_cons_zero, List.getElem?_cons_succ, List.set_cons_zero, List.set_cons_succ, ne_eq, t0, xu_c h1, xu_z h1, u3])
/-! the place of a letter -/
theorem txI_all : ∀ j, j < 9 → 97 ≤ txI j ∧ txI j ≤ 121 := by decide
theorem l225 {g : AH} {c e : Int} {j : Nat} (hj : j < 9) (h1 : txI j = e → Q (some (.inl (j : Int))) g) (h2 : ¬ txI j = e → wp codeT mX d 225 5 [some (.inr (.inr (some 1000002))), some (.inl c), some (.inl 0), some (.inl 9), some (.inl e), some (.inl ((j + 1 : Nat) : Int))] [] g Q) : wp codeT mX d 225 5 [some (.inr (.inr (some 1000002))), some (.inl c), some (.inl 0), some (.inl 9), some (.inl e), some (.inl (j : Int))] [] g Q := by
  have u1 : (j : Int) < 9 := by omega
  have u2 : 0 ≤ (j : Int) ∧ (j : Int) < 9 := by omega
  have v1 := w32_c (show (j : Int) + 1 = ((j + 1 : Nat) : Int) by omega) (by omega)
  refine s225_5.mpr ?_
  simp only [s225_6, s225_7, s225_8, s225_9, s225_10, s225_11, s225_12, s225_13, s225_14, s225_15, s225_16, Option.toList_some, Option.toList_none, List.cons_append, List.nil_append, Nat.le_refl, true_and, and_true, true_or, or_true, false_or, or_false, true_implies, false_implies, implies_true, not_true_eq_false, not_false_eq_true, eq_self, Nat.reduceLT, Nat.reduceLeDiff, Nat.reduceEqDiff, Nat.reduceAdd, Nat.reduceSub, Int.reduceLT, Int.reduceLE, Int.reduceEq, Int.reduceNeg, Int.reduceNe, Int.reduceAdd, Int.reduceSub, Int.reduceMul, Int.reduceToNat, Int.toNat_zero, Int.toNat_one, Int.toNat_natCast, am_cats, am_cat, am_st1, am_st2, am_clr, up2_na, up2_nj, up2_same, List.getElem?_cons_zero, List.getElem?_cons_succ, List.set_cons_zero, List.set_cons_succ, ne_eq, u1, u2, v1]
  exact ⟨h1, h2⟩
theorem tkF_no {c : Int} (h : ∀ j, j < 9 → ¬ c = txI j) : tkF c = -1 := by
  unfold tkF
  rw [if_neg (show ¬ c = 110 from h 0 (by decide)), if_neg (show ¬ c = 100 from h 1 (by decide)), if_neg (show ¬ c = 98 from h 2 (by decide)), if_neg (show ¬ c = 97 from h 3 (by decide)), if_neg (show ¬ c = 104 from h 4 (by decide)), if_neg (show ¬ c = 117 from h 5 (by decide)), if_neg (show ¬ c = 115 from h 6 (by decide)), if_neg (show ¬ c = 116 from h 7 (by decide)), if_neg (show ¬ c = 121 from h 8 (by decide))]
theorem tkF_at : ∀ j : Nat, j < 9 → tkF (txI j) = (j : Int) := by decide
theorem p225 {g : AH} {c : Int} (hc : 0 ≤ c ∧ c ≤ 255) (hQ : Q (some (.inl (tkF c))) g) : wp codeT mX d 225 5 [some (.inr (.inr (some 1000002))), some (.inl c), some (.inl 0), some (.inl 9), some (.inl (w8 c)), some (.inl ((0 : Nat) : Int))] [] g Q := by
  have hw : ∀ j, j < 9 → (txI j = w8 c ↔ c = txI j) := by
    intro j hj
    have := txI_all j hj
    unfold w8
    constructor <;> intro h <;> omega
  have go : ∀ (r j : Nat), j + r = 9 → (∀ i, i < j → ¬ c = txI i) → wp codeT mX d 225 5 [some (.inr (.inr (some 1000002))), some (.inl c), some (.inl 0), some (.inl 9), some (.inl (w8 c)), some (.inl (j : Int))] [] g Q := by
    intro r
    induction r with
    | zero =>
      intro j hj hn
      have hj : j = 9 := by omega
      subst hj
      rw [tkF_no hn] at hQ
      have u1 : ¬ ((9 : Nat) : Int) < 9 := by decide
      refine s225_5.mpr ?_
      simp only [s225_6, s225_7, s225_17, s225_18, Option.toList_some, Option.toList_none, List.cons_append, List.nil_append, Nat.le_refl, true_and, and_true, true_or, or_true, false_or, or_false, true_implies, false_implies, implies_true, not_true_eq_false, not_false_eq_true, eq_self, Nat.reduceLT, Nat.reduceLeDiff, Nat.reduceEqDiff, Nat.reduceAdd, Nat.reduceSub, Int.reduceLT, Int.reduceLE, Int.reduceEq, Int.reduceNeg, Int.reduceNe, Int.reduceAdd, Int.reduceSub, Int.reduceMul, Int.reduceToNat, Int.toNat_zero, Int.toNat_one, Int.toNat_natCast, am_cats, am_cat, am_st1, am_st2, am_clr, up2_na, up2_nj, up2_same, List.getElem?_cons_zero, List.getElem?_cons_succ, List.set_cons_zero, List.set_cons_succ, ne_eq, u1]
      exact hQ
    | succ r ih =>
      intro j hj hn
      refine l225 (by omega) (fun h => ?_) (fun h => ih (j + 1) (by omega) (fun i hi => ?_))
      · have e := (hw j (by omega)).mp h
        rw [e, tkF_at j (by omega)] at hQ
        exact hQ
      · by_cases z : i = j
        · subst z
          exact fun q => h ((hw i (by omega)).mpr q)
        · exact hn i (by omega)
  exact go 9 0 rfl (fun i hi => absurd hi (Nat.not_lt_zero _))
theorem k218 {c : Int} (hc : 0 ≤ c ∧ c ≤ 255) : wpc codeT mX (d + 3) 218 [.inr (.inr (some 1000001)), .inl c] (185, s, T, I, J, R) Q ↔ Q (some (.inl (tkF c))) (185, s, T, I, J, R) := wpc_det (by
  have k224 : ∀ (d : Nat) (Q : Option AV → AH → Prop), wpc codeT mX d 224 [.inl c] (185, s, T, I, J, R) Q ↔ Q (some (.inl 1)) (185, s, T, I, J, R) := fun d Q => wpc_det (by
    have u1 : ¬ c < 0 := by omega
    have u2 : ¬ 255 < c := by omega
    simp only [e224, s224_0, s224_1, s224_2, s224_3, s224_4, s224_5, s224_6, s224_7, s224_8, Option.toList_some, Option.toList_none, List.cons_append, List.nil_append, Nat.le_refl, true_and, and_true, true_or, or_true, false_or, or_false, true_implies, false_implies, implies_true, not_true_eq_false, not_false_eq_true, eq_self, Nat.reduceLT, Nat.reduceLeDiff, Nat.reduceEqDiff, Nat.reduceAdd, Nat.reduceSub, Int.reduceLT, Int.reduceLE, Int.reduceEq, Int.reduceNeg, Int.reduceNe, Int.reduceAdd, Int.reduceSub, Int.reduceMul, Int.reduceToNat, Int.toNat_zero, Int.toNat_one, Int.toNat_natCast, am_cats, am_cat, am_st1, am_st2, am_clr, up2_na, up2_nj, up2_same, List.getElem?_cons_zero, List.getElem?_cons_succ, List.set_cons_zero, List.set_cons_succ, ne_eq, u1, u2])
  have k220 : ∀ (d : Nat) (Q : Option AV → AH → Prop), wpc codeT mX d 220 [.inr (.inr (some 1000001))] (185, s, T, I, J, R) Q ↔ Q (some (.inl 1)) (185, s, T, I, J, R) := fun d Q => wpc_det (by
    simp only [e220, s220_0, s220_1, s220_2, s220_3, s220_4, s220_5, s220_6, s220_7, s220_8, Option.toList_some, Option.toList_none, List.cons_append, List.nil_append, Nat.le_refl, true_and, and_true, true_or, or_true, false_or, or_false, true_implies, false_implies, implies_true, not_true_eq_false, not_false_eq_true, eq_self, Nat.reduceLT, Nat.reduceLeDiff, Nat.reduceEqDiff, Nat.reduceAdd, Nat.reduceSub, Int.reduceLT, Int.reduceLE, Int.reduceEq, Int.reduceNeg, Int.reduceNe, Int.reduceAdd, Int.reduceSub, Int.reduceMul, Int.reduceToNat, Int.toNat_zero, Int.toNat_one, Int.toNat_natCast, am_cats, am_cat, am_st1, am_st2, am_clr, up2_na, up2_nj, up2_same, List.getElem?_cons_zero, List.getElem?_cons_succ, List.set_cons_zero, List.set_cons_succ, ne_eq])
  have k222 : ∀ (d : Nat) (Q : Option AV → AH → Prop), wpc codeT mX d 222 [.inr (.inr (some 1000001))] (185, s, T, I, J, R) Q ↔ Q (some (.inl 0)) (185, s, T, I, J, R) := fun d Q => wpc_det (by
    simp only [e222, s222_0, s222_1, s222_2, s222_3, s222_4, s222_5, s222_6, Option.toList_some, Option.toList_none, List.cons_append, List.nil_append, Nat.le_refl, true_and, and_true, true_or, or_true, false_or, or_false, true_implies, false_implies, implies_true, not_true_eq_false, not_false_eq_true, eq_self, Nat.reduceLT, Nat.reduceLeDiff, Nat.reduceEqDiff, Nat.reduceAdd, Nat.reduceSub, Int.reduceLT, Int.reduceLE, Int.reduceEq, Int.reduceNeg, Int.reduceNe, Int.reduceAdd, Int.reduceSub, Int.reduceMul, Int.reduceToNat, Int.toNat_zero, Int.toNat_one, Int.toNat_natCast, am_cats, am_cat, am_st1, am_st2, am_clr, up2_na, up2_nj, up2_same, List.getElem?_cons_zero, List.getElem?_cons_succ, List.set_cons_zero, List.set_cons_succ, ne_eq])
  have k221 : ∀ (d : Nat) (Q : Option AV → AH → Prop), wpc codeT mX (d + 1) 221 [.inr (.inr (some 1000001))] (185, s, T, I, J, R) Q ↔ Q (some (.inl 9)) (185, s, T, I, J, R) := fun d Q => wpc_det (by
    simp only [e221, s221_0, s221_1, s221_2, s221_3, s221_4, s221_5, s221_6, Option.toList_some, Option.toList_none, List.cons_append, List.nil_append, Nat.le_refl, true_and, and_true, true_or, or_true, false_or, or_false, true_implies, false_implies, implies_true, not_true_eq_false, not_false_eq_true, eq_self, Nat.reduceLT, Nat.reduceLeDiff, Nat.reduceEqDiff, Nat.reduceAdd, Nat.reduceSub, Int.reduceLT, Int.reduceLE, Int.reduceEq, Int.reduceNeg, Int.reduceNe, Int.reduceAdd, Int.reduceSub, Int.reduceMul, Int.reduceToNat, Int.toNat_zero, Int.toNat_one, Int.toNat_natCast, am_cats, am_cat, am_st1, am_st2, am_clr, up2_na, up2_nj, up2_same, List.getElem?_cons_zero, List.getElem?_cons_succ, List.set_cons_zero, List.set_cons_succ, ne_eq, k222]
    decide)
  have k225 : ∀ (d : Nat) (Q : Option AV → AH → Prop), wpc codeT mX d 225 [.inr (.inr (some 1000002)), .inl c, .inl 0, .inl 9] (185, s, T, I, J, R) Q ↔ Q (some (.inl (tkF c))) (185, s, T, I, J, R) := fun d Q => wpc_det (by
    have := p225 (d := d) (Q := fun v g => g = (185, s, T, I, J, R) ∧ v = some (.inl (tkF c))) (g := (185, s, T, I, J, R)) hc ⟨rfl, rfl⟩
    simp only [s225_0, s225_1, s225_2, s225_3, s225_4, e225, Option.toList_some, Option.toList_none, List.cons_append, List.nil_append, Nat.le_refl, true_and, and_true, true_or, or_true, false_or, or_false, true_implies, false_implies, implies_true, not_true_eq_false, not_false_eq_true, eq_self, Nat.reduceLT, Nat.reduceLeDiff, Nat.reduceEqDiff, Nat.reduceAdd, Nat.reduceSub, Int.reduceLT, Int.reduceLE, Int.reduceEq, Int.reduceNeg, Int.reduceNe, Int.reduceAdd, Int.reduceSub, Int.reduceMul, Int.reduceToNat, Int.toNat_zero, Int.toNat_one, Int.toNat_natCast, am_cats, am_cat, am_st1, am_st2, am_clr, up2_na, up2_nj, up2_same, List.getElem?_cons_zero, List.getElem?_cons_succ, List.set_cons_zero, List.set_cons_succ, ne_eq]
    exact this)
  have u9 : (0 : Int) < 9 := by decide
  simp only [e218, s218_0, s218_1, s218_2, s218_3, s218_4, s219_0, s219_1, s219_2, s219_3, s219_4, s219_5, s219_6, s219_7, s219_8, s219_9, s219_10, s219_18, e219, e223, s223_0, s223_1, s223_2, s223_3, s223_4, s223_5, s223_6, s223_7, s223_8, s223_9, s223_10, s223_11, s223_12, s223_13, s223_14, s223_15, s223_16, s223_17, s223_18, s223_19, s223_20, s223_21, s223_22, s223_23, s223_24, Option.toList_some, Option.toList_none, List.cons_append, List.nil_append, Nat.le_refl, true_and, and_true, true_or, or_true, false_or, or_false, true_implies, false_implies, implies_true, not_true_eq_false, not_false_eq_true, eq_self, Nat.reduceLT, Nat.reduceLeDiff, Nat.reduceEqDiff, Nat.reduceAdd, Nat.reduceSub, Int.reduceLT, Int.reduceLE, Int.reduceEq, Int.reduceNeg, Int.reduceNe, Int.reduceAdd, Int.reduceSub, Int.reduceMul, Int.reduceToNat, Int.toNat_zero, Int.toNat_one, Int.toNat_natCast, am_cats, am_cat, am_st1, am_st2, am_clr, up2_na, up2_nj, up2_same, List.getElem?_cons_zero, List.getElem?_cons_succ, List.set_cons_zero, List.set_cons_succ, ne_eq, k220, k221, k224, k225, k211, k212, u9, Int.lt_irrefl, if_false, reduceIte])
theorem p39 (hh : hp T R) (hl : lawAt T R q) (hL : I 79 1 = L) (hL2 : L ≤ 160) (hR : R 79 0 = some 2) (hR4 : R 79 4 = some q) (hn : n < 160) : ∀ (r p i : Nat) (v : Int), i + r = 5 → p ≤ L → 0 ≤ v → v < p10 i → Q none (185, s, T, xI I q ((nmS (sgX I L) r p v).2.1 : Int) (nmS (sgX I L) r p v).1 cl ((n + 1 : Nat) : Int) (sx S n 48) (sx V n (nmS (sgX I L) r p v).2.2) A C, J, R) → wp codeT mX (d + 1) 39 4 [some (.inr (.inr (some 79))), some (.inl v), some (.inl (i : Int))] [] (185, s, T, xI I q (p : Int) 0 cl (n : Int) S V A C, J, R) Q := by
  have hq : 80 < q := hl.1
  have t0 := hl.2.2.1
  have u3 : q < 185 := by have := hl.2.1; omega
  intro r
  induction r with
  | zero =>
    intro p i v hi hp h0 hv hQ
    have hi : i = 5 := by omega
    subst hi
    have u1 : ¬ ((5 : Nat) : Int) < 5 := by decide
    have p2 : p ≤ 160 := by omega
    refine s39_4.mpr ?_
    rw [nmS] at hQ
    by_cases hd : 48 ≤ sgX I L p ∧ sgX I L p ≤ 57
    · rw [if_pos hd] at hQ
      simp only [s39_5, s39_6, s39_28, s39_29, s39_30, s39_31, s39_32, s39_33, s39_34, s39_35, s39_36, s39_37, s39_38, s39_39, s39_40, s39_41, Option.toList_some, Option.toList_none, List.cons_append, List.nil_append, Nat.le_refl, true_and, and_true, true_or, or_true, false_or, or_false, true_implies, false_implies, implies_true, not_true_eq_false, not_false_eq_true, eq_self, Nat.reduceLT, Nat.reduceLeDiff, Nat.reduceEqDiff, Nat.reduceAdd, Nat.reduceSub, Int.reduceLT, Int.reduceLE, Int.reduceEq, Int.reduceNeg, Int.reduceNe, Int.reduceAdd, Int.reduceSub, Int.reduceMul, Int.reduceToNat, Int.toNat_zero, Int.toNat_one, Int.toNat_natCast, am_cats, am_cat, am_st1, am_st2, am_clr, up2_na, up2_nj, up2_same, List.getElem?_cons_zero, List.getElem?_cons_succ, List.set_cons_zero, List.set_cons_succ, ne_eq, tk_79 hh, k30 hh hq hL hL2 hR, k38, i10, hd, k31 hh (by decide : (1 : Int) ≤ 2 ∧ (2 : Int) ≤ 9) p2, hR4, k37 hl hn, t0, u1, u3]
      exact hQ
    · rw [if_neg hd] at hQ
      simp only [s39_5, s39_6, s39_28, s39_29, s39_30, s39_31, s39_32, s39_33, s39_34, s39_35, s39_36, s39_37, s39_38, s39_39, s39_40, s39_41, Option.toList_some, Option.toList_none, List.cons_append, List.nil_append, Nat.le_refl, true_and, and_true, true_or, or_true, false_or, or_false, true_implies, false_implies, implies_true, not_true_eq_false, not_false_eq_true, eq_self, Nat.reduceLT, Nat.reduceLeDiff, Nat.reduceEqDiff, Nat.reduceAdd, Nat.reduceSub, Int.reduceLT, Int.reduceLE, Int.reduceEq, Int.reduceNeg, Int.reduceNe, Int.reduceAdd, Int.reduceSub, Int.reduceMul, Int.reduceToNat, Int.toNat_zero, Int.toNat_one, Int.toNat_natCast, am_cats, am_cat, am_st1, am_st2, am_clr, up2_na, up2_nj, up2_same, List.getElem?_cons_zero, List.getElem?_cons_succ, List.set_cons_zero, List.set_cons_succ, ne_eq, tk_79 hh, k30 hh hq hL hL2 hR, k38, i10, hd, hR4, k37 hl hn, t0, u1, u3]
      exact hQ
  | succ r ih =>
    intro p i v hi hp h0 hv hQ
    have u1 : (i : Int) < 5 := by omega
    have p2 : p ≤ 160 := by omega
    refine s39_4.mpr ?_
    rw [nmS] at hQ
    by_cases hd : 48 ≤ sgX I L p ∧ sgX I L p ≤ 57
    · rw [if_pos hd] at hQ
      have h1 : p < L := by
        by_cases z : p < L
        · exact z
        · have : sgX I L p = -1 := if_neg z
          omega
      have hw : p10 (i + 1) = 10 * p10 i := rfl
      have hw2 := p10_le i (by omega)
      have nx := ih (p + 1) (i + 1) (10 * v + sgX I L p - 48) (by omega) (by omega) (by omega) (by rw [hw]; omega) hQ
      have e1 : w32 (10 * v) = 10 * v := w32_eq (by omega) (by omega)
      have e2 : w32 (10 * v + sgX I L p) = 10 * v + sgX I L p := w32_eq (by omega) (by omega)
      have e3 : w32 (10 * v + sgX I L p - 48) = 10 * v + sgX I L p - 48 := w32_eq (by omega) (by omega)
      have v1 := w32_c (show (p : Int) + 1 = ((p + 1 : Nat) : Int) by omega) (by omega)
      have v2 := w32_c (show (i : Int) + 1 = ((i + 1 : Nat) : Int) by omega) (by omega)
      simp only [s39_5, s39_6, s39_7, s39_8, s39_9, s39_10, s39_11, s39_12, s39_13, s39_14, s39_15, s39_16, s39_17, s39_18, s39_19, s39_20, s39_21, s39_22, s39_23, s39_24, s39_25, s39_26, s39_27, Option.toList_some, Option.toList_none, List.cons_append, List.nil_append, Nat.le_refl, true_and, and_true, true_or, or_true, false_or, or_false, true_implies, false_implies, implies_true, not_true_eq_false, not_false_eq_true, eq_self, Nat.reduceLT, Nat.reduceLeDiff, Nat.reduceEqDiff, Nat.reduceAdd, Nat.reduceSub, Int.reduceLT, Int.reduceLE, Int.reduceEq, Int.reduceNeg, Int.reduceNe, Int.reduceAdd, Int.reduceSub, Int.reduceMul, Int.reduceToNat, Int.toNat_zero, Int.toNat_one, Int.toNat_natCast, am_cats, am_cat, am_st1, am_st2, am_clr, up2_na, up2_nj, up2_same, List.getElem?_cons_zero, List.getElem?_cons_succ, List.set_cons_zero, List.set_cons_succ, ne_eq, tk_79 hh, k30 hh hq hL hL2 hR, k38, i10, hd, xI_p, xu_p, e1, e2, e3, u1, v1, v2]
      exact nx
    · rw [if_neg hd] at hQ
      simp only [s39_5, s39_6, s39_7, s39_8, s39_9, s39_10, s39_28, s39_29, s39_30, s39_31, s39_32, s39_33, s39_34, s39_35, s39_36, s39_37, s39_38, s39_39, s39_40, s39_41, Option.toList_some, Option.toList_none, List.cons_append, List.nil_append, Nat.le_refl, true_and, and_true, true_or, or_true, false_or, or_false, true_implies, false_implies, implies_true, not_true_eq_false, not_false_eq_true, eq_self, Nat.reduceLT, Nat.reduceLeDiff, Nat.reduceEqDiff, Nat.reduceAdd, Nat.reduceSub, Int.reduceLT, Int.reduceLE, Int.reduceEq, Int.reduceNeg, Int.reduceNe, Int.reduceAdd, Int.reduceSub, Int.reduceMul, Int.reduceToNat, Int.toNat_zero, Int.toNat_one, Int.toNat_natCast, am_cats, am_cat, am_st1, am_st2, am_clr, up2_na, up2_nj, up2_same, List.getElem?_cons_zero, List.getElem?_cons_succ, List.set_cons_zero, List.set_cons_succ, ne_eq, tk_79 hh, k30 hh hq hL hL2 hR, k38, i10, hd, hR4, k37 hl hn, t0, u1, u3]
      exact hQ
theorem k39 (hh : hp T R) (hl : lawAt T R q) (hL : I 79 1 = L) (hL2 : L ≤ 160) (hR : R 79 0 = some 2) (hR4 : R 79 4 = some q) (hn : n < 160) (hp2 : p ≤ L) : wpc codeT mX (d + 1) 39 [.inr (.inr (some 79))] (185, s, T, xI I q (p : Int) 0 cl (n : Int) S V A C, J, R) Q ↔ Q none (185, s, T, xI I q ((nmS (sgX I L) 5 p 0).2.1 : Int) (nmS (sgX I L) 5 p 0).1 cl ((n + 1 : Nat) : Int) (sx S n 48) (sx V n (nmS (sgX I L) 5 p 0).2.2) A C, J, R) := wpc_det (by
  have := p39 (d := d) (s := s) (J := J) (S := S) (V := V) (A := A) (C := C) (cl := cl) (Q := fun v g => g = (185, s, T, xI I q ((nmS (sgX I L) 5 p 0).2.1 : Int) (nmS (sgX I L) 5 p 0).1 cl ((n + 1 : Nat) : Int) (sx S n 48) (sx V n (nmS (sgX I L) 5 p 0).2.2) A C, J, R) ∧ v = none) hh hl hL hL2 hR hR4 hn 5 p 0 0 rfl hp2 (by decide) (by decide) ⟨rfl, rfl⟩
  simp only [s39_0, s39_1, s39_2, s39_3, e39, Option.toList_some, Option.toList_none, List.cons_append, List.nil_append, Nat.le_refl, true_and, and_true, true_or, or_true, false_or, or_false, true_implies, false_implies, implies_true, not_true_eq_false, not_false_eq_true, eq_self, Nat.reduceLT, Nat.reduceLeDiff, Nat.reduceEqDiff, Nat.reduceAdd, Nat.reduceSub, Int.reduceLT, Int.reduceLE, Int.reduceEq, Int.reduceNeg, Int.reduceNe, Int.reduceAdd, Int.reduceSub, Int.reduceMul, Int.reduceToNat, Int.toNat_zero, Int.toNat_one, Int.toNat_natCast, am_cats, am_cat, am_st1, am_st2, am_clr, up2_na, up2_nj, up2_same, List.getElem?_cons_zero, List.getElem?_cons_succ, List.set_cons_zero, List.set_cons_succ, ne_eq]
  exact this)
end
