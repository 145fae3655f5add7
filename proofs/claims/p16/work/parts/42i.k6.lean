/-! the law by hand, 7: told, does -/
section
variable {d s : Nat} {T : Nat → Nat × Nat} {I J : Nat → Nat → Int} {R : Nat → Nat → Option Nat} {Q : Option AV → AH → Prop}
theorem i5 : (0 : Int) < ((5 : Nat) : Int) ∧ (1 : Int) < ((5 : Nat) : Int) ∧ (2 : Int) < ((5 : Nat) : Int) ∧ (3 : Int) < ((5 : Nat) : Int) ∧ (4 : Int) < ((5 : Nat) : Int) := by decide
/-- an answer is added: class, reference -/
def adX (I : Nat → Nat → Int) (h t n : Nat) (day right had : Int) : Nat → Nat → Int := up2 (up2 (up2 (up2 (up2 (up2 (up2 (up2 (up2 (up2 (up2 I 19 n (h : Int)) 20 n (t : Int)) 21 n day) 22 n right) 23 n had) (25 + h) t (w32 (I (25 + h) t + right))) (33 + h) t (w32 (I (33 + h) t + 1))) 39 h (w32 (I 39 h + 1))) (41 + h) t day) (48 + h) t (w32 (I 39 h + 1))) 17 3 ((n + 1 : Nat) : Int)
def adR (I : Nat → Nat → Int) (h t n : Nat) (day right had : Int) : Nat → Nat → Int := up2 (up2 (up2 (up2 (up2 (up2 I 157 n (h : Int)) 158 n (t : Int)) 159 n day) 160 n right) 161 n had) 152 4 ((n + 1 : Nat) : Int)
theorem k67 (hh : hp T R) : wpc codeT mX d 67 [.inr (.inr (some 17))] (185, s, T, I, J, R) Q ↔ Q (some (.inl (if 200 ≤ I 17 3 then 1 else 0))) (185, s, T, I, J, R) := wpc_det (by
  simp only [e67, s67_0, s67_1, s67_2, s67_3, s67_4, s67_5, s67_6, s67_7, Option.toList_some, Option.toList_none, List.cons_append, List.nil_append, Nat.le_refl, true_and, and_true, true_or, or_true, false_or, or_false, true_implies, false_implies, implies_true, not_true_eq_false, not_false_eq_true, eq_self, Nat.reduceLT, Nat.reduceLeDiff, Nat.reduceEqDiff, Nat.reduceAdd, Nat.reduceSub, Int.reduceLT, Int.reduceLE, Int.reduceEq, Int.reduceNeg, Int.reduceNe, Int.reduceAdd, Int.reduceSub, Int.reduceMul, Int.reduceToNat, Int.toNat_zero, Int.toNat_one, Int.toNat_natCast, am_cats, am_cat, am_st1, am_st2, am_clr, up2_na, up2_nj, up2_same, List.getElem?_cons_zero, List.getElem?_cons_succ, List.set_cons_zero, List.set_cons_succ, ne_eq, tk_17 hh]
  refine ⟨fun h => ?_, fun h => ?_⟩
  · rw [if_neg (by omega)]
  · rw [if_pos (by omega)])
theorem k74 (hh : hp T R) {n : Nat} (hn : I 17 3 = n) (h2 : n ≤ 200) : wpc codeT mX d 74 [.inr (.inr (some 17))] (185, s, T, I, J, R) Q ↔ Q (some (.inl (if n = 0 then 0 else I 21 (n - 1)))) (185, s, T, I, J, R) := wpc_det (by
  by_cases h0 : n = 0
  · subst h0
    have hn : I 17 3 = 0 := hn
    simp only [e74, s74_0, s74_1, s74_2, s74_3, s74_4, s74_5, s74_6, s74_7, s74_8, s74_9, s74_10, s74_11, s74_12, s74_13, s74_14, Option.toList_some, Option.toList_none, List.cons_append, List.nil_append, Nat.le_refl, true_and, and_true, true_or, or_true, false_or, or_false, true_implies, false_implies, implies_true, not_true_eq_false, not_false_eq_true, eq_self, Nat.reduceLT, Nat.reduceLeDiff, Nat.reduceEqDiff, Nat.reduceAdd, Nat.reduceSub, Int.reduceLT, Int.reduceLE, Int.reduceEq, Int.reduceNeg, Int.reduceNe, Int.reduceAdd, Int.reduceSub, Int.reduceMul, Int.reduceToNat, Int.toNat_zero, Int.toNat_one, Int.toNat_natCast, am_cats, am_cat, am_st1, am_st2, am_clr, up2_na, up2_nj, up2_same, List.getElem?_cons_zero, List.getElem?_cons_succ, List.set_cons_zero, List.set_cons_succ, ne_eq, tk_17 hh, hn, if_true]
  · have a1 : ¬ (n : Int) = 0 := by omega
    have u1 : 0 ≤ ((n - 1 : Nat) : Int) ∧ ((n - 1 : Nat) : Int) < ((200 : Nat) : Int) := by omega
    have o1 : (n : Int) - 1 = ((n - 1 : Nat) : Int) := by omega
    have o2 : n - 1 ≤ 2000000000 := by omega
    have v1 := w32_c o1 o2
    simp only [e74, s74_0, s74_1, s74_2, s74_3, s74_4, s74_5, s74_6, s74_7, s74_8, s74_9, s74_10, s74_11, s74_12, s74_13, s74_14, Option.toList_some, Option.toList_none, List.cons_append, List.nil_append, Nat.le_refl, true_and, and_true, true_or, or_true, false_or, or_false, true_implies, false_implies, implies_true, not_true_eq_false, not_false_eq_true, eq_self, Nat.reduceLT, Nat.reduceLeDiff, Nat.reduceEqDiff, Nat.reduceAdd, Nat.reduceSub, Int.reduceLT, Int.reduceLE, Int.reduceEq, Int.reduceNeg, Int.reduceNe, Int.reduceAdd, Int.reduceSub, Int.reduceMul, Int.reduceToNat, Int.toNat_zero, Int.toNat_one, Int.toNat_natCast, am_cats, am_cat, am_st1, am_st2, am_clr, up2_na, up2_nj, up2_same, List.getElem?_cons_zero, List.getElem?_cons_succ, List.set_cons_zero, List.set_cons_succ, ne_eq, tk_17 hh, tk_18 hh, tk_21 hh, rk_17_0 hh, rk_18_2 hh, hn, a1, u1, v1, h0, if_false, i5])
theorem k71 (hh : hp T R) {h t n : Nat} {day right had : Int} (hn : I 17 3 = n) (h2 : n < 200) (h6 : h < 6) (t8 : t < 8) : wpc codeT mX (d + 1) 71 [.inr (.inr (some 17)), .inl (h : Int), .inl (t : Int), .inl day, .inl right, .inl had] (185, s, T, I, J, R) Q ↔ Q (some (.inl (n : Int))) (185, s, T, adX I h t n day right had, J, R) := wpc_det (by
  have nn : (17 : Nat) ≠ 25 + h ∧ (17 : Nat) ≠ 33 + h ∧ (17 : Nat) ≠ 41 + h ∧ (17 : Nat) ≠ 48 + h ∧ (39 : Nat) ≠ 25 + h ∧ (39 : Nat) ≠ 33 + h ∧ (39 : Nat) ≠ 41 + h ∧ (39 : Nat) ≠ 48 + h ∧ 25 + h ≠ 17 ∧ 25 + h ≠ 19 ∧ 25 + h ≠ 20 ∧ 25 + h ≠ 21 ∧ 25 + h ≠ 22 ∧ 25 + h ≠ 23 ∧ 25 + h ≠ 39 ∧ 33 + h ≠ 17 ∧ 33 + h ≠ 19 ∧ 33 + h ≠ 20 ∧ 33 + h ≠ 21 ∧ 33 + h ≠ 22 ∧ 33 + h ≠ 23 ∧ 33 + h ≠ 39 ∧ 41 + h ≠ 17 ∧ 41 + h ≠ 19 ∧ 41 + h ≠ 20 ∧ 41 + h ≠ 21 ∧ 41 + h ≠ 22 ∧ 41 + h ≠ 23 ∧ 41 + h ≠ 39 ∧ 48 + h ≠ 17 ∧ 48 + h ≠ 19 ∧ 48 + h ≠ 20 ∧ 48 + h ≠ 21 ∧ 48 + h ≠ 22 ∧ 48 + h ≠ 23 ∧ 48 + h ≠ 39 ∧ 33 + h ≠ 25 + h ∧ 41 + h ≠ 25 + h ∧ 48 + h ≠ 25 + h ∧ 41 + h ≠ 33 + h ∧ 48 + h ≠ 33 + h ∧ 48 + h ≠ 41 + h ∧ 25 + h < 185 ∧ 33 + h < 185 ∧ 41 + h < 185 ∧ 48 + h < 185 := by omega
  have u1 : (n : Int) < 200 ∧ 0 ≤ (n : Int) ∧ (n : Int) < ((200 : Nat) : Int) := by omega
  have u2 : 0 ≤ (h : Int) ∧ (h : Int) < ((6 : Nat) : Int) := by omega
  have u3 : 0 ≤ (t : Int) ∧ (t : Int) < ((8 : Nat) : Int) := by omega
  have o1 : (n : Int) + 1 = ((n + 1 : Nat) : Int) := by omega
  have o2 : n + 1 ≤ 2000000000 := by omega
  have o3 : ((n + 1 : Nat) : Int) - 1 = (n : Int) := by omega
  have o4 : n ≤ 2000000000 := by omega
  have v1 := w32_c o1 o2
  have v2 := w32_c o3 o4
  simp only [e71, s71_0, s71_1, s71_2, s71_3, s71_4, s71_5, s71_6, s71_7, s71_8, s71_9, s71_10, s71_11, s71_12, s71_13, s71_14, s71_15, s71_16, s71_17, s71_18, s71_19, s71_20, s71_21, s71_22, s71_23, s71_24, s71_25, s71_26, s71_27, s71_28, s71_29, s71_30, s71_31, s71_32, s71_33, s71_34, s71_35, s71_36, s71_37, s71_38, s71_39, s71_40, s71_41, s71_42, s71_43, s71_44, s71_45, s71_46, s71_47, s71_48, s71_49, s71_50, s71_51, s71_52, s71_53, s71_54, s71_55, s71_56, s71_57, s71_58, s71_59, s71_60, s71_61, s71_62, s71_63, s71_64, s71_65, s71_66, s71_67, s71_68, s71_69, s71_70, s71_71, e67, s67_0, s67_1, s67_2, s67_3, s67_4, s67_5, s67_6, s67_7, e72, s72_0, s72_1, s72_2, s72_3, s72_4, s72_5, s72_6, s72_7, s72_8, s72_9, s72_10, s72_11, s72_12, s72_13, s72_14, s72_15, s72_16, s72_17, s72_18, s72_19, s72_20, s72_21, s72_22, s72_23, s72_24, s72_25, s72_26, s72_27, s72_28, s72_29, s72_30, s72_31, s72_32, s72_33, s72_34, s72_35, Option.toList_some, Option.toList_none, List.cons_append, List.nil_append, Nat.le_refl, true_and, and_true, true_or, or_true, false_or, or_false, true_implies, false_implies, implies_true, not_true_eq_false, not_false_eq_true, eq_self, Nat.reduceLT, Nat.reduceLeDiff, Nat.reduceEqDiff, Nat.reduceAdd, Nat.reduceSub, Int.reduceLT, Int.reduceLE, Int.reduceEq, Int.reduceNeg, Int.reduceNe, Int.reduceAdd, Int.reduceSub, Int.reduceMul, Int.reduceToNat, Int.toNat_zero, Int.toNat_one, Int.toNat_natCast, am_cats, am_cat, am_st1, am_st2, am_clr, up2_na, up2_nj, up2_same, List.getElem?_cons_zero, List.getElem?_cons_succ, List.set_cons_zero, List.set_cons_succ, ne_eq, nn, tk_17 hh, tk_18 hh, tk_19 hh, tk_20 hh, tk_21 hh, tk_22 hh, tk_23 hh, tk_24 hh, tk_31 hh, tk_32 hh, tk_39 hh, tk_40 hh, tk_47 hh, rk_17_0 hh, rk_17_1 hh, rk_17_2 hh, rk_18_0 hh, rk_18_1 hh, rk_18_2 hh, rk_18_3 hh, rk_18_4 hh, rk_31_0 hh, rk_31_1 hh, rk_31_2 hh, rk_31_3 hh, gk_24 hh h6, gk_32 hh h6, gk_40 hh h6, gk_47 hh h6, tg_25 hh h6, tg_33 hh h6, tg_41 hh h6, tg_48 hh h6, hn, u1, u2, u3, v1, v2, i5]
  rfl)
theorem k173 (hh : hp T R) {h t n : Nat} {day right had : Int} (hn : I 152 4 = n) (h2 : n < 200) : wpc codeT mX d 173 [.inr (.inr (some 152)), .inl (h : Int), .inl (t : Int), .inl day, .inl right, .inl had] (185, s, T, I, J, R) Q ↔ Q none (185, s, T, adR I h t n day right had, J, R) := wpc_det (by
  have u1 : 0 ≤ (n : Int) ∧ (n : Int) < ((200 : Nat) : Int) := by omega
  have o1 : (n : Int) + 1 = ((n + 1 : Nat) : Int) := by omega
  have o2 : n + 1 ≤ 2000000000 := by omega
  have v1 := w32_c o1 o2
  simp only [e173, s173_0, s173_1, s173_2, s173_3, s173_4, s173_5, s173_6, s173_7, s173_8, s173_9, s173_10, s173_11, s173_12, s173_13, s173_14, s173_15, s173_16, s173_17, s173_18, s173_19, s173_20, s173_21, s173_22, s173_23, s173_24, s173_25, s173_26, s173_27, s173_28, s173_29, s173_30, s173_31, s173_32, s173_33, s173_34, s173_35, s173_36, Option.toList_some, Option.toList_none, List.cons_append, List.nil_append, Nat.le_refl, true_and, and_true, true_or, or_true, false_or, or_false, true_implies, false_implies, implies_true, not_true_eq_false, not_false_eq_true, eq_self, Nat.reduceLT, Nat.reduceLeDiff, Nat.reduceEqDiff, Nat.reduceAdd, Nat.reduceSub, Int.reduceLT, Int.reduceLE, Int.reduceEq, Int.reduceNeg, Int.reduceNe, Int.reduceAdd, Int.reduceSub, Int.reduceMul, Int.reduceToNat, Int.toNat_zero, Int.toNat_one, Int.toNat_natCast, am_cats, am_cat, am_st1, am_st2, am_clr, up2_na, up2_nj, up2_same, List.getElem?_cons_zero, List.getElem?_cons_succ, List.set_cons_zero, List.set_cons_succ, ne_eq, tk_152 hh, tk_157 hh, tk_158 hh, tk_159 hh, tk_160 hh, tk_161 hh, rk_152_11 hh, rk_152_12 hh, rk_152_13 hh, rk_152_14 hh, rk_152_15 hh, hn, u1, v1]
  rfl)
/-- what is not written -/
theorem adX_o {h t n a j : Nat} {day right had : Int} (ha : a = 0 ∨ a = 3 ∨ a = 19 ∧ j ≠ n ∨ a = 20 ∧ j ≠ n ∨ a = 21 ∧ j ≠ n ∨ 54 ≤ a) (h6 : h < 6) : adX I h t n day right had a j = I a j := by
  unfold adX
  rw [up2_ne _ _ (by omega), up2_ne _ _ (by omega), up2_ne _ _ (by omega), up2_ne _ _ (by omega), up2_ne _ _ (by omega), up2_ne _ _ (by omega), up2_ne _ _ (by omega), up2_ne _ _ (by omega), up2_ne _ _ (by omega), up2_ne _ _ (by omega), up2_ne _ _ (by omega)]
theorem adR_o {h t n a j : Nat} {day right had : Int} (ha : a < 152 ∨ a = 152 ∧ j ≠ 4 ∨ a = 157 ∧ j ≠ n ∨ a = 158 ∧ j ≠ n ∨ a = 159 ∧ j ≠ n ∨ a = 160 ∧ j ≠ n ∨ a = 161 ∧ j ≠ n ∨ 162 ≤ a ∨ a = 153 ∨ a = 154 ∨ a = 155 ∨ a = 156) : adR I h t n day right had a j = I a j := by
  unfold adR
  rw [up2_ne _ _ (by omega), up2_ne _ _ (by omega), up2_ne _ _ (by omega), up2_ne _ _ (by omega), up2_ne _ _ (by omega), up2_ne _ _ (by omega)]
theorem adX_3 {h t n : Nat} {day right had : Int} : adX I h t n day right had 17 3 = ((n + 1 : Nat) : Int) := up2_same _ _ _ _
theorem adR_4 {h t n : Nat} {day right had : Int} : adR I h t n day right had 152 4 = ((n + 1 : Nat) : Int) := up2_same _ _ _ _
theorem adX_h {h t n : Nat} {day right had : Int} (h6 : h < 6) : adX I h t n day right had 19 n = (h : Int) := by
  unfold adX
  rw [up2_na (by decide), up2_na (by omega), up2_na (by omega), up2_na (by decide), up2_na (by omega), up2_na (by omega), up2_na (by decide), up2_na (by decide), up2_na (by decide), up2_na (by decide), up2_same]
theorem adX_t {h t n : Nat} {day right had : Int} (h6 : h < 6) : adX I h t n day right had 20 n = (t : Int) := by
  unfold adX
  rw [up2_na (by decide), up2_na (by omega), up2_na (by omega), up2_na (by decide), up2_na (by omega), up2_na (by omega), up2_na (by decide), up2_na (by decide), up2_na (by decide), up2_same]
theorem adX_d {h t n : Nat} {day right had : Int} (h6 : h < 6) : adX I h t n day right had 21 n = day := by
  unfold adX
  rw [up2_na (by decide), up2_na (by omega), up2_na (by omega), up2_na (by decide), up2_na (by omega), up2_na (by omega), up2_na (by decide), up2_na (by decide), up2_same]
theorem adX_r {h t n : Nat} {day right had : Int} (h6 : h < 6) : adX I h t n day right had 22 n = right := by
  unfold adX
  rw [up2_na (by decide), up2_na (by omega), up2_na (by omega), up2_na (by decide), up2_na (by omega), up2_na (by omega), up2_na (by decide), up2_same]
theorem adX_k {h t n : Nat} {day right had : Int} (h6 : h < 6) : adX I h t n day right had 23 n = had := by
  unfold adX
  rw [up2_na (by decide), up2_na (by omega), up2_na (by omega), up2_na (by decide), up2_na (by omega), up2_na (by omega), up2_same]
theorem adR_h {h t n : Nat} {day right had : Int} : adR I h t n day right had 157 n = (h : Int) := by
  unfold adR
  rw [up2_na (by decide), up2_na (by decide), up2_na (by decide), up2_na (by decide), up2_na (by decide), up2_same]
theorem adR_t {h t n : Nat} {day right had : Int} : adR I h t n day right had 158 n = (t : Int) := by
  unfold adR
  rw [up2_na (by decide), up2_na (by decide), up2_na (by decide), up2_na (by decide), up2_same]
theorem adR_d {h t n : Nat} {day right had : Int} : adR I h t n day right had 159 n = day := by
  unfold adR
  rw [up2_na (by decide), up2_na (by decide), up2_na (by decide), up2_same]
theorem adR_r {h t n : Nat} {day right had : Int} : adR I h t n day right had 160 n = right := by
  unfold adR
  rw [up2_na (by decide), up2_na (by decide), up2_same]
theorem adR_k {h t n : Nat} {day right had : Int} : adR I h t n day right had 161 n = had := by
  unfold adR
  rw [up2_na (by decide), up2_same]
/-- both books, one answer more -/
theorem lkB_ad {I Y : Nat → Nat → Int} {h t n : Nat} {day r1 h1 r2 h2 : Int} (h6 : h < 6) (hn : I 17 3 = n) (hY : ∀ a j, (a = 157 ∨ a = 158 ∨ a = 159) → Y a j = I a j) (hX : ∀ a j, (a = 17 ∧ j = 3 ∨ (a = 19 ∨ a = 20 ∨ a = 21)) → Y a j = adX I h t n day r1 h1 a j) (hb : lkB I) : lkB (adR Y h t n day r2 h2) := by
  intro i hi
  have e1 : adR Y h t n day r2 h2 17 3 = ((n + 1 : Nat) : Int) := by rw [adR_o (by omega), hX 17 3 (by omega), adX_3]
  rw [e1] at hi
  have e2 : ∀ a, (a = 19 ∨ a = 20 ∨ a = 21) → adR Y h t n day r2 h2 a i = adX I h t n day r1 h1 a i := fun a ha => by rw [adR_o (by omega), hX a i (by omega)]
  rw [e2 19 (by omega), e2 20 (by omega), e2 21 (by omega)]
  by_cases he : i = n
  · subst he
    rw [adX_h h6, adX_t h6, adX_d h6, adR_h, adR_t, adR_d]
    exact ⟨rfl, rfl, rfl⟩
  · rw [adX_o (by omega) h6, adX_o (by omega) h6, adX_o (by omega) h6, adR_o (by omega), adR_o (by omega), adR_o (by omega), hY 157 i (by omega), hY 158 i (by omega), hY 159 i (by omega)]
    exact hb i (by omega)
end
section
variable {L s d : Nat} {X : Nat → Int}
theorem pr_told (hL : L ≤ 3072) (hX : ∀ j, rg32 (X j)) (hd : 40 ≤ d) {cmp : Bool} : pr L X s LKP d 73 174 4 false cmp := by
  refine pr_mk (cx := cn83) (cm := cn146) (nx := 0) (nm := 0) hL hX (cn_all 83 (by decide) cn83 rfl) (cn_all 146 (by decide) cn146 rfl) rfl hd (fun as g hl hr hH hs hP => ?_)
  obtain ⟨a, b, y, z, rfl⟩ := len4 hl
  obtain ⟨c, s, T, I, J, R⟩ := g
  obtain ⟨d, rfl⟩ : ∃ e, d = e + 2 := ⟨d - 2, by omega⟩
  have hc : c = 185 := hH.1
  subst hc
  have hh := hp_of (eH5_of hH)
  have hP : LK I := hP
  obtain ⟨l0, l1, l2, l3, l4, l5, l6, l7, l8, l9, l10, l11, l12, l13, l14, l15⟩ := hP
  have e0 : I 0 0 = I 152 0 := l0
  have e2 : I 0 2 = I 152 2 := l2
  have e3 : I 3 3 = I 152 3 := l5
  have e4 : I 17 3 = I 152 4 := l6
  have b2 : 0 ≤ I 0 2 ∧ I 0 2 ≤ 6 := ebd hH (by decide) (by decide) (by decide)
  have b3 : 0 ≤ I 3 3 ∧ I 3 3 ≤ 8 := ebd hH (by decide) (by decide) (by decide)
  have b4 : 0 ≤ I 17 3 ∧ I 17 3 ≤ 200 := ebd hH (by decide) (by decide) (by decide)
  obtain ⟨n, hn⟩ : ∃ n : Nat, I 17 3 = n := ⟨(I 17 3).toNat, by omega⟩
  have hm : I 152 4 = n := e4.symm.trans hn
  have n200 : n ≤ 200 := by omega
  obtain ⟨lat, hlat⟩ : ∃ q : Int, q = if n = 0 then 0 else I 21 (n - 1) := ⟨_, rfl⟩
  -- the reference's question for the day
  have kday : ∀ (Q : Option AV → AH → Prop) (l0 l1 l2 l3 l4 : Option AV) , wp codeT mX (d + 2) 174 21 [some (.inr (.inr (some 152))), l1, l2, some (.inl y), l4] [.inl lat, .inl y] (185, s, T, I, J, R) Q → wp codeT mX (d + 2) 174 9 [some (.inr (.inr (some 152))), l1, l2, some (.inl y), l4] [.inl y] (185, s, T, I, J, R) Q := by
    intro Q l0 l1 l2 l3 l4 hQ
    by_cases h0 : n = 0
    · rw [if_pos h0] at hlat
      subst hlat h0
      have hm : I 152 4 = 0 := hm
      simp only [s174_9, s174_10, s174_11, s174_12, s174_13, s174_14, s174_15, s174_16, s174_17, s174_18, s174_19, s174_20, Option.toList_some, Option.toList_none, List.cons_append, List.nil_append, Nat.le_refl, true_and, and_true, true_or, or_true, false_or, or_false, true_implies, false_implies, implies_true, not_true_eq_false, not_false_eq_true, eq_self, Nat.reduceLT, Nat.reduceLeDiff, Nat.reduceEqDiff, Nat.reduceAdd, Nat.reduceSub, Int.reduceLT, Int.reduceLE, Int.reduceEq, Int.reduceNeg, Int.reduceNe, Int.reduceAdd, Int.reduceSub, Int.reduceMul, Int.reduceToNat, Int.toNat_zero, Int.toNat_one, Int.toNat_natCast, am_cats, am_cat, am_st1, am_st2, am_clr, up2_na, up2_nj, up2_same, List.getElem?_cons_zero, List.getElem?_cons_succ, List.set_cons_zero, List.set_cons_succ, ne_eq, tk_152 hh, hm]
      exact hQ
    · rw [if_neg h0] at hlat
      have es := (l12 (n - 1) (by omega)).2.2
      rw [es] at hlat
      have a1 : ¬ (n : Int) = 0 := by omega
      have u1 : 0 ≤ ((n - 1 : Nat) : Int) ∧ ((n - 1 : Nat) : Int) < ((200 : Nat) : Int) := by omega
      have o1 : (n : Int) - 1 = ((n - 1 : Nat) : Int) := by omega
      have o2 : n - 1 ≤ 2000000000 := by omega
      have v1 := w32_c o1 o2
      simp only [s174_9, s174_10, s174_11, s174_12, s174_13, s174_14, s174_15, s174_16, s174_17, s174_18, s174_19, s174_20, Option.toList_some, Option.toList_none, List.cons_append, List.nil_append, Nat.le_refl, true_and, and_true, true_or, or_true, false_or, or_false, true_implies, false_implies, implies_true, not_true_eq_false, not_false_eq_true, eq_self, Nat.reduceLT, Nat.reduceLeDiff, Nat.reduceEqDiff, Nat.reduceAdd, Nat.reduceSub, Int.reduceLT, Int.reduceLE, Int.reduceEq, Int.reduceNeg, Int.reduceNe, Int.reduceAdd, Int.reduceSub, Int.reduceMul, Int.reduceToNat, Int.toNat_zero, Int.toNat_one, Int.toNat_natCast, am_cats, am_cat, am_st1, am_st2, am_clr, up2_na, up2_nj, up2_same, List.getElem?_cons_zero, List.getElem?_cons_succ, List.set_cons_zero, List.set_cons_succ, ne_eq, tk_152 hh, tk_159 hh, rk_152_13 hh, hm, a1, u1, v1, ← hlat]
      exact hQ
  show wpc codeT mX (d + 2) 73 [.inr (.inr (some 0)), .inl a, .inl b, .inl y, .inl z] _ _
  by_cases hg : (0 ≤ a ∧ a < I 0 2) ∧ (0 ≤ b ∧ b < I 3 3) ∧ (0 ≤ z ∧ z ≤ 1) ∧ n < 200 ∧ lat ≤ y ∧ y ≤ I 0 0
  · obtain ⟨g1, g2, g3, g4, g5⟩ := hg
    obtain ⟨h, rfl⟩ : ∃ n : Nat, a = n := ⟨a.toNat, by omega⟩
    obtain ⟨t, rfl⟩ : ∃ n : Nat, b = n := ⟨b.toNat, by omega⟩
    have h6 : h < 6 := by omega
    have t8 : t < 8 := by omega
    have y1 : 0 ≤ (h : Int) ∧ (h : Int) < I 152 2 := by omega
    have y2 : 0 ≤ (t : Int) ∧ (t : Int) < I 152 3 := by omega
    have y3 : lat ≤ y ∧ y ≤ I 152 0 := by omega
    have u1 : ¬ 200 ≤ (n : Int) := by omega
    have u2 : ¬ (n : Int) = 200 := by omega
    have o3 : ((n + 1 : Nat) : Int) - 1 = (n : Int) := by omega
    have o4 : n ≤ 2000000000 := by omega
    have nw : lkB (adR (adX I h t n y z (-1)) h t n y z (-1)) := lkB_ad (I := I) (r1 := z) (h1 := -1) h6 hn (fun a j ha => adX_o (by omega) h6) (fun a j _ => rfl) l12
    have nw2 : twn 17 3 152 4 (adR (adX I h t n y z (-1)) h t n y z (-1)) := by
      unfold twn
      rw [adR_4, adR_o (by omega), adX_3]
    simp only [e73, s73_0, s73_1, s73_2, s73_3, s73_4, s73_5, s73_6, s73_7, s73_8, s73_9, s73_10, s73_11, s73_12, s73_13, s73_14, s73_15, s73_16, s73_17, s73_18, s73_19, s73_20, s73_21, s73_22, s73_23, s73_24, s73_25, s73_26, s73_27, s73_28, s73_29, s73_30, s73_31, s73_32, s73_33, s73_34, s73_35, s73_36, s73_37, Option.toList_some, Option.toList_none, List.cons_append, List.nil_append, Nat.le_refl, true_and, and_true, true_or, or_true, false_or, or_false, true_implies, false_implies, implies_true, not_true_eq_false, not_false_eq_true, eq_self, Nat.reduceLT, Nat.reduceLeDiff, Nat.reduceEqDiff, Nat.reduceAdd, Nat.reduceSub, Int.reduceLT, Int.reduceLE, Int.reduceEq, Int.reduceNeg, Int.reduceNe, Int.reduceAdd, Int.reduceSub, Int.reduceMul, Int.reduceToNat, Int.toNat_zero, Int.toNat_one, Int.toNat_natCast, am_cats, am_cat, am_st1, am_st2, am_clr, up2_na, up2_nj, up2_same, List.getElem?_cons_zero, List.getElem?_cons_succ, List.set_cons_zero, List.set_cons_succ, ne_eq, tk_0 hh, rk_0_7 hh, tk_17 hh, k16 hh, k51 hh, k18, k67 hh, k74 hh hn n200, k71 hh hn g4 h6 t8, i10, ← hlat, g1, g2, g3, g5, hn, u1]
    intro _ hH1 m1 s1
    refine ⟨_, rfl, ?_⟩
    have hm' : adX I h t n y z (-1) 152 4 = n := (adX_o (by omega) h6).trans hm
    have w2 : adX I h t n y z (-1) 152 2 = I 152 2 := adX_o (by omega) h6
    have w3 : adX I h t n y z (-1) 152 3 = I 152 3 := adX_o (by omega) h6
    have w0 : adX I h t n y z (-1) 152 0 = I 152 0 := adX_o (by omega) h6
    have w21 : ∀ j, adX I h t n y z (-1) 159 j = I 159 j := fun j => adX_o (by omega) h6
    show wpc codeT mX (d + 2) 174 [.inr (.inr (some 152)), .inl (h : Int), .inl (t : Int), .inl y, .inl z] (185, s, T, adX I h t n y z (-1), J, R) _
    by_cases h0 : n = 0
    · rw [if_pos h0] at hlat
      subst hlat h0
      have hm0 : adX I h t 0 y z (-1) 152 4 = 0 := hm'
      have v2 := w32_c o3 o4
      have v3 : w32 (1 - 1) = 0 := by decide
      simp only [e174, s174_0, s174_1, s174_2, s174_3, s174_4, s174_5, s174_6, s174_7, s174_8, s174_9, s174_10, s174_11, s174_12, s174_13, s174_14, s174_15, s174_16, s174_17, s174_18, s174_19, s174_20, s174_21, s174_22, s174_23, s174_24, s174_25, s174_26, s174_27, s174_28, s174_29, s174_30, s174_31, s174_32, s174_33, s174_34, s174_35, s174_36, s174_37, s174_38, s174_39, s174_40, s174_41, s174_42, s174_43, s174_44, s174_45, s174_46, s174_47, Option.toList_some, Option.toList_none, List.cons_append, List.nil_append, Nat.le_refl, true_and, and_true, true_or, or_true, false_or, or_false, true_implies, false_implies, implies_true, not_true_eq_false, not_false_eq_true, eq_self, Nat.reduceLT, Nat.reduceLeDiff, Nat.reduceEqDiff, Nat.reduceAdd, Nat.reduceSub, Int.reduceLT, Int.reduceLE, Int.reduceEq, Int.reduceNeg, Int.reduceNe, Int.reduceAdd, Int.reduceSub, Int.reduceMul, Int.reduceToNat, Int.toNat_zero, Int.toNat_one, Int.toNat_natCast, am_cats, am_cat, am_st1, am_st2, am_clr, up2_na, up2_nj, up2_same, List.getElem?_cons_zero, List.getElem?_cons_succ, List.set_cons_zero, List.set_cons_succ, ne_eq, tk_152 hh, k134 hh, k164 hh, k136, k173 hh (show adX I h t 0 y z (-1) 152 4 = ((0 : Nat) : Int) from hm0) (show 0 < 200 by decide), adR_4, i10, w0, w2, w3, y1, y2, y3, g3, hm0]
      intro _ hH2 m2
      refine ⟨0, by rw [show ((0 + 1 : Nat) : Int) - 1 = 0 from rfl]; rfl, fun _ => rfl, ?_⟩
      refine ⟨rdS_2 (twn_S 0 0 152 0) (by decide +kernel : (disj cn83.2.2.2.1 _ && disj cn146.2.2.2.1 _) = true) m1 m2 l0, rdS_2 (twn_S 0 1 152 1) (by decide +kernel : (disj cn83.2.2.2.1 _ && disj cn146.2.2.2.1 _) = true) m1 m2 l1, rdS_2 (twn_S 0 2 152 2) (by decide +kernel : (disj cn83.2.2.2.1 _ && disj cn146.2.2.2.1 _) = true) m1 m2 l2, rdS_2 (twn_S 0 3 152 5) (by decide +kernel : (disj cn83.2.2.2.1 _ && disj cn146.2.2.2.1 _) = true) m1 m2 l3, rdS_2 (twn_S 0 4 152 6) (by decide +kernel : (disj cn83.2.2.2.1 _ && disj cn146.2.2.2.1 _) = true) m1 m2 l4, rdS_2 (twn_S 3 3 152 3) (by decide +kernel : (disj cn83.2.2.2.1 _ && disj cn146.2.2.2.1 _) = true) m1 m2 l5, ?_, rdS_2 (twn_S 102 3 152 46) (by decide +kernel : (disj cn83.2.2.2.1 _ && disj cn146.2.2.2.1 _) = true) m1 m2 l7, rdS_2 (twn_S 1 1 152 17) (by decide +kernel : (disj cn83.2.2.2.1 _ && disj cn146.2.2.2.1 _) = true) m1 m2 l8, rdS_2 (lkY_S) (by decide +kernel : (disj cn83.2.2.2.1 _ && disj cn146.2.2.2.1 _) = true) m1 m2 l9, rdS_2 (lkS_S) (by decide +kernel : (disj cn83.2.2.2.1 _ && disj cn146.2.2.2.1 _) = true) m1 m2 l10, rdS_2 (lkT_S) (by decide +kernel : (disj cn83.2.2.2.1 _ && disj cn146.2.2.2.1 _) = true) m1 m2 l11, ?_, rdS_2 (lkO_S) (by decide +kernel : (disj cn83.2.2.2.1 _ && disj cn146.2.2.2.1 _) = true) m1 m2 l13, rdS_2 (lkC_S) (by decide +kernel : (disj cn83.2.2.2.1 _ && disj cn146.2.2.2.1 _) = true) m1 m2 l14, rdS_2 (lkQ_S) (by decide +kernel : (disj cn83.2.2.2.1 _ && disj cn146.2.2.2.1 _) = true) m1 m2 l15⟩
      · exact nw2
      · exact nw
    · rw [if_neg h0] at hlat
      have es := (l12 (n - 1) (by omega)).2.2
      rw [es] at hlat
      have a1 : ¬ (n : Int) = 0 := by omega
      have u3 : 0 ≤ ((n - 1 : Nat) : Int) ∧ ((n - 1 : Nat) : Int) < ((200 : Nat) : Int) := by omega
      have o1 : (n : Int) - 1 = ((n - 1 : Nat) : Int) := by omega
      have o2 : n - 1 ≤ 2000000000 := by omega
      have v1 := w32_c o1 o2
      have v2 := w32_c o3 o4
      simp only [e174, s174_0, s174_1, s174_2, s174_3, s174_4, s174_5, s174_6, s174_7, s174_8, s174_9, s174_10, s174_11, s174_12, s174_13, s174_14, s174_15, s174_16, s174_17, s174_18, s174_19, s174_20, s174_21, s174_22, s174_23, s174_24, s174_25, s174_26, s174_27, s174_28, s174_29, s174_30, s174_31, s174_32, s174_33, s174_34, s174_35, s174_36, s174_37, s174_38, s174_39, s174_40, s174_41, s174_42, s174_43, s174_44, s174_45, s174_46, s174_47, Option.toList_some, Option.toList_none, List.cons_append, List.nil_append, Nat.le_refl, true_and, and_true, true_or, or_true, false_or, or_false, true_implies, false_implies, implies_true, not_true_eq_false, not_false_eq_true, eq_self, Nat.reduceLT, Nat.reduceLeDiff, Nat.reduceEqDiff, Nat.reduceAdd, Nat.reduceSub, Int.reduceLT, Int.reduceLE, Int.reduceEq, Int.reduceNeg, Int.reduceNe, Int.reduceAdd, Int.reduceSub, Int.reduceMul, Int.reduceToNat, Int.toNat_zero, Int.toNat_one, Int.toNat_natCast, am_cats, am_cat, am_st1, am_st2, am_clr, up2_na, up2_nj, up2_same, List.getElem?_cons_zero, List.getElem?_cons_succ, List.set_cons_zero, List.set_cons_succ, ne_eq, tk_152 hh, tk_159 hh, rk_152_13 hh, k134 hh, k164 hh, k136, k173 hh hm' g4, adR_4, i10, w0, w2, w3, w21, y1, y2, y3, g3, hm', a1, u2, u3, v1, v2, ← hlat]
      intro _ hH2 m2
      refine ⟨_, rfl, fun _ => rfl, ?_⟩
      refine ⟨rdS_2 (twn_S 0 0 152 0) (by decide +kernel : (disj cn83.2.2.2.1 _ && disj cn146.2.2.2.1 _) = true) m1 m2 l0, rdS_2 (twn_S 0 1 152 1) (by decide +kernel : (disj cn83.2.2.2.1 _ && disj cn146.2.2.2.1 _) = true) m1 m2 l1, rdS_2 (twn_S 0 2 152 2) (by decide +kernel : (disj cn83.2.2.2.1 _ && disj cn146.2.2.2.1 _) = true) m1 m2 l2, rdS_2 (twn_S 0 3 152 5) (by decide +kernel : (disj cn83.2.2.2.1 _ && disj cn146.2.2.2.1 _) = true) m1 m2 l3, rdS_2 (twn_S 0 4 152 6) (by decide +kernel : (disj cn83.2.2.2.1 _ && disj cn146.2.2.2.1 _) = true) m1 m2 l4, rdS_2 (twn_S 3 3 152 3) (by decide +kernel : (disj cn83.2.2.2.1 _ && disj cn146.2.2.2.1 _) = true) m1 m2 l5, ?_, rdS_2 (twn_S 102 3 152 46) (by decide +kernel : (disj cn83.2.2.2.1 _ && disj cn146.2.2.2.1 _) = true) m1 m2 l7, rdS_2 (twn_S 1 1 152 17) (by decide +kernel : (disj cn83.2.2.2.1 _ && disj cn146.2.2.2.1 _) = true) m1 m2 l8, rdS_2 (lkY_S) (by decide +kernel : (disj cn83.2.2.2.1 _ && disj cn146.2.2.2.1 _) = true) m1 m2 l9, rdS_2 (lkS_S) (by decide +kernel : (disj cn83.2.2.2.1 _ && disj cn146.2.2.2.1 _) = true) m1 m2 l10, rdS_2 (lkT_S) (by decide +kernel : (disj cn83.2.2.2.1 _ && disj cn146.2.2.2.1 _) = true) m1 m2 l11, ?_, rdS_2 (lkO_S) (by decide +kernel : (disj cn83.2.2.2.1 _ && disj cn146.2.2.2.1 _) = true) m1 m2 l13, rdS_2 (lkC_S) (by decide +kernel : (disj cn83.2.2.2.1 _ && disj cn146.2.2.2.1 _) = true) m1 m2 l14, rdS_2 (lkQ_S) (by decide +kernel : (disj cn83.2.2.2.1 _ && disj cn146.2.2.2.1 _) = true) m1 m2 l15⟩
      · exact nw2
      · exact nw
  · have hg2 : ¬ ((0 ≤ a ∧ a < I 152 2) ∧ (0 ≤ b ∧ b < I 152 3) ∧ (0 ≤ z ∧ z ≤ 1) ∧ n < 200 ∧ lat ≤ y ∧ y ≤ I 152 0) := by rw [← e2, ← e3, ← e0]; exact hg
    have fin : ∀ Q : Option AV → AH → Prop, Q (some (.inl (-1))) (185, s, T, I, J, R) → wpc codeT mX (d + 2) 174 [.inr (.inr (some 152)), .inl a, .inl b, .inl y, .inl z] (185, s, T, I, J, R) Q := by
      intro Q hQ
      have tail : wp codeT mX (d + 2) 174 9 [some (.inr (.inr (some 152))), some (.inl a), some (.inl b), some (.inl y), some (.inl z)] [.inl y] (185, s, T, I, J, R) Q ∨ ((0 ≤ a ∧ a < I 152 2) ∧ (0 ≤ b ∧ b < I 152 3) → wp codeT mX (d + 2) 174 9 [some (.inr (.inr (some 152))), some (.inl a), some (.inl b), some (.inl y), some (.inl z)] [.inl y] (185, s, T, I, J, R) Q) := Or.inr (fun q12 => by
        refine kday _ none _ _ none _ ?_
        simp only [s174_21, s174_22, s174_23, s174_24, s174_25, s174_26, s174_27, s174_28, s174_29, s174_30, s174_31, s174_32, s174_33, s174_34, s174_35, Option.toList_some, Option.toList_none, List.cons_append, List.nil_append, Nat.le_refl, true_and, and_true, true_or, or_true, false_or, or_false, true_implies, false_implies, implies_true, not_true_eq_false, not_false_eq_true, eq_self, Nat.reduceLT, Nat.reduceLeDiff, Nat.reduceEqDiff, Nat.reduceAdd, Nat.reduceSub, Int.reduceLT, Int.reduceLE, Int.reduceEq, Int.reduceNeg, Int.reduceNe, Int.reduceAdd, Int.reduceSub, Int.reduceMul, Int.reduceToNat, Int.toNat_zero, Int.toNat_one, Int.toNat_natCast, am_cats, am_cat, am_st1, am_st2, am_clr, up2_na, up2_nj, up2_same, List.getElem?_cons_zero, List.getElem?_cons_succ, List.set_cons_zero, List.set_cons_succ, ne_eq, tk_152 hh, k136, i10, Classical.not_not, hm]
        refine ⟨fun _ => hQ, fun q3 => ⟨fun _ => hQ, fun q4 => ⟨fun _ => hQ, fun q5 => absurd ⟨q12.1, q12.2, q4, by omega, q3⟩ hg2⟩⟩⟩)
      simp only [s174_0, s174_1, s174_2, s174_3, s174_4, s174_5, s174_6, s174_7, s174_8, s174_34, s174_35, e174, Option.toList_some, Option.toList_none, List.cons_append, List.nil_append, Nat.le_refl, true_and, and_true, true_or, or_true, false_or, or_false, true_implies, false_implies, implies_true, not_true_eq_false, not_false_eq_true, eq_self, Nat.reduceLT, Nat.reduceLeDiff, Nat.reduceEqDiff, Nat.reduceAdd, Nat.reduceSub, Int.reduceLT, Int.reduceLE, Int.reduceEq, Int.reduceNeg, Int.reduceNe, Int.reduceAdd, Int.reduceSub, Int.reduceMul, Int.reduceToNat, Int.toNat_zero, Int.toNat_one, Int.toNat_natCast, am_cats, am_cat, am_st1, am_st2, am_clr, up2_na, up2_nj, up2_same, List.getElem?_cons_zero, List.getElem?_cons_succ, List.set_cons_zero, List.set_cons_succ, ne_eq, tk_152 hh, k134 hh, k164 hh, i10, Classical.not_not]
      refine ⟨fun _ => hQ, fun q1 => ⟨fun _ => hQ, fun q2 => ?_⟩⟩
      rcases tail with t1 | t1
      · exact t1
      · exact t1 ⟨q1, q2⟩
    have go : ∀ Q : Option AV → AH → Prop, Q (some (.inl (-1))) (185, s, T, I, J, R) → wpc codeT mX (d + 2) 73 [.inr (.inr (some 0)), .inl a, .inl b, .inl y, .inl z] (185, s, T, I, J, R) Q := by
      intro Q hQ
      simp only [s73_0, s73_1, s73_2, s73_3, s73_4, s73_5, s73_6, s73_7, s73_8, s73_9, s73_10, s73_11, s73_12, s73_13, s73_14, s73_15, s73_16, s73_17, s73_18, s73_19, s73_20, s73_21, s73_22, s73_23, s73_24, s73_25, s73_26, s73_27, s73_28, e73, Option.toList_some, Option.toList_none, List.cons_append, List.nil_append, Nat.le_refl, true_and, and_true, true_or, or_true, false_or, or_false, true_implies, false_implies, implies_true, not_true_eq_false, not_false_eq_true, eq_self, Nat.reduceLT, Nat.reduceLeDiff, Nat.reduceEqDiff, Nat.reduceAdd, Nat.reduceSub, Int.reduceLT, Int.reduceLE, Int.reduceEq, Int.reduceNeg, Int.reduceNe, Int.reduceAdd, Int.reduceSub, Int.reduceMul, Int.reduceToNat, Int.toNat_zero, Int.toNat_one, Int.toNat_natCast, am_cats, am_cat, am_st1, am_st2, am_clr, up2_na, up2_nj, up2_same, List.getElem?_cons_zero, List.getElem?_cons_succ, List.set_cons_zero, List.set_cons_succ, ne_eq, tk_0 hh, rk_0_7 hh, tk_17 hh, k16 hh, k51 hh, k18, k67 hh, k74 hh hn n200, i10, Classical.not_not, ← hlat, hn]
      exact ⟨fun _ => hQ, fun q1 => ⟨fun _ => hQ, fun q2 => ⟨fun _ => hQ, fun q3 => ⟨fun q4 => ⟨fun _ => hQ, fun q5 => absurd ⟨q1, q2, q3, by omega, q5⟩ hg⟩, fun _ => hQ⟩⟩⟩⟩
    exact go _ (fun _ hH1 m1 s1 => ⟨-1, rfl, fin _ (fun _ hH2 m2 => ⟨-1, rfl, fun _ => rfl, l0, l1, l2, l3, l4, l5, l6, l7, l8, l9, l10, l11, l12, l13, l14, l15⟩)⟩)
end
