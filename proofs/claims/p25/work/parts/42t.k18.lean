/-! the law by hand, 18: curve -/
/-- the row that gets no worse: as it stands, the longest -/
def blF (f : Nat → Int) : Nat → Int × Int
  | 0 => (0, 0)
  | k + 1 => (if 0 < k ∧ f (k - 1) < f k then 1 else (blF f k).1 + 1, if (blF f k).2 < (if 0 < k ∧ f (k - 1) < f k then 1 else (blF f k).1 + 1) then (if 0 < k ∧ f (k - 1) < f k then 1 else (blF f k).1 + 1) else (blF f k).2)
theorem blF_bd (f : Nat → Int) : ∀ k : Nat, 0 ≤ (blF f k).1 ∧ (blF f k).1 ≤ k
  | 0 => ⟨Int.le_refl _, Int.le_refl _⟩
  | k + 1 => by
    have := blF_bd f k
    show 0 ≤ (if 0 < k ∧ f (k - 1) < f k then 1 else (blF f k).1 + 1) ∧ (if 0 < k ∧ f (k - 1) < f k then 1 else (blF f k).1 + 1) ≤ ((k + 1 : Nat) : Int)
    split <;> omega
theorem blF_eq {f g : Nat → Int} : ∀ k : Nat, (∀ i, i < k → f i = g i) → blF f k = blF g k
  | 0, _ => rfl
  | k + 1, h => by
    have e := blF_eq k (fun i hi => h i (by omega))
    have e1 := h k (by omega)
    have e2 : f (k - 1) = g (k - 1) := h (k - 1) (by omega)
    show ((if 0 < k ∧ f (k - 1) < f k then 1 else (blF f k).1 + 1, if (blF f k).2 < (if 0 < k ∧ f (k - 1) < f k then 1 else (blF f k).1 + 1) then (if 0 < k ∧ f (k - 1) < f k then 1 else (blF f k).1 + 1) else (blF f k).2) : Int × Int) = (if 0 < k ∧ g (k - 1) < g k then 1 else (blF g k).1 + 1, if (blF g k).2 < (if 0 < k ∧ g (k - 1) < g k then 1 else (blF g k).1 + 1) then (if 0 < k ∧ g (k - 1) < g k then 1 else (blF g k).1 + 1) else (blF g k).2)
    rw [e, e1, e2]
/-- least and greatest of the others -/
def abF (z v : Nat → Int) (h : Int) (p : Int) : Nat → Int × Int
  | 0 => (1001, -1)
  | q + 1 => if (q : Int) = h ∨ ¬ p < z q then abF z v h p q else (if v q < (abF z v h p q).1 then v q else (abF z v h p q).1, if (abF z v h p q).2 < v q then v q else (abF z v h p q).2)
theorem abF_eq {z v z' v' : Nat → Int} {h p : Int} : ∀ n : Nat, (∀ q, q < n → z q = z' q ∧ (p < z q → v q = v' q)) → abF z v h p n = abF z' v' h p n
  | 0, _ => rfl
  | q + 1, hq => by
    have e := abF_eq (h := h) q (fun i hi => hq i (by omega))
    obtain ⟨e1, e2⟩ := hq q (by omega)
    show (if (q : Int) = h ∨ ¬ p < z q then abF z v h p q else (if v q < (abF z v h p q).1 then v q else (abF z v h p q).1, if (abF z v h p q).2 < v q then v q else (abF z v h p q).2)) = (if (q : Int) = h ∨ ¬ p < z' q then abF z' v' h p q else (if v' q < (abF z' v' h p q).1 then v' q else (abF z' v' h p q).1, if (abF z' v' h p q).2 < v' q then v' q else (abF z' v' h p q).2))
    rw [e]
    by_cases c : p < z q
    · rw [e1, e2 c]
    · rw [if_pos (Or.inr c), if_pos (Or.inr (by rw [← e1]; exact c))]
def aoF (z v : Nat → Int) (h p : Int) (n : Nat) (own : Int) : Int := if (abF z v h p n).1 ≤ own ∧ own ≤ (abF z v h p n).2 then 1 else 0
theorem aoF_01 (z v : Nat → Int) (h p : Int) (n : Nat) (own : Int) : aoF z v h p n own = 0 ∨ aoF z v h p n own = 1 := by
  unfold aoF
  split
  · exact Or.inr rfl
  · exact Or.inl rfl
section
variable {d s : Nat} {T : Nat → Nat × Nat} {I J : Nat → Nat → Int} {R : Nat → Nat → Option Nat} {Q : Option AV → AH → Prop}
theorem k116 {g : AH} {h t : Nat} (h6 : h < 6) (t8 : t < 8) : wpc codeT mX d 116 [.inl (h : Int), .inl (t : Int)] g Q ↔ Q (some (.inl ((12 * (8 * h + t) : Nat) : Int))) g := wpc_det (by
  have o1 : (h : Int) * 8 = ((8 * h : Nat) : Int) := by omega
  have o2 : 8 * h ≤ 2000000000 := by omega
  have o3 : ((8 * h : Nat) : Int) + (t : Int) = ((8 * h + t : Nat) : Int) := by omega
  have o4 : 8 * h + t ≤ 2000000000 := by omega
  have o5 : ((8 * h + t : Nat) : Int) * 12 = ((12 * (8 * h + t) : Nat) : Int) := by omega
  have o6 : 12 * (8 * h + t) ≤ 2000000000 := by omega
  have v1 := w32_c o1 o2
  have v2 := w32_c o3 o4
  have v3 := w32_c o5 o6
  simp only [e116, s116_0, s116_1, s116_2, s116_3, s116_4, s116_5, s116_6, s116_7, Option.toList_some, Option.toList_none, List.cons_append, List.nil_append, Nat.le_refl, true_and, and_true, true_or, or_true, false_or, or_false, true_implies, false_implies, implies_true, not_true_eq_false, not_false_eq_true, eq_self, Nat.reduceLT, Nat.reduceLeDiff, Nat.reduceEqDiff, Nat.reduceAdd, Nat.reduceSub, Int.reduceLT, Int.reduceLE, Int.reduceEq, Int.reduceNeg, Int.reduceNe, Int.reduceAdd, Int.reduceSub, Int.reduceMul, Int.reduceToNat, Int.toNat_zero, Int.toNat_one, Int.toNat_natCast, am_cats, am_cat, am_st1, am_st2, am_clr, up2_na, up2_nj, up2_same, List.getElem?_cons_zero, List.getElem?_cons_succ, List.set_cons_zero, List.set_cons_succ, ne_eq, v1, v2, v3])
theorem p118 (hh : hp T R) {h t n : Nat} (h6 : h < 6) (t8 : t < 8) (hn : I (109 + h) t = n) (n12 : n ≤ 12) (hQ : Q (some (.inl (blF (fun j => I 107 (12 * (8 * h + t) + j)) n).2)) (185, s, T, I, J, R)) : ∀ (r k : Nat), k + r = n → ∀ l7, wp codeT mX (d + 1) 118 10 [some (.inr (.inr (some 106))), some (.inl (h : Int)), some (.inl (t : Int)), some (.inl ((12 * (8 * h + t) : Nat) : Int)), some (.inl (blF (fun j => I 107 (12 * (8 * h + t) + j)) k).2), some (.inl (blF (fun j => I 107 (12 * (8 * h + t) + j)) k).1), some (.inl ((12 * (8 * h + t) + k : Nat) : Int)), l7] [] (185, s, T, I, J, R) Q := by
  have u1 : 0 ≤ (h : Int) ∧ (h : Int) < ((6 : Nat) : Int) := by omega
  have u2 : 0 ≤ (t : Int) ∧ (t : Int) < ((8 : Nat) : Int) := by omega
  have u3 : 109 + h < 185 := by omega
  have m48 : 12 * (8 * h + t) ≤ 564 := by omega
  generalize hm : 12 * (8 * h + t) = m at *
  have o1 : (m : Int) + (n : Int) = ((m + n : Nat) : Int) := by omega
  have o2 : m + n ≤ 2000000000 := by omega
  intro r
  induction r with
  | zero =>
    intro k hk l7
    have hk : k = n := by omega
    subst hk
    have v1 := w32_c o1 o2
    refine s118_10.mpr ?_
    simp only [s118_11, s118_12, s118_13, s118_14, s118_15, s118_16, s118_17, s118_18, s118_19, s118_52, s118_53, Option.toList_some, Option.toList_none, List.cons_append, List.nil_append, Nat.le_refl, true_and, and_true, true_or, or_true, false_or, or_false, true_implies, false_implies, implies_true, not_true_eq_false, not_false_eq_true, eq_self, Nat.reduceLT, Nat.reduceLeDiff, Nat.reduceEqDiff, Nat.reduceAdd, Nat.reduceSub, Int.reduceLT, Int.reduceLE, Int.reduceEq, Int.reduceNeg, Int.reduceNe, Int.reduceAdd, Int.reduceSub, Int.reduceMul, Int.reduceToNat, Int.toNat_zero, Int.toNat_one, Int.toNat_natCast, am_cats, am_cat, am_st1, am_st2, am_clr, up2_na, up2_nj, up2_same, List.getElem?_cons_zero, List.getElem?_cons_succ, List.set_cons_zero, List.set_cons_succ, ne_eq, tk_106 hh, tk_108 hh, rk_106_1 hh, gk_108 hh h6, tg_109 hh h6, hn, u1, u2, u3, v1, Int.lt_irrefl]
    exact hQ
  | succ r ih =>
    intro k hk l7
    have nx := ih (k + 1) (by omega)
    have u4 : ((m + k : Nat) : Int) < ((m + n : Nat) : Int) := by omega
    have u5 : 0 ≤ ((m + k : Nat) : Int) ∧ ((m + k : Nat) : Int) < ((576 : Nat) : Int) := by omega
    have o6 : ((m + k : Nat) : Int) + 1 = ((m + (k + 1) : Nat) : Int) := by omega
    have o7 : m + (k + 1) ≤ 2000000000 := by omega
    have b := blF_bd (fun j => I 107 (m + j)) k
    have e : blF (fun j => I 107 (m + j)) (k + 1) = (if 0 < k ∧ I 107 (m + (k - 1)) < I 107 (m + k) then 1 else (blF (fun j => I 107 (m + j)) k).1 + 1, if (blF (fun j => I 107 (m + j)) k).2 < (if 0 < k ∧ I 107 (m + (k - 1)) < I 107 (m + k) then 1 else (blF (fun j => I 107 (m + j)) k).1 + 1) then (if 0 < k ∧ I 107 (m + (k - 1)) < I 107 (m + k) then 1 else (blF (fun j => I 107 (m + j)) k).1 + 1) else (blF (fun j => I 107 (m + j)) k).2) := rfl
    rw [e] at nx
    clear hQ e
    generalize blF (fun j => I 107 (m + j)) k = B at *
    obtain ⟨b1, b2⟩ := B
    have e9 : w32 (b1 + 1) = b1 + 1 := w32_eq (by omega) (by omega)
    by_cases h0 : 0 < k
    · have u6 : (m : Int) < ((m + k : Nat) : Int) := by omega
      have u7 : 0 ≤ ((m + (k - 1) : Nat) : Int) ∧ ((m + (k - 1) : Nat) : Int) < ((576 : Nat) : Int) := by omega
      have o3 : ((m + k : Nat) : Int) - 1 = ((m + (k - 1) : Nat) : Int) := by omega
      have o4 : m + (k - 1) ≤ 2000000000 := by omega
      have v1 := w32_c o1 o2
      have v2 := w32_c o3 o4
      have v4 := w32_c o6 o7
      refine s118_10.mpr ?_
      by_cases h1 : I 107 (m + (k - 1)) < I 107 (m + k)
      · rw [if_pos ⟨h0, h1⟩] at nx
        simp only [s118_11, s118_12, s118_13, s118_14, s118_15, s118_16, s118_17, s118_18, s118_19, s118_20, s118_21, s118_22, s118_23, s118_24, s118_25, s118_26, s118_27, s118_28, s118_29, s118_30, s118_31, s118_32, s118_33, s118_34, s118_35, s118_36, s118_37, s118_38, s118_39, s118_40, s118_41, s118_42, s118_43, s118_44, s118_45, s118_46, s118_47, s118_48, s118_49, s118_50, s118_51, Option.toList_some, Option.toList_none, List.cons_append, List.nil_append, Nat.le_refl, true_and, and_true, true_or, or_true, false_or, or_false, true_implies, false_implies, implies_true, not_true_eq_false, not_false_eq_true, eq_self, Nat.reduceLT, Nat.reduceLeDiff, Nat.reduceEqDiff, Nat.reduceAdd, Nat.reduceSub, Int.reduceLT, Int.reduceLE, Int.reduceEq, Int.reduceNeg, Int.reduceNe, Int.reduceAdd, Int.reduceSub, Int.reduceMul, Int.reduceToNat, Int.toNat_zero, Int.toNat_one, Int.toNat_natCast, am_cats, am_cat, am_st1, am_st2, am_clr, up2_na, up2_nj, up2_same, List.getElem?_cons_zero, List.getElem?_cons_succ, List.set_cons_zero, List.set_cons_succ, ne_eq, tk_106 hh, tk_107 hh, tk_108 hh, rk_106_0 hh, rk_106_1 hh, gk_108 hh h6, tg_109 hh h6, hn, u1, u2, u3, u4, u5, u6, u7, v1, v2, v4, h1, k211]
        exact nx _
      · rw [if_neg (fun z => h1 z.2)] at nx
        simp only [s118_11, s118_12, s118_13, s118_14, s118_15, s118_16, s118_17, s118_18, s118_19, s118_20, s118_21, s118_22, s118_23, s118_24, s118_25, s118_26, s118_27, s118_28, s118_29, s118_30, s118_31, s118_32, s118_33, s118_34, s118_35, s118_36, s118_37, s118_38, s118_39, s118_40, s118_41, s118_42, s118_43, s118_44, s118_45, s118_46, s118_47, s118_48, s118_49, s118_50, s118_51, Option.toList_some, Option.toList_none, List.cons_append, List.nil_append, Nat.le_refl, true_and, and_true, true_or, or_true, false_or, or_false, true_implies, false_implies, implies_true, not_true_eq_false, not_false_eq_true, eq_self, Nat.reduceLT, Nat.reduceLeDiff, Nat.reduceEqDiff, Nat.reduceAdd, Nat.reduceSub, Int.reduceLT, Int.reduceLE, Int.reduceEq, Int.reduceNeg, Int.reduceNe, Int.reduceAdd, Int.reduceSub, Int.reduceMul, Int.reduceToNat, Int.toNat_zero, Int.toNat_one, Int.toNat_natCast, am_cats, am_cat, am_st1, am_st2, am_clr, up2_na, up2_nj, up2_same, List.getElem?_cons_zero, List.getElem?_cons_succ, List.set_cons_zero, List.set_cons_succ, ne_eq, tk_106 hh, tk_107 hh, tk_108 hh, rk_106_0 hh, rk_106_1 hh, gk_108 hh h6, tg_109 hh h6, hn, u1, u2, u3, u4, u5, u6, u7, v1, v2, v4, h1, k211, e9]
        exact nx _
    · have u6 : ¬ (m : Int) < ((m + k : Nat) : Int) := by omega
      rw [if_neg (fun z => h0 z.1)] at nx
      have v1 := w32_c o1 o2
      have v4 := w32_c o6 o7
      refine s118_10.mpr ?_
      simp only [s118_11, s118_12, s118_13, s118_14, s118_15, s118_16, s118_17, s118_18, s118_19, s118_20, s118_21, s118_22, s118_23, s118_24, s118_25, s118_26, s118_27, s118_28, s118_29, s118_30, s118_31, s118_32, s118_33, s118_34, s118_35, s118_36, s118_37, s118_38, s118_39, s118_40, s118_41, s118_42, s118_43, s118_44, s118_45, s118_46, s118_47, s118_48, s118_49, s118_50, s118_51, Option.toList_some, Option.toList_none, List.cons_append, List.nil_append, Nat.le_refl, true_and, and_true, true_or, or_true, false_or, or_false, true_implies, false_implies, implies_true, not_true_eq_false, not_false_eq_true, eq_self, Nat.reduceLT, Nat.reduceLeDiff, Nat.reduceEqDiff, Nat.reduceAdd, Nat.reduceSub, Int.reduceLT, Int.reduceLE, Int.reduceEq, Int.reduceNeg, Int.reduceNe, Int.reduceAdd, Int.reduceSub, Int.reduceMul, Int.reduceToNat, Int.toNat_zero, Int.toNat_one, Int.toNat_natCast, am_cats, am_cat, am_st1, am_st2, am_clr, up2_na, up2_nj, up2_same, List.getElem?_cons_zero, List.getElem?_cons_succ, List.set_cons_zero, List.set_cons_succ, ne_eq, tk_106 hh, tk_108 hh, rk_106_1 hh, gk_108 hh h6, tg_109 hh h6, hn, u1, u2, u3, u4, u6, v1, v4, k211, e9]
      exact nx _
theorem k118 (hh : hp T R) {h t n : Nat} (h6 : h < 6) (t8 : t < 8) (hn : I (109 + h) t = n) (n12 : n ≤ 12) : wpc codeT mX (d + 1) 118 [.inr (.inr (some 106)), .inl (h : Int), .inl (t : Int)] (185, s, T, I, J, R) Q ↔ Q (some (.inl (blF (fun j => I 107 (12 * (8 * h + t) + j)) n).2)) (185, s, T, I, J, R) := wpc_det (by
  have := p118 (d := d) (s := s) (J := J) (I := I) (Q := fun v g => g = (185, s, T, I, J, R) ∧ v = some (.inl (blF (fun j => I 107 (12 * (8 * h + t) + j)) n).2)) hh h6 t8 hn n12 ⟨rfl, rfl⟩ n 0 (by omega) none
  simp only [s118_0, s118_1, s118_2, s118_3, s118_4, s118_5, s118_6, s118_7, s118_8, s118_9, e118, Option.toList_some, Option.toList_none, List.cons_append, List.nil_append, Nat.le_refl, true_and, and_true, true_or, or_true, false_or, or_false, true_implies, false_implies, implies_true, not_true_eq_false, not_false_eq_true, eq_self, Nat.reduceLT, Nat.reduceLeDiff, Nat.reduceEqDiff, Nat.reduceAdd, Nat.reduceSub, Int.reduceLT, Int.reduceLE, Int.reduceEq, Int.reduceNeg, Int.reduceNe, Int.reduceAdd, Int.reduceSub, Int.reduceMul, Int.reduceToNat, Int.toNat_zero, Int.toNat_one, Int.toNat_natCast, am_cats, am_cat, am_st1, am_st2, am_clr, up2_na, up2_nj, up2_same, List.getElem?_cons_zero, List.getElem?_cons_succ, List.set_cons_zero, List.set_cons_succ, ne_eq, k116 h6 t8]
  exact this)
theorem p203 (hh : hp T R) {w n : Nat} (w48 : w < 48) (hn : I 182 w = n) (n12 : n ≤ 12) (hQ : Q (some (.inl (blF (fun j => I 183 (12 * w + j)) n).2)) (185, s, T, I, J, R)) : ∀ (r k : Nat), k + r = n → wp codeT mX d 203 6 [some (.inr (.inr (some 152))), some (.inl (w : Int)), some (.inl (blF (fun j => I 183 (12 * w + j)) k).2), some (.inl (blF (fun j => I 183 (12 * w + j)) k).1), some (.inl (k : Int))] [] (185, s, T, I, J, R) Q := by
  have u1 : 0 ≤ (w : Int) ∧ (w : Int) < ((48 : Nat) : Int) := by omega
  have m48 : 12 * w ≤ 564 := by omega
  have o1 : 12 * (w : Int) = ((12 * w : Nat) : Int) := by omega
  have o2 : 12 * w ≤ 2000000000 := by omega
  generalize hm : 12 * w = m at *
  intro r
  induction r with
  | zero =>
    intro k hk
    have hk : k = n := by omega
    subst hk
    refine s203_6.mpr ?_
    simp only [s203_7, s203_8, s203_9, s203_10, s203_11, s203_48, s203_49, Option.toList_some, Option.toList_none, List.cons_append, List.nil_append, Nat.le_refl, true_and, and_true, true_or, or_true, false_or, or_false, true_implies, false_implies, implies_true, not_true_eq_false, not_false_eq_true, eq_self, Nat.reduceLT, Nat.reduceLeDiff, Nat.reduceEqDiff, Nat.reduceAdd, Nat.reduceSub, Int.reduceLT, Int.reduceLE, Int.reduceEq, Int.reduceNeg, Int.reduceNe, Int.reduceAdd, Int.reduceSub, Int.reduceMul, Int.reduceToNat, Int.toNat_zero, Int.toNat_one, Int.toNat_natCast, am_cats, am_cat, am_st1, am_st2, am_clr, up2_na, up2_nj, up2_same, List.getElem?_cons_zero, List.getElem?_cons_succ, List.set_cons_zero, List.set_cons_succ, ne_eq, tk_152 hh, tk_182 hh, rk_152_50 hh, hn, u1, Int.lt_irrefl]
    exact hQ
  | succ r ih =>
    intro k hk
    have nx := ih (k + 1) (by omega)
    have u4 : (k : Int) < (n : Int) := by omega
    have u5 : 0 ≤ ((m + k : Nat) : Int) ∧ ((m + k : Nat) : Int) < ((576 : Nat) : Int) := by omega
    have o5 : (m : Int) + (k : Int) = ((m + k : Nat) : Int) := by omega
    have o5' : m + k ≤ 2000000000 := by omega
    have o6 : (k : Int) + 1 = ((k + 1 : Nat) : Int) := by omega
    have o7 : k + 1 ≤ 2000000000 := by omega
    have b := blF_bd (fun j => I 183 (m + j)) k
    have e : blF (fun j => I 183 (m + j)) (k + 1) = (if 0 < k ∧ I 183 (m + (k - 1)) < I 183 (m + k) then 1 else (blF (fun j => I 183 (m + j)) k).1 + 1, if (blF (fun j => I 183 (m + j)) k).2 < (if 0 < k ∧ I 183 (m + (k - 1)) < I 183 (m + k) then 1 else (blF (fun j => I 183 (m + j)) k).1 + 1) then (if 0 < k ∧ I 183 (m + (k - 1)) < I 183 (m + k) then 1 else (blF (fun j => I 183 (m + j)) k).1 + 1) else (blF (fun j => I 183 (m + j)) k).2) := rfl
    rw [e] at nx
    clear hQ e
    generalize blF (fun j => I 183 (m + j)) k = B at *
    obtain ⟨b1, b2⟩ := B
    have e9 : w32 (b1 + 1) = b1 + 1 := w32_eq (by omega) (by omega)
    by_cases h0 : 0 < k
    · have u6 : 0 < (k : Int) := by omega
      have u7 : 0 ≤ ((m + (k - 1) : Nat) : Int) ∧ ((m + (k - 1) : Nat) : Int) < ((576 : Nat) : Int) := by omega
      have o3 : ((m + k : Nat) : Int) - 1 = ((m + (k - 1) : Nat) : Int) := by omega
      have o4 : m + (k - 1) ≤ 2000000000 := by omega
      have v1 := w32_c o1 o2
      have v5 := w32_c o5 o5'
      have v2 := w32_c o3 o4
      have v4 := w32_c o6 o7
      refine s203_6.mpr ?_
      by_cases h1 : I 183 (m + (k - 1)) < I 183 (m + k)
      · rw [if_pos ⟨h0, h1⟩] at nx
        by_cases h2 : b2 < 1
        · rw [if_pos h2] at nx
          simp only [s203_7, s203_8, s203_9, s203_10, s203_11, s203_12, s203_13, s203_14, s203_15, s203_16, s203_17, s203_18, s203_19, s203_20, s203_21, s203_22, s203_23, s203_24, s203_25, s203_26, s203_27, s203_28, s203_29, s203_30, s203_31, s203_32, s203_33, s203_34, s203_35, s203_36, s203_37, s203_38, s203_39, s203_40, s203_41, s203_42, s203_43, s203_44, s203_45, s203_46, s203_47, Option.toList_some, Option.toList_none, List.cons_append, List.nil_append, Nat.le_refl, true_and, and_true, true_or, or_true, false_or, or_false, true_implies, false_implies, implies_true, not_true_eq_false, not_false_eq_true, eq_self, Nat.reduceLT, Nat.reduceLeDiff, Nat.reduceEqDiff, Nat.reduceAdd, Nat.reduceSub, Int.reduceLT, Int.reduceLE, Int.reduceEq, Int.reduceNeg, Int.reduceNe, Int.reduceAdd, Int.reduceSub, Int.reduceMul, Int.reduceToNat, Int.toNat_zero, Int.toNat_one, Int.toNat_natCast, am_cats, am_cat, am_st1, am_st2, am_clr, up2_na, up2_nj, up2_same, List.getElem?_cons_zero, List.getElem?_cons_succ, List.set_cons_zero, List.set_cons_succ, ne_eq, tk_152 hh, tk_182 hh, tk_183 hh, rk_152_50 hh, rk_152_51 hh, hn, u1, u4, u5, u6, u7, v1, v2, v4, v5, h1, h2]
          exact nx
        · rw [if_neg h2] at nx
          simp only [s203_7, s203_8, s203_9, s203_10, s203_11, s203_12, s203_13, s203_14, s203_15, s203_16, s203_17, s203_18, s203_19, s203_20, s203_21, s203_22, s203_23, s203_24, s203_25, s203_26, s203_27, s203_28, s203_29, s203_30, s203_31, s203_32, s203_33, s203_34, s203_35, s203_36, s203_37, s203_38, s203_39, s203_40, s203_41, s203_42, s203_43, s203_44, s203_45, s203_46, s203_47, Option.toList_some, Option.toList_none, List.cons_append, List.nil_append, Nat.le_refl, true_and, and_true, true_or, or_true, false_or, or_false, true_implies, false_implies, implies_true, not_true_eq_false, not_false_eq_true, eq_self, Nat.reduceLT, Nat.reduceLeDiff, Nat.reduceEqDiff, Nat.reduceAdd, Nat.reduceSub, Int.reduceLT, Int.reduceLE, Int.reduceEq, Int.reduceNeg, Int.reduceNe, Int.reduceAdd, Int.reduceSub, Int.reduceMul, Int.reduceToNat, Int.toNat_zero, Int.toNat_one, Int.toNat_natCast, am_cats, am_cat, am_st1, am_st2, am_clr, up2_na, up2_nj, up2_same, List.getElem?_cons_zero, List.getElem?_cons_succ, List.set_cons_zero, List.set_cons_succ, ne_eq, tk_152 hh, tk_182 hh, tk_183 hh, rk_152_50 hh, rk_152_51 hh, hn, u1, u4, u5, u6, u7, v1, v2, v4, v5, h1, h2]
          exact nx
      · rw [if_neg (fun z => h1 z.2)] at nx
        by_cases h2 : b2 < b1 + 1
        · rw [if_pos h2] at nx
          simp only [s203_7, s203_8, s203_9, s203_10, s203_11, s203_12, s203_13, s203_14, s203_15, s203_16, s203_17, s203_18, s203_19, s203_20, s203_21, s203_22, s203_23, s203_24, s203_25, s203_26, s203_27, s203_28, s203_29, s203_30, s203_31, s203_32, s203_33, s203_34, s203_35, s203_36, s203_37, s203_38, s203_39, s203_40, s203_41, s203_42, s203_43, s203_44, s203_45, s203_46, s203_47, Option.toList_some, Option.toList_none, List.cons_append, List.nil_append, Nat.le_refl, true_and, and_true, true_or, or_true, false_or, or_false, true_implies, false_implies, implies_true, not_true_eq_false, not_false_eq_true, eq_self, Nat.reduceLT, Nat.reduceLeDiff, Nat.reduceEqDiff, Nat.reduceAdd, Nat.reduceSub, Int.reduceLT, Int.reduceLE, Int.reduceEq, Int.reduceNeg, Int.reduceNe, Int.reduceAdd, Int.reduceSub, Int.reduceMul, Int.reduceToNat, Int.toNat_zero, Int.toNat_one, Int.toNat_natCast, am_cats, am_cat, am_st1, am_st2, am_clr, up2_na, up2_nj, up2_same, List.getElem?_cons_zero, List.getElem?_cons_succ, List.set_cons_zero, List.set_cons_succ, ne_eq, tk_152 hh, tk_182 hh, tk_183 hh, rk_152_50 hh, rk_152_51 hh, hn, u1, u4, u5, u6, u7, v1, v2, v4, v5, h1, h2, e9]
          exact nx
        · rw [if_neg h2] at nx
          simp only [s203_7, s203_8, s203_9, s203_10, s203_11, s203_12, s203_13, s203_14, s203_15, s203_16, s203_17, s203_18, s203_19, s203_20, s203_21, s203_22, s203_23, s203_24, s203_25, s203_26, s203_27, s203_28, s203_29, s203_30, s203_31, s203_32, s203_33, s203_34, s203_35, s203_36, s203_37, s203_38, s203_39, s203_40, s203_41, s203_42, s203_43, s203_44, s203_45, s203_46, s203_47, Option.toList_some, Option.toList_none, List.cons_append, List.nil_append, Nat.le_refl, true_and, and_true, true_or, or_true, false_or, or_false, true_implies, false_implies, implies_true, not_true_eq_false, not_false_eq_true, eq_self, Nat.reduceLT, Nat.reduceLeDiff, Nat.reduceEqDiff, Nat.reduceAdd, Nat.reduceSub, Int.reduceLT, Int.reduceLE, Int.reduceEq, Int.reduceNeg, Int.reduceNe, Int.reduceAdd, Int.reduceSub, Int.reduceMul, Int.reduceToNat, Int.toNat_zero, Int.toNat_one, Int.toNat_natCast, am_cats, am_cat, am_st1, am_st2, am_clr, up2_na, up2_nj, up2_same, List.getElem?_cons_zero, List.getElem?_cons_succ, List.set_cons_zero, List.set_cons_succ, ne_eq, tk_152 hh, tk_182 hh, tk_183 hh, rk_152_50 hh, rk_152_51 hh, hn, u1, u4, u5, u6, u7, v1, v2, v4, v5, h1, h2, e9]
          exact nx
    · have u6 : ¬ 0 < (k : Int) := by omega
      rw [if_neg (fun z => h0 z.1)] at nx
      have v4 := w32_c o6 o7
      refine s203_6.mpr ?_
      by_cases h2 : b2 < b1 + 1
      · rw [if_pos h2] at nx
        simp only [s203_7, s203_8, s203_9, s203_10, s203_11, s203_12, s203_13, s203_14, s203_15, s203_16, s203_17, s203_18, s203_19, s203_20, s203_21, s203_22, s203_23, s203_24, s203_25, s203_26, s203_27, s203_28, s203_29, s203_30, s203_31, s203_32, s203_33, s203_34, s203_35, s203_36, s203_37, s203_38, s203_39, s203_40, s203_41, s203_42, s203_43, s203_44, s203_45, s203_46, s203_47, Option.toList_some, Option.toList_none, List.cons_append, List.nil_append, Nat.le_refl, true_and, and_true, true_or, or_true, false_or, or_false, true_implies, false_implies, implies_true, not_true_eq_false, not_false_eq_true, eq_self, Nat.reduceLT, Nat.reduceLeDiff, Nat.reduceEqDiff, Nat.reduceAdd, Nat.reduceSub, Int.reduceLT, Int.reduceLE, Int.reduceEq, Int.reduceNeg, Int.reduceNe, Int.reduceAdd, Int.reduceSub, Int.reduceMul, Int.reduceToNat, Int.toNat_zero, Int.toNat_one, Int.toNat_natCast, am_cats, am_cat, am_st1, am_st2, am_clr, up2_na, up2_nj, up2_same, List.getElem?_cons_zero, List.getElem?_cons_succ, List.set_cons_zero, List.set_cons_succ, ne_eq, tk_152 hh, tk_182 hh, rk_152_50 hh, hn, u1, u4, u6, v4, h2, e9]
        exact nx
      · rw [if_neg h2] at nx
        simp only [s203_7, s203_8, s203_9, s203_10, s203_11, s203_12, s203_13, s203_14, s203_15, s203_16, s203_17, s203_18, s203_19, s203_20, s203_21, s203_22, s203_23, s203_24, s203_25, s203_26, s203_27, s203_28, s203_29, s203_30, s203_31, s203_32, s203_33, s203_34, s203_35, s203_36, s203_37, s203_38, s203_39, s203_40, s203_41, s203_42, s203_43, s203_44, s203_45, s203_46, s203_47, Option.toList_some, Option.toList_none, List.cons_append, List.nil_append, Nat.le_refl, true_and, and_true, true_or, or_true, false_or, or_false, true_implies, false_implies, implies_true, not_true_eq_false, not_false_eq_true, eq_self, Nat.reduceLT, Nat.reduceLeDiff, Nat.reduceEqDiff, Nat.reduceAdd, Nat.reduceSub, Int.reduceLT, Int.reduceLE, Int.reduceEq, Int.reduceNeg, Int.reduceNe, Int.reduceAdd, Int.reduceSub, Int.reduceMul, Int.reduceToNat, Int.toNat_zero, Int.toNat_one, Int.toNat_natCast, am_cats, am_cat, am_st1, am_st2, am_clr, up2_na, up2_nj, up2_same, List.getElem?_cons_zero, List.getElem?_cons_succ, List.set_cons_zero, List.set_cons_succ, ne_eq, tk_152 hh, tk_182 hh, rk_152_50 hh, hn, u1, u4, u6, v4, h2, e9]
        exact nx
theorem k203 (hh : hp T R) {w n : Nat} (w48 : w < 48) (hn : I 182 w = n) (n12 : n ≤ 12) : wpc codeT mX d 203 [.inr (.inr (some 152)), .inl (w : Int)] (185, s, T, I, J, R) Q ↔ Q (some (.inl (blF (fun j => I 183 (12 * w + j)) n).2)) (185, s, T, I, J, R) := wpc_det (by
  have := p203 (d := d) (s := s) (J := J) (I := I) (Q := fun v g => g = (185, s, T, I, J, R) ∧ v = some (.inl (blF (fun j => I 183 (12 * w + j)) n).2)) hh w48 hn n12 ⟨rfl, rfl⟩ n 0 (by omega)
  simp only [s203_0, s203_1, s203_2, s203_3, s203_4, s203_5, e203, Option.toList_some, Option.toList_none, List.cons_append, List.nil_append, Nat.le_refl, true_and, and_true, true_or, or_true, false_or, or_false, true_implies, false_implies, implies_true, not_true_eq_false, not_false_eq_true, eq_self, Nat.reduceLT, Nat.reduceLeDiff, Nat.reduceEqDiff, Nat.reduceAdd, Nat.reduceSub, Int.reduceLT, Int.reduceLE, Int.reduceEq, Int.reduceNeg, Int.reduceNe, Int.reduceAdd, Int.reduceSub, Int.reduceMul, Int.reduceToNat, Int.toNat_zero, Int.toNat_one, Int.toNat_natCast, am_cats, am_cat, am_st1, am_st2, am_clr, up2_na, up2_nj, up2_same, List.getElem?_cons_zero, List.getElem?_cons_succ, List.set_cons_zero, List.set_cons_succ, ne_eq]
  exact this)
/-- as others, the class -/
def zX (I : Nat → Nat → Int) (t q : Nat) : Int := I (109 + q) t
def vX (I : Nat → Nat → Int) (t p q : Nat) : Int := I 107 (12 * (8 * q + t) + p)
def zM (I : Nat → Nat → Int) (t q : Nat) : Int := I 182 (8 * q + t)
def vMo (I : Nat → Nat → Int) (t p q : Nat) : Int := I 183 (12 * (8 * q + t) + p)
theorem p120 (hh : hp T R) {h t p n : Nat} (h6 : h < 6) (t8 : t < 8) (p12 : p < 12) (n6 : n ≤ 6) (hQ : Q (some (.inl (aoF (zX I t) (vX I t p) h p n (vX I t p h)))) (185, s, T, I, J, R)) : ∀ (r q : Nat), q + r = n → ∀ l8, wp codeT mX (d + 1) 120 6 [some (.inr (.inr (some 106))), some (.inl (p : Int)), some (.inl (h : Int)), some (.inl (t : Int)), some (.inl (n : Int)), some (.inl (abF (zX I t) (vX I t p) h p q).1), some (.inl (abF (zX I t) (vX I t p) h p q).2), some (.inl (q : Int)), l8] [] (185, s, T, I, J, R) Q := by
  have u2 : 0 ≤ (t : Int) ∧ (t : Int) < ((8 : Nat) : Int) := by omega
  intro r
  induction r with
  | zero =>
    intro q hq l8
    have hq : q = n := by omega
    subst hq
    have u5 : 0 ≤ ((12 * (8 * h + t) + p : Nat) : Int) ∧ ((12 * (8 * h + t) + p : Nat) : Int) < ((576 : Nat) : Int) := by omega
    have o3 : ((12 * (8 * h + t) : Nat) : Int) + (p : Int) = ((12 * (8 * h + t) + p : Nat) : Int) := by omega
    have o4 : 12 * (8 * h + t) + p ≤ 2000000000 := by omega
    have v1 := w32_c o3 o4
    unfold aoF at hQ
    have e : vX I t p h = I 107 (12 * (8 * h + t) + p) := rfl
    rw [e] at hQ
    clear e
    generalize abF (zX I t) (vX I t p) h p q = B at *
    obtain ⟨b1, b2⟩ := B
    have hQ : Q (some (.inl (if b1 ≤ I 107 (12 * (8 * h + t) + p) ∧ I 107 (12 * (8 * h + t) + p) ≤ b2 then 1 else 0))) (185, s, T, I, J, R) := hQ
    refine s120_6.mpr ?_
    simp only [s120_7, s120_8, s120_39, s120_40, s120_41, s120_42, s120_43, s120_44, s120_45, s120_46, s120_47, s120_48, s120_49, s120_50, s120_51, s120_52, s120_53, s120_54, s120_55, s120_56, s120_57, Option.toList_some, Option.toList_none, List.cons_append, List.nil_append, Nat.le_refl, true_and, and_true, true_or, or_true, false_or, or_false, true_implies, false_implies, implies_true, not_true_eq_false, not_false_eq_true, eq_self, Nat.reduceLT, Nat.reduceLeDiff, Nat.reduceEqDiff, Nat.reduceAdd, Nat.reduceSub, Int.reduceLT, Int.reduceLE, Int.reduceEq, Int.reduceNeg, Int.reduceNe, Int.reduceAdd, Int.reduceSub, Int.reduceMul, Int.reduceToNat, Int.toNat_zero, Int.toNat_one, Int.toNat_natCast, am_cats, am_cat, am_st1, am_st2, am_clr, up2_na, up2_nj, up2_same, List.getElem?_cons_zero, List.getElem?_cons_succ, List.set_cons_zero, List.set_cons_succ, ne_eq, tk_106 hh, tk_107 hh, rk_106_0 hh, k116 h6 t8, u5, v1, Int.lt_irrefl]
    refine ⟨fun z => ?_, fun z => ⟨fun z2 => ?_, fun z2 => ?_⟩⟩
    · rw [if_neg (by omega)] at hQ; exact hQ
    · rw [if_neg (by omega)] at hQ; exact hQ
    · rw [if_pos (by omega)] at hQ; exact hQ
  | succ r ih =>
    intro q hq l8
    have nx := ih (q + 1) (by omega)
    have q6 : q < 6 := by omega
    have u1 : 0 ≤ (q : Int) ∧ (q : Int) < ((6 : Nat) : Int) := by omega
    have u3 : 109 + q < 185 := by omega
    have u4 : (q : Int) < (n : Int) := by omega
    have u5 : 0 ≤ ((12 * (8 * q + t) + p : Nat) : Int) ∧ ((12 * (8 * q + t) + p : Nat) : Int) < ((576 : Nat) : Int) := by omega
    have o3 : ((12 * (8 * q + t) : Nat) : Int) + (p : Int) = ((12 * (8 * q + t) + p : Nat) : Int) := by omega
    have o4 : 12 * (8 * q + t) + p ≤ 2000000000 := by omega
    have o6 : (q : Int) + 1 = ((q + 1 : Nat) : Int) := by omega
    have o7 : q + 1 ≤ 2000000000 := by omega
    have e : abF (zX I t) (vX I t p) h p (q + 1) = if (q : Int) = (h : Int) ∨ ¬ (p : Int) < I (109 + q) t then abF (zX I t) (vX I t p) h p q else (if I 107 (12 * (8 * q + t) + p) < (abF (zX I t) (vX I t p) h p q).1 then I 107 (12 * (8 * q + t) + p) else (abF (zX I t) (vX I t p) h p q).1, if (abF (zX I t) (vX I t p) h p q).2 < I 107 (12 * (8 * q + t) + p) then I 107 (12 * (8 * q + t) + p) else (abF (zX I t) (vX I t p) h p q).2) := rfl
    rw [e] at nx
    clear hQ e
    generalize abF (zX I t) (vX I t p) h p q = B at *
    obtain ⟨b1, b2⟩ := B
    have v1 := w32_c o3 o4
    have v4 := w32_c o6 o7
    refine s120_6.mpr ?_
    by_cases h1 : (q : Int) = (h : Int)
    · rw [if_pos (Or.inl h1)] at nx
      have v4' := v4
      rw [h1] at v4'
      have u4' := u4
      rw [h1] at u4'
      rw [h1]
      simp only [s120_7, s120_8, s120_9, s120_10, s120_11, s120_12, s120_13, s120_14, s120_15, s120_16, s120_17, s120_18, s120_19, s120_20, s120_21, s120_22, s120_23, s120_24, s120_25, s120_26, s120_27, s120_28, s120_29, s120_30, s120_31, s120_32, s120_33, s120_34, s120_35, s120_36, s120_37, s120_38, Option.toList_some, Option.toList_none, List.cons_append, List.nil_append, Nat.le_refl, true_and, and_true, true_or, or_true, false_or, or_false, true_implies, false_implies, implies_true, not_true_eq_false, not_false_eq_true, eq_self, Nat.reduceLT, Nat.reduceLeDiff, Nat.reduceEqDiff, Nat.reduceAdd, Nat.reduceSub, Int.reduceLT, Int.reduceLE, Int.reduceEq, Int.reduceNeg, Int.reduceNe, Int.reduceAdd, Int.reduceSub, Int.reduceMul, Int.reduceToNat, Int.toNat_zero, Int.toNat_one, Int.toNat_natCast, am_cats, am_cat, am_st1, am_st2, am_clr, up2_na, up2_nj, up2_same, List.getElem?_cons_zero, List.getElem?_cons_succ, List.set_cons_zero, List.set_cons_succ, ne_eq, u4', v4']
      exact nx _
    · by_cases h2 : (p : Int) < I (109 + q) t
      · rw [if_neg (fun z => z.elim h1 (fun w => w h2))] at nx
        simp only [s120_7, s120_8, s120_9, s120_10, s120_11, s120_12, s120_13, s120_14, s120_15, s120_16, s120_17, s120_18, s120_19, s120_20, s120_21, s120_22, s120_23, s120_24, s120_25, s120_26, s120_27, s120_28, s120_29, s120_30, s120_31, s120_32, s120_33, s120_34, s120_35, s120_36, s120_37, s120_38, Option.toList_some, Option.toList_none, List.cons_append, List.nil_append, Nat.le_refl, true_and, and_true, true_or, or_true, false_or, or_false, true_implies, false_implies, implies_true, not_true_eq_false, not_false_eq_true, eq_self, Nat.reduceLT, Nat.reduceLeDiff, Nat.reduceEqDiff, Nat.reduceAdd, Nat.reduceSub, Int.reduceLT, Int.reduceLE, Int.reduceEq, Int.reduceNeg, Int.reduceNe, Int.reduceAdd, Int.reduceSub, Int.reduceMul, Int.reduceToNat, Int.toNat_zero, Int.toNat_one, Int.toNat_natCast, am_cats, am_cat, am_st1, am_st2, am_clr, up2_na, up2_nj, up2_same, List.getElem?_cons_zero, List.getElem?_cons_succ, List.set_cons_zero, List.set_cons_succ, ne_eq, tk_106 hh, tk_107 hh, tk_108 hh, rk_106_0 hh, rk_106_1 hh, gk_108 hh q6, tg_109 hh q6, k116 q6 t8, k211, k212, u1, u2, u3, u4, u5, v1, v4, h1, h2]
        exact nx _
      · rw [if_pos (Or.inr h2)] at nx
        simp only [s120_7, s120_8, s120_9, s120_10, s120_11, s120_12, s120_13, s120_14, s120_15, s120_16, s120_17, s120_18, s120_19, s120_20, s120_21, s120_22, s120_23, s120_24, s120_25, s120_26, s120_27, s120_28, s120_29, s120_30, s120_31, s120_32, s120_33, s120_34, s120_35, s120_36, s120_37, s120_38, Option.toList_some, Option.toList_none, List.cons_append, List.nil_append, Nat.le_refl, true_and, and_true, true_or, or_true, false_or, or_false, true_implies, false_implies, implies_true, not_true_eq_false, not_false_eq_true, eq_self, Nat.reduceLT, Nat.reduceLeDiff, Nat.reduceEqDiff, Nat.reduceAdd, Nat.reduceSub, Int.reduceLT, Int.reduceLE, Int.reduceEq, Int.reduceNeg, Int.reduceNe, Int.reduceAdd, Int.reduceSub, Int.reduceMul, Int.reduceToNat, Int.toNat_zero, Int.toNat_one, Int.toNat_natCast, am_cats, am_cat, am_st1, am_st2, am_clr, up2_na, up2_nj, up2_same, List.getElem?_cons_zero, List.getElem?_cons_succ, List.set_cons_zero, List.set_cons_succ, ne_eq, tk_106 hh, tk_108 hh, rk_106_1 hh, gk_108 hh q6, tg_109 hh q6, u1, u2, u3, u4, v4, h1, h2]
        exact nx _
theorem k120 (hh : hp T R) {h t p n : Nat} (h6 : h < 6) (t8 : t < 8) (p12 : p < 12) (n6 : n ≤ 6) : wpc codeT mX (d + 1) 120 [.inr (.inr (some 106)), .inl (p : Int), .inl (h : Int), .inl (t : Int), .inl (n : Int)] (185, s, T, I, J, R) Q ↔ Q (some (.inl (aoF (zX I t) (vX I t p) h p n (vX I t p h)))) (185, s, T, I, J, R) := wpc_det (by
  have := p120 (d := d) (s := s) (J := J) (I := I) (Q := fun v g => g = (185, s, T, I, J, R) ∧ v = some (.inl (aoF (zX I t) (vX I t p) h p n (vX I t p h)))) hh h6 t8 p12 n6 ⟨rfl, rfl⟩ n 0 (by omega) none
  simp only [s120_0, s120_1, s120_2, s120_3, s120_4, s120_5, e120, Option.toList_some, Option.toList_none, List.cons_append, List.nil_append, Nat.le_refl, true_and, and_true, true_or, or_true, false_or, or_false, true_implies, false_implies, implies_true, not_true_eq_false, not_false_eq_true, eq_self, Nat.reduceLT, Nat.reduceLeDiff, Nat.reduceEqDiff, Nat.reduceAdd, Nat.reduceSub, Int.reduceLT, Int.reduceLE, Int.reduceEq, Int.reduceNeg, Int.reduceNe, Int.reduceAdd, Int.reduceSub, Int.reduceMul, Int.reduceToNat, Int.toNat_zero, Int.toNat_one, Int.toNat_natCast, am_cats, am_cat, am_st1, am_st2, am_clr, up2_na, up2_nj, up2_same, List.getElem?_cons_zero, List.getElem?_cons_succ, List.set_cons_zero, List.set_cons_succ, ne_eq]
  exact this)
theorem p119 (hh : hp T R) {h t n z : Nat} (h6 : h < 6) (t8 : t < 8) (n6 : n ≤ 6) (hz : I (109 + h) t = z) (z12 : z ≤ 12) (hQ : Q (some (.inl (swf (fun p => aoF (zX I t) (vX I t p) h p n (vX I t p h)) z))) (185, s, T, I, J, R)) : ∀ (r p : Nat), p + r = z → wp codeT mX (d + 2) 119 4 [some (.inr (.inr (some 106))), some (.inl (h : Int)), some (.inl (t : Int)), some (.inl (n : Int)), some (.inl (swf (fun p => aoF (zX I t) (vX I t p) h p n (vX I t p h)) p)), some (.inl (p : Int))] [] (185, s, T, I, J, R) Q := by
  have u1 : 0 ≤ (h : Int) ∧ (h : Int) < ((6 : Nat) : Int) := by omega
  have u2 : 0 ≤ (t : Int) ∧ (t : Int) < ((8 : Nat) : Int) := by omega
  have u3 : 109 + h < 185 := by omega
  intro r
  induction r with
  | zero =>
    intro p hp
    have hp : p = z := by omega
    subst hp
    refine s119_4.mpr ?_
    simp only [s119_5, s119_6, s119_7, s119_8, s119_9, s119_10, s119_11, s119_27, s119_28, Option.toList_some, Option.toList_none, List.cons_append, List.nil_append, Nat.le_refl, true_and, and_true, true_or, or_true, false_or, or_false, true_implies, false_implies, implies_true, not_true_eq_false, not_false_eq_true, eq_self, Nat.reduceLT, Nat.reduceLeDiff, Nat.reduceEqDiff, Nat.reduceAdd, Nat.reduceSub, Int.reduceLT, Int.reduceLE, Int.reduceEq, Int.reduceNeg, Int.reduceNe, Int.reduceAdd, Int.reduceSub, Int.reduceMul, Int.reduceToNat, Int.toNat_zero, Int.toNat_one, Int.toNat_natCast, am_cats, am_cat, am_st1, am_st2, am_clr, up2_na, up2_nj, up2_same, List.getElem?_cons_zero, List.getElem?_cons_succ, List.set_cons_zero, List.set_cons_succ, ne_eq, tk_106 hh, tk_108 hh, rk_106_1 hh, gk_108 hh h6, tg_109 hh h6, hz, u1, u2, u3, Int.lt_irrefl]
    exact hQ
  | succ r ih =>
    intro p hp
    have nx := ih (p + 1) (by omega)
    have p12 : p < 12 := by omega
    have u4 : (p : Int) < (z : Int) := by omega
    have o6 : (p : Int) + 1 = ((p + 1 : Nat) : Int) := by omega
    have o7 : p + 1 ≤ 2000000000 := by omega
    have b := swf_bd (f := fun p => aoF (zX I t) (vX I t p) h p n (vX I t p h)) (fun _ => aoF_01 _ _ _ _ _ _) p
    have e : swf (fun p => aoF (zX I t) (vX I t p) h p n (vX I t p h)) (p + 1) = swf (fun p => aoF (zX I t) (vX I t p) h p n (vX I t p h)) p + aoF (zX I t) (vX I t p) h p n (vX I t p h) := rfl
    rw [e] at nx
    clear hQ e
    generalize swf (fun p => aoF (zX I t) (vX I t p) h p n (vX I t p h)) p = a at *
    refine s119_4.mpr ?_
    rcases aoF_01 (zX I t) (vX I t p) h p n (vX I t p h) with hw | hw
    · rw [hw, Int.add_zero] at nx
      have e2 : w32 (a + 0) = a := (w32_eq (by omega) (by omega)).trans (by omega)
      have v4 := w32_c o6 o7
      simp only [s119_5, s119_6, s119_7, s119_8, s119_9, s119_10, s119_11, s119_12, s119_13, s119_14, s119_15, s119_16, s119_17, s119_18, s119_19, s119_20, s119_21, s119_22, s119_23, s119_24, s119_25, s119_26, Option.toList_some, Option.toList_none, List.cons_append, List.nil_append, Nat.le_refl, true_and, and_true, true_or, or_true, false_or, or_false, true_implies, false_implies, implies_true, not_true_eq_false, not_false_eq_true, eq_self, Nat.reduceLT, Nat.reduceLeDiff, Nat.reduceEqDiff, Nat.reduceAdd, Nat.reduceSub, Int.reduceLT, Int.reduceLE, Int.reduceEq, Int.reduceNeg, Int.reduceNe, Int.reduceAdd, Int.reduceSub, Int.reduceMul, Int.reduceToNat, Int.toNat_zero, Int.toNat_one, Int.toNat_natCast, am_cats, am_cat, am_st1, am_st2, am_clr, up2_na, up2_nj, up2_same, List.getElem?_cons_zero, List.getElem?_cons_succ, List.set_cons_zero, List.set_cons_succ, ne_eq, tk_106 hh, tk_108 hh, rk_106_1 hh, gk_108 hh h6, tg_109 hh h6, k120 hh h6 t8 p12 n6, hz, u1, u2, u3, u4, v4, hw, e2]
      exact nx
    · rw [hw] at nx
      have e2 : w32 (a + 1) = a + 1 := w32_eq (by omega) (by omega)
      have v4 := w32_c o6 o7
      simp only [s119_5, s119_6, s119_7, s119_8, s119_9, s119_10, s119_11, s119_12, s119_13, s119_14, s119_15, s119_16, s119_17, s119_18, s119_19, s119_20, s119_21, s119_22, s119_23, s119_24, s119_25, s119_26, Option.toList_some, Option.toList_none, List.cons_append, List.nil_append, Nat.le_refl, true_and, and_true, true_or, or_true, false_or, or_false, true_implies, false_implies, implies_true, not_true_eq_false, not_false_eq_true, eq_self, Nat.reduceLT, Nat.reduceLeDiff, Nat.reduceEqDiff, Nat.reduceAdd, Nat.reduceSub, Int.reduceLT, Int.reduceLE, Int.reduceEq, Int.reduceNeg, Int.reduceNe, Int.reduceAdd, Int.reduceSub, Int.reduceMul, Int.reduceToNat, Int.toNat_zero, Int.toNat_one, Int.toNat_natCast, am_cats, am_cat, am_st1, am_st2, am_clr, up2_na, up2_nj, up2_same, List.getElem?_cons_zero, List.getElem?_cons_succ, List.set_cons_zero, List.set_cons_succ, ne_eq, tk_106 hh, tk_108 hh, rk_106_1 hh, gk_108 hh h6, tg_109 hh h6, k120 hh h6 t8 p12 n6, hz, u1, u2, u3, u4, v4, hw, e2]
      exact nx
theorem k119 (hh : hp T R) {h t n z : Nat} (h6 : h < 6) (t8 : t < 8) (n6 : n ≤ 6) (hz : I (109 + h) t = z) (z12 : z ≤ 12) : wpc codeT mX (d + 2) 119 [.inr (.inr (some 106)), .inl (h : Int), .inl (t : Int), .inl (n : Int)] (185, s, T, I, J, R) Q ↔ Q (some (.inl (swf (fun p => aoF (zX I t) (vX I t p) h p n (vX I t p h)) z))) (185, s, T, I, J, R) := wpc_det (by
  have := p119 (d := d) (s := s) (J := J) (I := I) (Q := fun v g => g = (185, s, T, I, J, R) ∧ v = some (.inl (swf (fun p => aoF (zX I t) (vX I t p) h p n (vX I t p h)) z))) hh h6 t8 n6 hz z12 ⟨rfl, rfl⟩ z 0 (by omega)
  simp only [s119_0, s119_1, s119_2, s119_3, e119, Option.toList_some, Option.toList_none, List.cons_append, List.nil_append, Nat.le_refl, true_and, and_true, true_or, or_true, false_or, or_false, true_implies, false_implies, implies_true, not_true_eq_false, not_false_eq_true, eq_self, Nat.reduceLT, Nat.reduceLeDiff, Nat.reduceEqDiff, Nat.reduceAdd, Nat.reduceSub, Int.reduceLT, Int.reduceLE, Int.reduceEq, Int.reduceNeg, Int.reduceNe, Int.reduceAdd, Int.reduceSub, Int.reduceMul, Int.reduceToNat, Int.toNat_zero, Int.toNat_one, Int.toNat_natCast, am_cats, am_cat, am_st1, am_st2, am_clr, up2_na, up2_nj, up2_same, List.getElem?_cons_zero, List.getElem?_cons_succ, List.set_cons_zero, List.set_cons_succ, ne_eq]
  exact this)
/-- as others, the reference -/
theorem p204 (hh : hp T R) {h t p n : Nat} (h6 : h < 6) (t8 : t < 8) (p12 : p < 12) (n6 : n ≤ 6) (hn : I 152 2 = n) (hQ : Q (some (.inl (aoF (zM I t) (vMo I t p) h p n (vMo I t p h)))) (185, s, T, I, J, R)) : ∀ (r q : Nat), q + r = n → ∀ l7, wp codeT mX (d + 1) 204 6 [some (.inr (.inr (some 152))), some (.inl (h : Int)), some (.inl (t : Int)), some (.inl (p : Int)), some (.inl (abF (zM I t) (vMo I t p) h p q).1), some (.inl (abF (zM I t) (vMo I t p) h p q).2), some (.inl (q : Int)), l7] [] (185, s, T, I, J, R) Q := by
  intro r
  induction r with
  | zero =>
    intro q hq l7
    have hq : q = n := by omega
    subst hq
    have u5 : 0 ≤ ((12 * (8 * h + t) + p : Nat) : Int) ∧ ((12 * (8 * h + t) + p : Nat) : Int) < ((576 : Nat) : Int) := by omega
    have o1 : 8 * (h : Int) = ((8 * h : Nat) : Int) := by omega
    have o1b : 8 * h ≤ 2000000000 := by omega
    have o2 : ((8 * h : Nat) : Int) + (t : Int) = ((8 * h + t : Nat) : Int) := by omega
    have o2b : 8 * h + t ≤ 2000000000 := by omega
    have o3 : 12 * ((8 * h + t : Nat) : Int) = ((12 * (8 * h + t) : Nat) : Int) := by omega
    have o3b : 12 * (8 * h + t) ≤ 2000000000 := by omega
    have o4 : ((12 * (8 * h + t) : Nat) : Int) + (p : Int) = ((12 * (8 * h + t) + p : Nat) : Int) := by omega
    have o4b : 12 * (8 * h + t) + p ≤ 2000000000 := by omega
    have v1 := w32_c o1 o1b
    have v2 := w32_c o2 o2b
    have v3 := w32_c o3 o3b
    have v4 := w32_c o4 o4b
    have hQ : Q (some (.inl (if (abF (zM I t) (vMo I t p) h p q).1 ≤ I 183 (12 * (8 * h + t) + p) ∧ I 183 (12 * (8 * h + t) + p) ≤ (abF (zM I t) (vMo I t p) h p q).2 then 1 else 0))) (185, s, T, I, J, R) := hQ
    refine s204_6.mpr ?_
    simp only [s204_7, s204_8, s204_9, s204_53, s204_54, s204_55, s204_56, s204_57, s204_58, s204_59, s204_60, s204_61, s204_62, s204_63, s204_64, s204_65, s204_66, s204_67, s204_68, Option.toList_some, Option.toList_none, List.cons_append, List.nil_append, Nat.le_refl, true_and, and_true, true_or, or_true, false_or, or_false, true_implies, false_implies, implies_true, not_true_eq_false, not_false_eq_true, eq_self, Nat.reduceLT, Nat.reduceLeDiff, Nat.reduceEqDiff, Nat.reduceAdd, Nat.reduceSub, Int.reduceLT, Int.reduceLE, Int.reduceEq, Int.reduceNeg, Int.reduceNe, Int.reduceAdd, Int.reduceSub, Int.reduceMul, Int.reduceToNat, Int.toNat_zero, Int.toNat_one, Int.toNat_natCast, am_cats, am_cat, am_st1, am_st2, am_clr, up2_na, up2_nj, up2_same, List.getElem?_cons_zero, List.getElem?_cons_succ, List.set_cons_zero, List.set_cons_succ, ne_eq, tk_152 hh, tk_183 hh, rk_152_51 hh, k136, i01, hn, u5, v1, v2, v3, v4, Int.lt_irrefl]
    exact hQ
  | succ r ih =>
    intro q hq l7
    have nx := ih (q + 1) (by omega)
    have q6 : q < 6 := by omega
    have u4 : (q : Int) < (n : Int) := by omega
    have u5 : 0 ≤ ((12 * (8 * q + t) + p : Nat) : Int) ∧ ((12 * (8 * q + t) + p : Nat) : Int) < ((576 : Nat) : Int) := by omega
    have u6 : 0 ≤ ((8 * q + t : Nat) : Int) ∧ ((8 * q + t : Nat) : Int) < ((48 : Nat) : Int) := by omega
    have o1 : 8 * (q : Int) = ((8 * q : Nat) : Int) := by omega
    have o1b : 8 * q ≤ 2000000000 := by omega
    have o2 : ((8 * q : Nat) : Int) + (t : Int) = ((8 * q + t : Nat) : Int) := by omega
    have o2b : 8 * q + t ≤ 2000000000 := by omega
    have o3 : 12 * ((8 * q + t : Nat) : Int) = ((12 * (8 * q + t) : Nat) : Int) := by omega
    have o3b : 12 * (8 * q + t) ≤ 2000000000 := by omega
    have o4 : ((12 * (8 * q + t) : Nat) : Int) + (p : Int) = ((12 * (8 * q + t) + p : Nat) : Int) := by omega
    have o4b : 12 * (8 * q + t) + p ≤ 2000000000 := by omega
    have o6 : (q : Int) + 1 = ((q + 1 : Nat) : Int) := by omega
    have o7 : q + 1 ≤ 2000000000 := by omega
    have e : abF (zM I t) (vMo I t p) h p (q + 1) = if (q : Int) = (h : Int) ∨ ¬ (p : Int) < I 182 (8 * q + t) then abF (zM I t) (vMo I t p) h p q else (if I 183 (12 * (8 * q + t) + p) < (abF (zM I t) (vMo I t p) h p q).1 then I 183 (12 * (8 * q + t) + p) else (abF (zM I t) (vMo I t p) h p q).1, if (abF (zM I t) (vMo I t p) h p q).2 < I 183 (12 * (8 * q + t) + p) then I 183 (12 * (8 * q + t) + p) else (abF (zM I t) (vMo I t p) h p q).2) := rfl
    rw [e] at nx
    clear hQ e
    generalize abF (zM I t) (vMo I t p) h p q = B at *
    obtain ⟨b1, b2⟩ := B
    have v1 := w32_c o1 o1b
    have v2 := w32_c o2 o2b
    have v3 := w32_c o3 o3b
    have v4 := w32_c o4 o4b
    have v5 := w32_c o6 o7
    refine s204_6.mpr ?_
    by_cases h1 : (q : Int) = (h : Int)
    · rw [if_pos (Or.inl h1)] at nx
      have v5' := v5
      rw [h1] at v5'
      have u4' := u4
      rw [h1] at u4'
      rw [h1]
      simp only [s204_7, s204_8, s204_9, s204_10, s204_11, s204_12, s204_51, s204_52, Option.toList_some, Option.toList_none, List.cons_append, List.nil_append, Nat.le_refl, true_and, and_true, true_or, or_true, false_or, or_false, true_implies, false_implies, implies_true, not_true_eq_false, not_false_eq_true, eq_self, Nat.reduceLT, Nat.reduceLeDiff, Nat.reduceEqDiff, Nat.reduceAdd, Nat.reduceSub, Int.reduceLT, Int.reduceLE, Int.reduceEq, Int.reduceNeg, Int.reduceNe, Int.reduceAdd, Int.reduceSub, Int.reduceMul, Int.reduceToNat, Int.toNat_zero, Int.toNat_one, Int.toNat_natCast, am_cats, am_cat, am_st1, am_st2, am_clr, up2_na, up2_nj, up2_same, List.getElem?_cons_zero, List.getElem?_cons_succ, List.set_cons_zero, List.set_cons_succ, ne_eq, tk_152 hh, hn, u4', v5']
      exact nx _
    · by_cases h2 : (p : Int) < I 182 (8 * q + t)
      · rw [if_neg (fun z => z.elim h1 (fun w => w h2))] at nx
        by_cases h3 : I 183 (12 * (8 * q + t) + p) < b1
        · by_cases h4 : b2 < I 183 (12 * (8 * q + t) + p)
          · rw [if_pos h3, if_pos h4] at nx
            simp only [s204_7, s204_8, s204_9, s204_10, s204_11, s204_12, s204_13, s204_14, s204_15, s204_16, s204_17, s204_18, s204_19, s204_20, s204_21, s204_22, s204_23, s204_24, s204_25, s204_26, s204_27, s204_28, s204_29, s204_30, s204_31, s204_32, s204_33, s204_34, s204_35, s204_36, s204_37, s204_38, s204_39, s204_40, s204_41, s204_42, s204_43, s204_44, s204_45, s204_46, s204_47, s204_48, s204_49, s204_50, s204_51, s204_52, Option.toList_some, Option.toList_none, List.cons_append, List.nil_append, Nat.le_refl, true_and, and_true, true_or, or_true, false_or, or_false, true_implies, false_implies, implies_true, not_true_eq_false, not_false_eq_true, eq_self, Nat.reduceLT, Nat.reduceLeDiff, Nat.reduceEqDiff, Nat.reduceAdd, Nat.reduceSub, Int.reduceLT, Int.reduceLE, Int.reduceEq, Int.reduceNeg, Int.reduceNe, Int.reduceAdd, Int.reduceSub, Int.reduceMul, Int.reduceToNat, Int.toNat_zero, Int.toNat_one, Int.toNat_natCast, am_cats, am_cat, am_st1, am_st2, am_clr, up2_na, up2_nj, up2_same, List.getElem?_cons_zero, List.getElem?_cons_succ, List.set_cons_zero, List.set_cons_succ, ne_eq, tk_152 hh, tk_182 hh, tk_183 hh, rk_152_50 hh, rk_152_51 hh, hn, u4, u5, u6, v1, v2, v3, v4, v5, h1, h2, h3, h4]
            exact nx _
          · rw [if_pos h3, if_neg h4] at nx
            simp only [s204_7, s204_8, s204_9, s204_10, s204_11, s204_12, s204_13, s204_14, s204_15, s204_16, s204_17, s204_18, s204_19, s204_20, s204_21, s204_22, s204_23, s204_24, s204_25, s204_26, s204_27, s204_28, s204_29, s204_30, s204_31, s204_32, s204_33, s204_34, s204_35, s204_36, s204_37, s204_38, s204_39, s204_40, s204_41, s204_42, s204_43, s204_44, s204_45, s204_46, s204_47, s204_48, s204_49, s204_50, s204_51, s204_52, Option.toList_some, Option.toList_none, List.cons_append, List.nil_append, Nat.le_refl, true_and, and_true, true_or, or_true, false_or, or_false, true_implies, false_implies, implies_true, not_true_eq_false, not_false_eq_true, eq_self, Nat.reduceLT, Nat.reduceLeDiff, Nat.reduceEqDiff, Nat.reduceAdd, Nat.reduceSub, Int.reduceLT, Int.reduceLE, Int.reduceEq, Int.reduceNeg, Int.reduceNe, Int.reduceAdd, Int.reduceSub, Int.reduceMul, Int.reduceToNat, Int.toNat_zero, Int.toNat_one, Int.toNat_natCast, am_cats, am_cat, am_st1, am_st2, am_clr, up2_na, up2_nj, up2_same, List.getElem?_cons_zero, List.getElem?_cons_succ, List.set_cons_zero, List.set_cons_succ, ne_eq, tk_152 hh, tk_182 hh, tk_183 hh, rk_152_50 hh, rk_152_51 hh, hn, u4, u5, u6, v1, v2, v3, v4, v5, h1, h2, h3, h4]
            exact nx _
        · by_cases h4 : b2 < I 183 (12 * (8 * q + t) + p)
          · rw [if_neg h3, if_pos h4] at nx
            simp only [s204_7, s204_8, s204_9, s204_10, s204_11, s204_12, s204_13, s204_14, s204_15, s204_16, s204_17, s204_18, s204_19, s204_20, s204_21, s204_22, s204_23, s204_24, s204_25, s204_26, s204_27, s204_28, s204_29, s204_30, s204_31, s204_32, s204_33, s204_34, s204_35, s204_36, s204_37, s204_38, s204_39, s204_40, s204_41, s204_42, s204_43, s204_44, s204_45, s204_46, s204_47, s204_48, s204_49, s204_50, s204_51, s204_52, Option.toList_some, Option.toList_none, List.cons_append, List.nil_append, Nat.le_refl, true_and, and_true, true_or, or_true, false_or, or_false, true_implies, false_implies, implies_true, not_true_eq_false, not_false_eq_true, eq_self, Nat.reduceLT, Nat.reduceLeDiff, Nat.reduceEqDiff, Nat.reduceAdd, Nat.reduceSub, Int.reduceLT, Int.reduceLE, Int.reduceEq, Int.reduceNeg, Int.reduceNe, Int.reduceAdd, Int.reduceSub, Int.reduceMul, Int.reduceToNat, Int.toNat_zero, Int.toNat_one, Int.toNat_natCast, am_cats, am_cat, am_st1, am_st2, am_clr, up2_na, up2_nj, up2_same, List.getElem?_cons_zero, List.getElem?_cons_succ, List.set_cons_zero, List.set_cons_succ, ne_eq, tk_152 hh, tk_182 hh, tk_183 hh, rk_152_50 hh, rk_152_51 hh, hn, u4, u5, u6, v1, v2, v3, v4, v5, h1, h2, h3, h4]
            exact nx _
          · rw [if_neg h3, if_neg h4] at nx
            simp only [s204_7, s204_8, s204_9, s204_10, s204_11, s204_12, s204_13, s204_14, s204_15, s204_16, s204_17, s204_18, s204_19, s204_20, s204_21, s204_22, s204_23, s204_24, s204_25, s204_26, s204_27, s204_28, s204_29, s204_30, s204_31, s204_32, s204_33, s204_34, s204_35, s204_36, s204_37, s204_38, s204_39, s204_40, s204_41, s204_42, s204_43, s204_44, s204_45, s204_46, s204_47, s204_48, s204_49, s204_50, s204_51, s204_52, Option.toList_some, Option.toList_none, List.cons_append, List.nil_append, Nat.le_refl, true_and, and_true, true_or, or_true, false_or, or_false, true_implies, false_implies, implies_true, not_true_eq_false, not_false_eq_true, eq_self, Nat.reduceLT, Nat.reduceLeDiff, Nat.reduceEqDiff, Nat.reduceAdd, Nat.reduceSub, Int.reduceLT, Int.reduceLE, Int.reduceEq, Int.reduceNeg, Int.reduceNe, Int.reduceAdd, Int.reduceSub, Int.reduceMul, Int.reduceToNat, Int.toNat_zero, Int.toNat_one, Int.toNat_natCast, am_cats, am_cat, am_st1, am_st2, am_clr, up2_na, up2_nj, up2_same, List.getElem?_cons_zero, List.getElem?_cons_succ, List.set_cons_zero, List.set_cons_succ, ne_eq, tk_152 hh, tk_182 hh, tk_183 hh, rk_152_50 hh, rk_152_51 hh, hn, u4, u5, u6, v1, v2, v3, v4, v5, h1, h2, h3, h4]
            exact nx _
      · rw [if_pos (Or.inr h2)] at nx
        simp only [s204_7, s204_8, s204_9, s204_10, s204_11, s204_12, s204_13, s204_14, s204_15, s204_16, s204_17, s204_18, s204_19, s204_20, s204_21, s204_22, s204_23, s204_51, s204_52, Option.toList_some, Option.toList_none, List.cons_append, List.nil_append, Nat.le_refl, true_and, and_true, true_or, or_true, false_or, or_false, true_implies, false_implies, implies_true, not_true_eq_false, not_false_eq_true, eq_self, Nat.reduceLT, Nat.reduceLeDiff, Nat.reduceEqDiff, Nat.reduceAdd, Nat.reduceSub, Int.reduceLT, Int.reduceLE, Int.reduceEq, Int.reduceNeg, Int.reduceNe, Int.reduceAdd, Int.reduceSub, Int.reduceMul, Int.reduceToNat, Int.toNat_zero, Int.toNat_one, Int.toNat_natCast, am_cats, am_cat, am_st1, am_st2, am_clr, up2_na, up2_nj, up2_same, List.getElem?_cons_zero, List.getElem?_cons_succ, List.set_cons_zero, List.set_cons_succ, ne_eq, tk_152 hh, tk_182 hh, rk_152_50 hh, hn, u4, u6, v1, v2, v5, h1, h2]
        exact nx _
theorem k204 (hh : hp T R) {h t p n : Nat} (h6 : h < 6) (t8 : t < 8) (p12 : p < 12) (n6 : n ≤ 6) (hn : I 152 2 = n) : wpc codeT mX (d + 1) 204 [.inr (.inr (some 152)), .inl (h : Int), .inl (t : Int), .inl (p : Int)] (185, s, T, I, J, R) Q ↔ Q (some (.inl (aoF (zM I t) (vMo I t p) h p n (vMo I t p h)))) (185, s, T, I, J, R) := wpc_det (by
  have := p204 (d := d) (s := s) (J := J) (I := I) (Q := fun v g => g = (185, s, T, I, J, R) ∧ v = some (.inl (aoF (zM I t) (vMo I t p) h p n (vMo I t p h)))) hh h6 t8 p12 n6 hn ⟨rfl, rfl⟩ n 0 (by omega) none
  simp only [s204_0, s204_1, s204_2, s204_3, s204_4, s204_5, e204, Option.toList_some, Option.toList_none, List.cons_append, List.nil_append, Nat.le_refl, true_and, and_true, true_or, or_true, false_or, or_false, true_implies, false_implies, implies_true, not_true_eq_false, not_false_eq_true, eq_self, Nat.reduceLT, Nat.reduceLeDiff, Nat.reduceEqDiff, Nat.reduceAdd, Nat.reduceSub, Int.reduceLT, Int.reduceLE, Int.reduceEq, Int.reduceNeg, Int.reduceNe, Int.reduceAdd, Int.reduceSub, Int.reduceMul, Int.reduceToNat, Int.toNat_zero, Int.toNat_one, Int.toNat_natCast, am_cats, am_cat, am_st1, am_st2, am_clr, up2_na, up2_nj, up2_same, List.getElem?_cons_zero, List.getElem?_cons_succ, List.set_cons_zero, List.set_cons_succ, ne_eq]
  exact this)
theorem p202 (hh : hp T R) {h t n z : Nat} {w : Int} (h6 : h < 6) (t8 : t < 8) (n6 : n ≤ 6) (hn : I 152 2 = n) (hz : I 182 (8 * h + t) = z) (z12 : z ≤ 12) (hQ : Q (some (.inl (swf (fun p => aoF (zM I t) (vMo I t p) h p n (vMo I t p h)) z))) (185, s, T, I, J, R)) : ∀ (r p : Nat), p + r = z → wp codeT mX (d + 2) 202 39 [some (.inr (.inr (some 152))), some (.inl (h : Int)), some (.inl (t : Int)), some (.inl w), some (.inl ((8 * h + t : Nat) : Int)), some (.inl (swf (fun p => aoF (zM I t) (vMo I t p) h p n (vMo I t p h)) p)), some (.inl (p : Int))] [] (185, s, T, I, J, R) Q := by
  have u6 : 0 ≤ ((8 * h + t : Nat) : Int) ∧ ((8 * h + t : Nat) : Int) < ((48 : Nat) : Int) := by omega
  intro r
  induction r with
  | zero =>
    intro p hp
    have hp : p = z := by omega
    subst hp
    refine s202_39.mpr ?_
    simp only [s202_40, s202_41, s202_42, s202_43, s202_44, s202_59, s202_60, Option.toList_some, Option.toList_none, List.cons_append, List.nil_append, Nat.le_refl, true_and, and_true, true_or, or_true, false_or, or_false, true_implies, false_implies, implies_true, not_true_eq_false, not_false_eq_true, eq_self, Nat.reduceLT, Nat.reduceLeDiff, Nat.reduceEqDiff, Nat.reduceAdd, Nat.reduceSub, Int.reduceLT, Int.reduceLE, Int.reduceEq, Int.reduceNeg, Int.reduceNe, Int.reduceAdd, Int.reduceSub, Int.reduceMul, Int.reduceToNat, Int.toNat_zero, Int.toNat_one, Int.toNat_natCast, am_cats, am_cat, am_st1, am_st2, am_clr, up2_na, up2_nj, up2_same, List.getElem?_cons_zero, List.getElem?_cons_succ, List.set_cons_zero, List.set_cons_succ, ne_eq, tk_152 hh, tk_182 hh, rk_152_50 hh, hz, u6, Int.lt_irrefl]
    exact hQ
  | succ r ih =>
    intro p hp
    have nx := ih (p + 1) (by omega)
    have p12 : p < 12 := by omega
    have u4 : (p : Int) < (z : Int) := by omega
    have o6 : (p : Int) + 1 = ((p + 1 : Nat) : Int) := by omega
    have o7 : p + 1 ≤ 2000000000 := by omega
    have b := swf_bd (f := fun p => aoF (zM I t) (vMo I t p) h p n (vMo I t p h)) (fun _ => aoF_01 _ _ _ _ _ _) p
    have e : swf (fun p => aoF (zM I t) (vMo I t p) h p n (vMo I t p h)) (p + 1) = swf (fun p => aoF (zM I t) (vMo I t p) h p n (vMo I t p h)) p + aoF (zM I t) (vMo I t p) h p n (vMo I t p h) := rfl
    rw [e] at nx
    clear hQ e
    generalize swf (fun p => aoF (zM I t) (vMo I t p) h p n (vMo I t p h)) p = a at *
    refine s202_39.mpr ?_
    rcases aoF_01 (zM I t) (vMo I t p) h p n (vMo I t p h) with hw | hw
    · rw [hw, Int.add_zero] at nx
      have e2 : w32 (a + 0) = a := (w32_eq (by omega) (by omega)).trans (by omega)
      have v4 := w32_c o6 o7
      simp only [s202_40, s202_41, s202_42, s202_43, s202_44, s202_45, s202_46, s202_47, s202_48, s202_49, s202_50, s202_51, s202_52, s202_53, s202_54, s202_55, s202_56, s202_57, s202_58, Option.toList_some, Option.toList_none, List.cons_append, List.nil_append, Nat.le_refl, true_and, and_true, true_or, or_true, false_or, or_false, true_implies, false_implies, implies_true, not_true_eq_false, not_false_eq_true, eq_self, Nat.reduceLT, Nat.reduceLeDiff, Nat.reduceEqDiff, Nat.reduceAdd, Nat.reduceSub, Int.reduceLT, Int.reduceLE, Int.reduceEq, Int.reduceNeg, Int.reduceNe, Int.reduceAdd, Int.reduceSub, Int.reduceMul, Int.reduceToNat, Int.toNat_zero, Int.toNat_one, Int.toNat_natCast, am_cats, am_cat, am_st1, am_st2, am_clr, up2_na, up2_nj, up2_same, List.getElem?_cons_zero, List.getElem?_cons_succ, List.set_cons_zero, List.set_cons_succ, ne_eq, tk_152 hh, tk_182 hh, rk_152_50 hh, k204 hh h6 t8 p12 n6 hn, hz, u4, u6, v4, hw, e2]
      exact nx
    · rw [hw] at nx
      have e2 : w32 (a + 1) = a + 1 := w32_eq (by omega) (by omega)
      have v4 := w32_c o6 o7
      simp only [s202_40, s202_41, s202_42, s202_43, s202_44, s202_45, s202_46, s202_47, s202_48, s202_49, s202_50, s202_51, s202_52, s202_53, s202_54, s202_55, s202_56, s202_57, s202_58, Option.toList_some, Option.toList_none, List.cons_append, List.nil_append, Nat.le_refl, true_and, and_true, true_or, or_true, false_or, or_false, true_implies, false_implies, implies_true, not_true_eq_false, not_false_eq_true, eq_self, Nat.reduceLT, Nat.reduceLeDiff, Nat.reduceEqDiff, Nat.reduceAdd, Nat.reduceSub, Int.reduceLT, Int.reduceLE, Int.reduceEq, Int.reduceNeg, Int.reduceNe, Int.reduceAdd, Int.reduceSub, Int.reduceMul, Int.reduceToNat, Int.toNat_zero, Int.toNat_one, Int.toNat_natCast, am_cats, am_cat, am_st1, am_st2, am_clr, up2_na, up2_nj, up2_same, List.getElem?_cons_zero, List.getElem?_cons_succ, List.set_cons_zero, List.set_cons_succ, ne_eq, tk_152 hh, tk_182 hh, rk_152_50 hh, k204 hh h6 t8 p12 n6 hn, hz, u4, u6, v4, hw, e2]
      exact nx
end
section
variable {L s d : Nat} {X : Nat → Int}
theorem pr_curve (hL : L ≤ 3072) (hX : ∀ j, rg32 (X j)) (hd : 40 ≤ d) {cmp : Bool} : pr L X s LKP d 117 202 3 false cmp := by
  refine pr_mk (cx := cn125) (cm := cn171) (nx := 0) (nm := 3) hL hX (cn_all 125 (by decide) cn125 rfl) (cn_all 171 (by decide) cn171 rfl) rfl hd (fun as g hl hr hH hs hP => ?_)
  obtain ⟨a, b, w, rfl⟩ := len3 hl
  obtain ⟨c, s, T, I, J, R⟩ := g
  obtain ⟨d, rfl⟩ : ∃ e, d = e + 3 := ⟨d - 3, by omega⟩
  have hc : c = 185 := hH.1
  subst hc
  have hh := hp_of (eH5_of hH)
  have hP : LK I := hP
  obtain ⟨l0, l1, l2, l3, l4, l5, l6, l7, l8, l9, l10, l11, l12, l13, l14, l15⟩ := hP
  have e2 : I 0 2 = I 152 2 := l2
  have e3 : I 3 3 = I 152 3 := l5
  have b2 : 0 ≤ I 0 2 ∧ I 0 2 ≤ 6 := ebd hH (by decide) (by decide) (by decide)
  have b3 : 0 ≤ I 3 3 ∧ I 3 3 ≤ 8 := ebd hH (by decide) (by decide) (by decide)
  have keep : LKP (185, s, T, I, J, R) := ⟨l0, l1, l2, l3, l4, l5, l6, l7, l8, l9, l10, l11, l12, l13, l14, l15⟩
  show wpc codeT mX (d + 3) 117 [.inr (.inr (some 0)), .inl a, .inl b, .inl w] _ _
  by_cases hg : (0 ≤ a ∧ a < I 0 2) ∧ (0 ≤ b ∧ b < I 3 3) ∧ 0 ≤ w ∧ w ≤ 2
  · obtain ⟨g1, g2, g3⟩ := hg
    obtain ⟨h, rfl⟩ : ∃ n : Nat, a = n := ⟨a.toNat, by omega⟩
    obtain ⟨t, rfl⟩ : ∃ n : Nat, b = n := ⟨b.toNat, by omega⟩
    obtain ⟨n, hn⟩ : ∃ n : Nat, I 0 2 = n := ⟨(I 0 2).toNat, by omega⟩
    have h6 : h < 6 := by omega
    have t8 : t < 8 := by omega
    have n6 : n ≤ 6 := by omega
    have hnm : I 152 2 = n := e2.symm.trans hn
    have y1 : 0 ≤ (h : Int) ∧ (h : Int) < (n : Int) := by omega
    have y2 : 0 ≤ (t : Int) ∧ (t : Int) < I 152 3 := by omega
    have es : I (109 + h) t = I 182 (8 * h + t) := l14.1 h t h6 t8
    have b4 : 0 ≤ I 182 (8 * h + t) ∧ I 182 (8 * h + t) ≤ 12 := ebd hH (by decide) (by show 8 * h + t < 48; omega) ((bI_hi (by decide)).trans (by decide))
    obtain ⟨z, hz⟩ : ∃ n : Nat, I 182 (8 * h + t) = n := ⟨(I 182 (8 * h + t)).toNat, by omega⟩
    have hzx : I (109 + h) t = z := es.trans hz
    have z12 : z ≤ 12 := by omega
    have w48 : 8 * h + t < 48 := by omega
    have u1 : 0 ≤ (h : Int) ∧ (h : Int) < ((6 : Nat) : Int) := by omega
    have u2 : 0 ≤ (t : Int) ∧ (t : Int) < ((8 : Nat) : Int) := by omega
    have u3 : 109 + h < 185 := by omega
    have u6 : 0 ≤ ((8 * h + t : Nat) : Int) ∧ ((8 * h + t : Nat) : Int) < ((48 : Nat) : Int) := by omega
    have o1 : 8 * (h : Int) = ((8 * h : Nat) : Int) := by omega
    have o1b : 8 * h ≤ 2000000000 := by omega
    have o2 : ((8 * h : Nat) : Int) + (t : Int) = ((8 * h + t : Nat) : Int) := by omega
    have o2b : 8 * h + t ≤ 2000000000 := by omega
    have g1' : 0 ≤ (h : Int) ∧ (h : Int) < I 0 2 := g1
    have f1 : blF (fun j => I 107 (12 * (8 * h + t) + j)) z = blF (fun j => I 183 (12 * (8 * h + t) + j)) z := blF_eq z (fun i hi => (l14.2 _ (by omega)).1)
    have f2 : swf (fun p => aoF (zX I t) (vX I t p) h p n (vX I t p h)) z = swf (fun p => aoF (zM I t) (vMo I t p) h p n (vMo I t p h)) z := swf_eq z (fun p hp => by
      have hb : ∀ q, q < n → zX I t q = zM I t q ∧ ((p : Int) < zX I t q → vX I t p q = vMo I t p q) := fun q hq => ⟨l14.1 q t (by omega) t8, fun _ => (l14.2 _ (by omega)).1⟩
      have hv : vX I t p h = vMo I t p h := (l14.2 _ (by omega)).1
      unfold aoF
      rw [abF_eq n hb, hv])
    have hw3 : w = 0 ∨ w = 1 ∨ w = 2 := by omega
    have first : ∀ Q : Option AV → AH → Prop, Q (some (.inl (if w = 0 then (blF (fun j => I 107 (12 * (8 * h + t) + j)) z).2 else if w = 1 then swf (fun p => aoF (zX I t) (vX I t p) h p n (vX I t p h)) z else (z : Int)))) (185, s, T, I, J, R) → wpc codeT mX (d + 3) 117 [.inr (.inr (some 0)), .inl (h : Int), .inl (t : Int), .inl w] (185, s, T, I, J, R) Q := by
      intro Q hQ
      rcases hw3 with rfl | rfl | rfl
      · rw [if_pos rfl] at hQ
        simp only [e117, s117_0, s117_1, s117_2, s117_3, s117_4, s117_5, s117_6, s117_7, s117_8, s117_9, s117_10, s117_11, s117_12, s117_13, s117_14, s117_15, s117_16, s117_17, s117_18, s117_19, s117_20, s117_21, s117_22, s117_23, s117_24, s117_25, s117_26, s117_27, s117_28, s117_29, s117_30, s117_31, s117_32, s117_33, Option.toList_some, Option.toList_none, List.cons_append, List.nil_append, Nat.le_refl, true_and, and_true, true_or, or_true, false_or, or_false, true_implies, false_implies, implies_true, not_true_eq_false, not_false_eq_true, eq_self, Nat.reduceLT, Nat.reduceLeDiff, Nat.reduceEqDiff, Nat.reduceAdd, Nat.reduceSub, Int.reduceLT, Int.reduceLE, Int.reduceEq, Int.reduceNeg, Int.reduceNe, Int.reduceAdd, Int.reduceSub, Int.reduceMul, Int.reduceToNat, Int.toNat_zero, Int.toNat_one, Int.toNat_natCast, am_cats, am_cat, am_st1, am_st2, am_clr, up2_na, up2_nj, up2_same, List.getElem?_cons_zero, List.getElem?_cons_succ, List.set_cons_zero, List.set_cons_succ, ne_eq, tk_0 hh, tk_106 hh, rk_0_17 hh, k16 hh, k51 hh, k118 hh h6 t8 hzx z12, i10, g1', g2, hn, y1]
        exact hQ
      · rw [if_neg (by decide), if_pos rfl] at hQ
        simp only [e117, s117_0, s117_1, s117_2, s117_3, s117_4, s117_5, s117_6, s117_7, s117_8, s117_9, s117_10, s117_11, s117_12, s117_13, s117_14, s117_15, s117_16, s117_17, s117_18, s117_19, s117_20, s117_21, s117_22, s117_23, s117_24, s117_25, s117_26, s117_27, s117_28, s117_29, s117_30, s117_31, s117_32, s117_33, Option.toList_some, Option.toList_none, List.cons_append, List.nil_append, Nat.le_refl, true_and, and_true, true_or, or_true, false_or, or_false, true_implies, false_implies, implies_true, not_true_eq_false, not_false_eq_true, eq_self, Nat.reduceLT, Nat.reduceLeDiff, Nat.reduceEqDiff, Nat.reduceAdd, Nat.reduceSub, Int.reduceLT, Int.reduceLE, Int.reduceEq, Int.reduceNeg, Int.reduceNe, Int.reduceAdd, Int.reduceSub, Int.reduceMul, Int.reduceToNat, Int.toNat_zero, Int.toNat_one, Int.toNat_natCast, am_cats, am_cat, am_st1, am_st2, am_clr, up2_na, up2_nj, up2_same, List.getElem?_cons_zero, List.getElem?_cons_succ, List.set_cons_zero, List.set_cons_succ, ne_eq, tk_0 hh, tk_106 hh, rk_0_17 hh, k16 hh, k51 hh, k119 hh h6 t8 n6 hzx z12, i10, g2, hn, y1]
        exact hQ
      · rw [if_neg (by decide), if_neg (by decide)] at hQ
        simp only [e117, s117_0, s117_1, s117_2, s117_3, s117_4, s117_5, s117_6, s117_7, s117_8, s117_9, s117_10, s117_11, s117_12, s117_13, s117_14, s117_15, s117_16, s117_17, s117_18, s117_19, s117_20, s117_21, s117_22, s117_23, s117_24, s117_25, s117_26, s117_27, s117_28, s117_29, s117_30, s117_31, s117_32, s117_33, e121, s121_0, s121_1, s121_2, s121_3, s121_4, s121_5, s121_6, Option.toList_some, Option.toList_none, List.cons_append, List.nil_append, Nat.le_refl, true_and, and_true, true_or, or_true, false_or, or_false, true_implies, false_implies, implies_true, not_true_eq_false, not_false_eq_true, eq_self, Nat.reduceLT, Nat.reduceLeDiff, Nat.reduceEqDiff, Nat.reduceAdd, Nat.reduceSub, Int.reduceLT, Int.reduceLE, Int.reduceEq, Int.reduceNeg, Int.reduceNe, Int.reduceAdd, Int.reduceSub, Int.reduceMul, Int.reduceToNat, Int.toNat_zero, Int.toNat_one, Int.toNat_natCast, am_cats, am_cat, am_st1, am_st2, am_clr, up2_na, up2_nj, up2_same, List.getElem?_cons_zero, List.getElem?_cons_succ, List.set_cons_zero, List.set_cons_succ, ne_eq, tk_0 hh, tk_106 hh, tk_108 hh, rk_0_17 hh, rk_106_1 hh, gk_108 hh h6, tg_109 hh h6, k16 hh, k51 hh, i10, g2, hn, y1, u1, u2, u3, hzx]
        exact hQ
    have second : ∀ Q : Option AV → AH → Prop, Q (some (.inl (if w = 0 then (blF (fun j => I 183 (12 * (8 * h + t) + j)) z).2 else if w = 1 then swf (fun p => aoF (zM I t) (vMo I t p) h p n (vMo I t p h)) z else (z : Int)))) (185, s, T, I, J, R) → wpc codeT mX (d + 3) 202 [.inr (.inr (some 152)), .inl (h : Int), .inl (t : Int), .inl w] (185, s, T, I, J, R) Q := by
      intro Q hQ
      have v1 := w32_c o1 o1b
      have v2 := w32_c o2 o2b
      have c0 : (0 : Int) ≤ 0 ∧ (0 : Int) ≤ 2 := by decide
      have c1 : (0 : Int) ≤ 1 ∧ (1 : Int) ≤ 2 := by decide
      have c2 : (0 : Int) ≤ 2 ∧ (2 : Int) ≤ 2 := by decide
      rcases hw3 with rfl | rfl | rfl
      · rw [if_pos rfl] at hQ
        simp only [s202_0, s202_1, s202_2, s202_3, s202_4, s202_5, s202_6, s202_7, s202_8, s202_9, s202_10, s202_11, s202_12, s202_13, s202_14, s202_15, s202_16, s202_17, s202_18, s202_19, s202_20, s202_21, s202_22, s202_23, s202_24, s202_25, s202_26, s202_27, s202_28, s202_29, s202_30, s202_31, s202_32, s202_33, s202_34, s202_35, s202_36, s202_37, s202_38, e202, Option.toList_some, Option.toList_none, List.cons_append, List.nil_append, Nat.le_refl, true_and, and_true, true_or, or_true, false_or, or_false, true_implies, false_implies, implies_true, not_true_eq_false, not_false_eq_true, eq_self, Nat.reduceLT, Nat.reduceLeDiff, Nat.reduceEqDiff, Nat.reduceAdd, Nat.reduceSub, Int.reduceLT, Int.reduceLE, Int.reduceEq, Int.reduceNeg, Int.reduceNe, Int.reduceAdd, Int.reduceSub, Int.reduceMul, Int.reduceToNat, Int.toNat_zero, Int.toNat_one, Int.toNat_natCast, am_cats, am_cat, am_st1, am_st2, am_clr, up2_na, up2_nj, up2_same, List.getElem?_cons_zero, List.getElem?_cons_succ, List.set_cons_zero, List.set_cons_succ, ne_eq, tk_152 hh, k134 hh, k164 hh, k136, k203 hh w48 hz z12, i10, y1, y2, hnm, c0, v1, v2]
        exact hQ
      · rw [if_neg (by decide), if_pos rfl] at hQ
        have := p202 (d := d + 1) (s := s) (J := J) (I := I) (w := 1) (Q := Q) hh h6 t8 n6 hnm hz z12 hQ z 0 (by omega)
        simp only [s202_0, s202_1, s202_2, s202_3, s202_4, s202_5, s202_6, s202_7, s202_8, s202_9, s202_10, s202_11, s202_12, s202_13, s202_14, s202_15, s202_16, s202_17, s202_18, s202_19, s202_20, s202_21, s202_22, s202_23, s202_24, s202_25, s202_26, s202_27, s202_28, s202_29, s202_30, s202_31, s202_32, s202_33, s202_34, s202_35, s202_36, s202_37, s202_38, e202, Option.toList_some, Option.toList_none, List.cons_append, List.nil_append, Nat.le_refl, true_and, and_true, true_or, or_true, false_or, or_false, true_implies, false_implies, implies_true, not_true_eq_false, not_false_eq_true, eq_self, Nat.reduceLT, Nat.reduceLeDiff, Nat.reduceEqDiff, Nat.reduceAdd, Nat.reduceSub, Int.reduceLT, Int.reduceLE, Int.reduceEq, Int.reduceNeg, Int.reduceNe, Int.reduceAdd, Int.reduceSub, Int.reduceMul, Int.reduceToNat, Int.toNat_zero, Int.toNat_one, Int.toNat_natCast, am_cats, am_cat, am_st1, am_st2, am_clr, up2_na, up2_nj, up2_same, List.getElem?_cons_zero, List.getElem?_cons_succ, List.set_cons_zero, List.set_cons_succ, ne_eq, tk_152 hh, k134 hh, k164 hh, k136, i10, y1, y2, hnm, c1, v1, v2]
        exact this
      · rw [if_neg (by decide), if_neg (by decide)] at hQ
        simp only [s202_0, s202_1, s202_2, s202_3, s202_4, s202_5, s202_6, s202_7, s202_8, s202_9, s202_10, s202_11, s202_12, s202_13, s202_14, s202_15, s202_16, s202_17, s202_18, s202_19, s202_20, s202_21, s202_22, s202_23, s202_24, s202_25, s202_26, s202_27, s202_28, s202_29, s202_30, s202_31, s202_32, s202_33, s202_34, s202_35, s202_36, s202_37, s202_38, e202, Option.toList_some, Option.toList_none, List.cons_append, List.nil_append, Nat.le_refl, true_and, and_true, true_or, or_true, false_or, or_false, true_implies, false_implies, implies_true, not_true_eq_false, not_false_eq_true, eq_self, Nat.reduceLT, Nat.reduceLeDiff, Nat.reduceEqDiff, Nat.reduceAdd, Nat.reduceSub, Int.reduceLT, Int.reduceLE, Int.reduceEq, Int.reduceNeg, Int.reduceNe, Int.reduceAdd, Int.reduceSub, Int.reduceMul, Int.reduceToNat, Int.toNat_zero, Int.toNat_one, Int.toNat_natCast, am_cats, am_cat, am_st1, am_st2, am_clr, up2_na, up2_nj, up2_same, List.getElem?_cons_zero, List.getElem?_cons_succ, List.set_cons_zero, List.set_cons_succ, ne_eq, tk_152 hh, tk_182 hh, rk_152_50 hh, k134 hh, k164 hh, k136, i10, y1, y2, hnm, c2, v1, v2, u6, hz]
        exact hQ
    refine first _ (fun _ hH1 m1 s1 => ⟨_, rfl, ?_⟩)
    show wpc codeT mX (d + 3) 202 [.inr (.inr (some 152)), .inl (h : Int), .inl (t : Int), .inl w] (185, s, T, I, J, R) _
    exact second _ (fun _ hH2 m2 => ⟨_, rfl, fun _ => by rw [f1, f2], keep⟩)
  · have hg2 : ¬ ((0 ≤ a ∧ a < I 152 2) ∧ (0 ≤ b ∧ b < I 152 3) ∧ 0 ≤ w ∧ w ≤ 2) := by rw [← e2, ← e3]; exact hg
    have fin : ∀ Q : Option AV → AH → Prop, Q (some (.inl (-1))) (185, s, T, I, J, R) → wpc codeT mX (d + 3) 202 [.inr (.inr (some 152)), .inl a, .inl b, .inl w] (185, s, T, I, J, R) Q := by
      intro Q hQ
      simp only [s202_0, s202_1, s202_2, s202_3, s202_4, s202_5, s202_6, s202_7, s202_8, s202_9, s202_10, s202_11, s202_12, s202_13, s202_14, e202, Option.toList_some, Option.toList_none, List.cons_append, List.nil_append, Nat.le_refl, true_and, and_true, true_or, or_true, false_or, or_false, true_implies, false_implies, implies_true, not_true_eq_false, not_false_eq_true, eq_self, Nat.reduceLT, Nat.reduceLeDiff, Nat.reduceEqDiff, Nat.reduceAdd, Nat.reduceSub, Int.reduceLT, Int.reduceLE, Int.reduceEq, Int.reduceNeg, Int.reduceNe, Int.reduceAdd, Int.reduceSub, Int.reduceMul, Int.reduceToNat, Int.toNat_zero, Int.toNat_one, Int.toNat_natCast, am_cats, am_cat, am_st1, am_st2, am_clr, up2_na, up2_nj, up2_same, List.getElem?_cons_zero, List.getElem?_cons_succ, List.set_cons_zero, List.set_cons_succ, ne_eq, tk_152 hh, k134 hh, k164 hh, k136, i10, Classical.not_not]
      exact ⟨fun _ => hQ, fun q1 => ⟨fun _ => hQ, fun q2 => ⟨fun _ => hQ, fun q3 => absurd ⟨q1, q2, q3⟩ hg2⟩⟩⟩
    have go : ∀ Q : Option AV → AH → Prop, Q (some (.inl (-1))) (185, s, T, I, J, R) → wpc codeT mX (d + 3) 117 [.inr (.inr (some 0)), .inl a, .inl b, .inl w] (185, s, T, I, J, R) Q := by
      intro Q hQ
      simp only [s117_0, s117_1, s117_2, s117_3, s117_4, s117_5, s117_6, s117_7, s117_8, s117_9, s117_10, s117_11, s117_32, s117_33, e117, Option.toList_some, Option.toList_none, List.cons_append, List.nil_append, Nat.le_refl, true_and, and_true, true_or, or_true, false_or, or_false, true_implies, false_implies, implies_true, not_true_eq_false, not_false_eq_true, eq_self, Nat.reduceLT, Nat.reduceLeDiff, Nat.reduceEqDiff, Nat.reduceAdd, Nat.reduceSub, Int.reduceLT, Int.reduceLE, Int.reduceEq, Int.reduceNeg, Int.reduceNe, Int.reduceAdd, Int.reduceSub, Int.reduceMul, Int.reduceToNat, Int.toNat_zero, Int.toNat_one, Int.toNat_natCast, am_cats, am_cat, am_st1, am_st2, am_clr, up2_na, up2_nj, up2_same, List.getElem?_cons_zero, List.getElem?_cons_succ, List.set_cons_zero, List.set_cons_succ, ne_eq, tk_0 hh, k16 hh, k51 hh, i10, Classical.not_not]
      exact ⟨fun _ => hQ, fun q1 => ⟨fun _ => hQ, fun q2 => ⟨fun q3 => absurd ⟨q1, q2, by omega⟩ hg, fun _ => ⟨fun q3 => absurd ⟨q1, q2, by omega⟩ hg, fun _ => ⟨fun q3 => absurd ⟨q1, q2, by omega⟩ hg, fun _ => hQ⟩⟩⟩⟩⟩
    exact go _ (fun _ hH1 m1 s1 => ⟨-1, rfl, fin _ (fun _ hH2 m2 => ⟨-1, rfl, fun _ => rfl, keep⟩)⟩)
end
