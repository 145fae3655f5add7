/-! the law by hand, 16: purest -/
def pzF (u a : Nat → Int) : Nat → Int
  | 0 => -1
  | t + 1 => if 0 < u t ∧ (pzF u a t = -1 ∨ w32 (u (pzF u a t).toNat * a t) < w32 (u t * a (pzF u a t).toNat)) then (t : Int) else pzF u a t
theorem pzF_bd (u a : Nat → Int) : ∀ t : Nat, pzF u a t = -1 ∨ 0 ≤ pzF u a t ∧ pzF u a t < t
  | 0 => Or.inl rfl
  | t + 1 => by
    have := pzF_bd u a t
    show (if 0 < u t ∧ (pzF u a t = -1 ∨ w32 (u (pzF u a t).toNat * a t) < w32 (u t * a (pzF u a t).toNat)) then (t : Int) else pzF u a t) = -1 ∨ 0 ≤ (if 0 < u t ∧ (pzF u a t = -1 ∨ w32 (u (pzF u a t).toNat * a t) < w32 (u t * a (pzF u a t).toNat)) then (t : Int) else pzF u a t) ∧ (if 0 < u t ∧ (pzF u a t = -1 ∨ w32 (u (pzF u a t).toNat * a t) < w32 (u t * a (pzF u a t).toNat)) then (t : Int) else pzF u a t) < ((t + 1 : Nat) : Int)
    split <;> omega
theorem pzF_eq {u a u' a' : Nat → Int} : ∀ t : Nat, (∀ i, i < t → u i = u' i ∧ a i = a' i) → pzF u a t = pzF u' a' t
  | 0, _ => rfl
  | t + 1, h => by
    have e := pzF_eq t (fun i hi => h i (by omega))
    have b := pzF_bd u' a' t
    obtain ⟨e1, e2⟩ := h t (by omega)
    show (if 0 < u t ∧ (pzF u a t = -1 ∨ w32 (u (pzF u a t).toNat * a t) < w32 (u t * a (pzF u a t).toNat)) then (t : Int) else pzF u a t) = (if 0 < u' t ∧ (pzF u' a' t = -1 ∨ w32 (u' (pzF u' a' t).toNat * a' t) < w32 (u' t * a' (pzF u' a' t).toNat)) then (t : Int) else pzF u' a' t)
    rw [e, e1, e2]
    rcases b with b | ⟨b1, b2⟩
    · rw [b]
      simp only [true_or, and_true]
    · obtain ⟨e3, e4⟩ := h (pzF u' a' t).toNat (by omega)
      rw [e3, e4]
section
variable {d s : Nat} {T : Nat → Nat × Nat} {I J : Nat → Nat → Int} {R : Nat → Nat → Option Nat} {Q : Option AV → AH → Prop}
theorem p107 (hh : hp T R) {k N : Nat} (hk : k < 6) (hN : I 3 3 = N) (hN8 : N ≤ 8) (hQ : Q (some (.inl (pzF (fun t => I (5 + t) k) (I 16) N))) (185, s, T, I, J, R)) : ∀ (r t : Nat), t + r = N → wp codeT mX d 107 4 [some (.inr (.inr (some 3))), some (.inl (k : Int)), some (.inl (pzF (fun t => I (5 + t) k) (I 16) t)), some (.inl (t : Int))] [] (185, s, T, I, J, R) Q := by
  intro r
  induction r with
  | zero =>
    intro t ht
    have ht : t = N := by omega
    subst ht
    refine s107_4.mpr ?_
    simp only [s107_5, s107_6, s107_7, s107_45, s107_46, Option.toList_some, Option.toList_none, List.cons_append, List.nil_append, Nat.le_refl, true_and, and_true, true_or, or_true, false_or, or_false, true_implies, false_implies, implies_true, not_true_eq_false, not_false_eq_true, eq_self, Nat.reduceLT, Nat.reduceLeDiff, Nat.reduceEqDiff, Nat.reduceAdd, Nat.reduceSub, Int.reduceLT, Int.reduceLE, Int.reduceEq, Int.reduceNeg, Int.reduceNe, Int.reduceAdd, Int.reduceSub, Int.reduceMul, Int.reduceToNat, Int.toNat_zero, Int.toNat_one, Int.toNat_natCast, am_cats, am_cat, am_st1, am_st2, am_clr, up2_na, up2_nj, up2_same, List.getElem?_cons_zero, List.getElem?_cons_succ, List.set_cons_zero, List.set_cons_succ, ne_eq, tk_3 hh, hN, Int.lt_irrefl]
    exact hQ
  | succ r ih =>
    intro t ht
    have nx := ih (t + 1) (by omega)
    have t8 : t < 8 := by omega
    have u1 : (t : Int) < (N : Int) := by omega
    have u2 : 0 ≤ (t : Int) ∧ (t : Int) < ((8 : Nat) : Int) := by omega
    have u3 : 0 ≤ (k : Int) ∧ (k : Int) < ((6 : Nat) : Int) := by omega
    have u4 : 5 + t < 185 := by omega
    have o6 : (t : Int) + 1 = ((t + 1 : Nat) : Int) := by omega
    have o7 : t + 1 ≤ 2000000000 := by omega
    have e : pzF (fun t => I (5 + t) k) (I 16) (t + 1) = if 0 < I (5 + t) k ∧ (pzF (fun t => I (5 + t) k) (I 16) t = -1 ∨ w32 (I (5 + (pzF (fun t => I (5 + t) k) (I 16) t).toNat) k * I 16 t) < w32 (I (5 + t) k * I 16 (pzF (fun t => I (5 + t) k) (I 16) t).toNat)) then (t : Int) else pzF (fun t => I (5 + t) k) (I 16) t := rfl
    have b := pzF_bd (fun t => I (5 + t) k) (I 16) t
    rw [e] at nx
    clear hQ
    generalize pzF (fun t => I (5 + t) k) (I 16) t = p at *
    have v4 := w32_c o6 o7
    refine s107_4.mpr ?_
    by_cases h1 : 0 < I (5 + t) k
    · rcases b with b | ⟨b1, b2⟩
      · subst b
        rw [if_pos ⟨h1, Or.inl rfl⟩] at nx
        simp only [s107_5, s107_6, s107_7, s107_8, s107_9, s107_10, s107_11, s107_12, s107_13, s107_14, s107_15, s107_16, s107_17, s107_18, s107_19, s107_20, s107_21, s107_22, s107_23, s107_24, s107_25, s107_26, s107_27, s107_28, s107_29, s107_30, s107_31, s107_32, s107_33, s107_34, s107_35, s107_36, s107_37, s107_38, s107_39, s107_40, s107_41, s107_42, s107_43, s107_44, Option.toList_some, Option.toList_none, List.cons_append, List.nil_append, Nat.le_refl, true_and, and_true, true_or, or_true, false_or, or_false, true_implies, false_implies, implies_true, not_true_eq_false, not_false_eq_true, eq_self, Nat.reduceLT, Nat.reduceLeDiff, Nat.reduceEqDiff, Nat.reduceAdd, Nat.reduceSub, Int.reduceLT, Int.reduceLE, Int.reduceEq, Int.reduceNeg, Int.reduceNe, Int.reduceAdd, Int.reduceSub, Int.reduceMul, Int.reduceToNat, Int.toNat_zero, Int.toNat_one, Int.toNat_natCast, am_cats, am_cat, am_st1, am_st2, am_clr, up2_na, up2_nj, up2_same, List.getElem?_cons_zero, List.getElem?_cons_succ, List.set_cons_zero, List.set_cons_succ, ne_eq, tk_3 hh, tk_4 hh, rk_3_0 hh, gk_4 hh t8, tg_5 hh t8, hN, u1, u2, u3, u4, v4, h1]
        exact nx
      · obtain ⟨p, rfl⟩ : ∃ q : Nat, p = q := ⟨p.toNat, by omega⟩
        have p8 : p < 8 := by omega
        have w1 : ¬ (p : Int) = -1 := by omega
        have w2 : 0 ≤ (p : Int) ∧ (p : Int) < ((8 : Nat) : Int) := by omega
        have w4 : 5 + p < 185 := by omega
        rw [Int.toNat_natCast] at nx
        by_cases h2 : w32 (I (5 + p) k * I 16 t) < w32 (I (5 + t) k * I 16 p)
        · rw [if_pos ⟨h1, Or.inr h2⟩] at nx
          simp only [s107_5, s107_6, s107_7, s107_8, s107_9, s107_10, s107_11, s107_12, s107_13, s107_14, s107_15, s107_16, s107_17, s107_18, s107_19, s107_20, s107_21, s107_22, s107_23, s107_24, s107_25, s107_26, s107_27, s107_28, s107_29, s107_30, s107_31, s107_32, s107_33, s107_34, s107_35, s107_36, s107_37, s107_38, s107_39, s107_40, s107_41, s107_42, s107_43, s107_44, Option.toList_some, Option.toList_none, List.cons_append, List.nil_append, Nat.le_refl, true_and, and_true, true_or, or_true, false_or, or_false, true_implies, false_implies, implies_true, not_true_eq_false, not_false_eq_true, eq_self, Nat.reduceLT, Nat.reduceLeDiff, Nat.reduceEqDiff, Nat.reduceAdd, Nat.reduceSub, Int.reduceLT, Int.reduceLE, Int.reduceEq, Int.reduceNeg, Int.reduceNe, Int.reduceAdd, Int.reduceSub, Int.reduceMul, Int.reduceToNat, Int.toNat_zero, Int.toNat_one, Int.toNat_natCast, am_cats, am_cat, am_st1, am_st2, am_clr, up2_na, up2_nj, up2_same, List.getElem?_cons_zero, List.getElem?_cons_succ, List.set_cons_zero, List.set_cons_succ, ne_eq, tk_3 hh, tk_4 hh, tk_16 hh, rk_3_0 hh, rk_3_5 hh, gk_4 hh t8, tg_5 hh t8, gk_4 hh p8, tg_5 hh p8, hN, u1, u2, u3, u4, v4, h1, w1, w2, w4, h2]
          exact nx
        · rw [if_neg (fun z => z.2.elim w1 h2)] at nx
          simp only [s107_5, s107_6, s107_7, s107_8, s107_9, s107_10, s107_11, s107_12, s107_13, s107_14, s107_15, s107_16, s107_17, s107_18, s107_19, s107_20, s107_21, s107_22, s107_23, s107_24, s107_25, s107_26, s107_27, s107_28, s107_29, s107_30, s107_31, s107_32, s107_33, s107_34, s107_35, s107_36, s107_37, s107_38, s107_39, s107_40, s107_41, s107_42, s107_43, s107_44, Option.toList_some, Option.toList_none, List.cons_append, List.nil_append, Nat.le_refl, true_and, and_true, true_or, or_true, false_or, or_false, true_implies, false_implies, implies_true, not_true_eq_false, not_false_eq_true, eq_self, Nat.reduceLT, Nat.reduceLeDiff, Nat.reduceEqDiff, Nat.reduceAdd, Nat.reduceSub, Int.reduceLT, Int.reduceLE, Int.reduceEq, Int.reduceNeg, Int.reduceNe, Int.reduceAdd, Int.reduceSub, Int.reduceMul, Int.reduceToNat, Int.toNat_zero, Int.toNat_one, Int.toNat_natCast, am_cats, am_cat, am_st1, am_st2, am_clr, up2_na, up2_nj, up2_same, List.getElem?_cons_zero, List.getElem?_cons_succ, List.set_cons_zero, List.set_cons_succ, ne_eq, tk_3 hh, tk_4 hh, tk_16 hh, rk_3_0 hh, rk_3_5 hh, gk_4 hh t8, tg_5 hh t8, gk_4 hh p8, tg_5 hh p8, hN, u1, u2, u3, u4, v4, h1, w1, w2, w4, h2]
          exact nx
    · rw [if_neg (fun z => h1 z.1)] at nx
      simp only [s107_5, s107_6, s107_7, s107_8, s107_9, s107_10, s107_11, s107_12, s107_13, s107_14, s107_15, s107_16, s107_17, s107_18, s107_19, s107_20, s107_21, s107_22, s107_23, s107_24, s107_25, s107_26, s107_27, s107_28, s107_29, s107_30, s107_31, s107_32, s107_33, s107_34, s107_35, s107_36, s107_37, s107_38, s107_39, s107_40, s107_41, s107_42, s107_43, s107_44, Option.toList_some, Option.toList_none, List.cons_append, List.nil_append, Nat.le_refl, true_and, and_true, true_or, or_true, false_or, or_false, true_implies, false_implies, implies_true, not_true_eq_false, not_false_eq_true, eq_self, Nat.reduceLT, Nat.reduceLeDiff, Nat.reduceEqDiff, Nat.reduceAdd, Nat.reduceSub, Int.reduceLT, Int.reduceLE, Int.reduceEq, Int.reduceNeg, Int.reduceNe, Int.reduceAdd, Int.reduceSub, Int.reduceMul, Int.reduceToNat, Int.toNat_zero, Int.toNat_one, Int.toNat_natCast, am_cats, am_cat, am_st1, am_st2, am_clr, up2_na, up2_nj, up2_same, List.getElem?_cons_zero, List.getElem?_cons_succ, List.set_cons_zero, List.set_cons_succ, ne_eq, tk_3 hh, tk_4 hh, rk_3_0 hh, gk_4 hh t8, tg_5 hh t8, hN, u1, u2, u3, u4, v4, h1]
      exact nx
theorem x106 (hh : hp T R) {a : Int} {N : Nat} (hN : I 3 3 = N) (hN8 : N ≤ 8) (h6 : I 0 1 ≤ 6) (q0 : ¬ (0 ≤ a ∧ a < I 0 1) → Q (some (.inl (-1))) (185, s, T, I, J, R)) (q1 : ∀ k : Nat, a = k → (k : Int) < I 0 1 → Q (some (.inl (pzF (fun t => I (5 + t) k) (I 16) N))) (185, s, T, I, J, R)) : wpc codeT mX (d + 1) 106 [.inr (.inr (some 0)), .inl a] (185, s, T, I, J, R) Q := by
  by_cases hg : 0 ≤ a ∧ a < I 0 1
  · obtain ⟨k, rfl⟩ : ∃ n : Nat, a = n := ⟨a.toNat, by omega⟩
    have k6 : k < 6 := by omega
    have fin : wpc codeT mX d 107 [.inr (.inr (some 3)), .inl (k : Int)] (185, s, T, I, J, R) (fun v h1 => (185 ≤ h1.1 ∧ s ≤ h1.2.1) ∧ wp codeT mX (d + 1) 106 8 [some (.inr (.inr (some 0))), some (.inl (k : Int))] (v.toList ++ []) h1 Q) := by
      have := p107 (d := d) (s := s) (J := J) (I := I) (Q := fun v h1 => (185 ≤ h1.1 ∧ s ≤ h1.2.1) ∧ wp codeT mX (d + 1) 106 8 [some (.inr (.inr (some 0))), some (.inl (k : Int))] (v.toList ++ []) h1 Q) hh k6 hN hN8 ⟨⟨Nat.le_refl _, Nat.le_refl _⟩, by
        simp only [s106_8, s106_10, Option.toList_some, Option.toList_none, List.cons_append, List.nil_append, Nat.le_refl, true_and, and_true, true_or, or_true, false_or, or_false, true_implies, false_implies, implies_true, not_true_eq_false, not_false_eq_true, eq_self, Nat.reduceLT, Nat.reduceLeDiff, Nat.reduceEqDiff, Nat.reduceAdd, Nat.reduceSub, Int.reduceLT, Int.reduceLE, Int.reduceEq, Int.reduceNeg, Int.reduceNe, Int.reduceAdd, Int.reduceSub, Int.reduceMul, Int.reduceToNat, Int.toNat_zero, Int.toNat_one, Int.toNat_natCast, am_cats, am_cat, am_st1, am_st2, am_clr, up2_na, up2_nj, up2_same, List.getElem?_cons_zero, List.getElem?_cons_succ, List.set_cons_zero, List.set_cons_succ, ne_eq]
        exact q1 k rfl hg.2⟩ N 0 (by omega)
      simp only [e107, s107_0, s107_1, s107_2, s107_3, Option.toList_some, Option.toList_none, List.cons_append, List.nil_append, Nat.le_refl, true_and, and_true, true_or, or_true, false_or, or_false, true_implies, false_implies, implies_true, not_true_eq_false, not_false_eq_true, eq_self, Nat.reduceLT, Nat.reduceLeDiff, Nat.reduceEqDiff, Nat.reduceAdd, Nat.reduceSub, Int.reduceLT, Int.reduceLE, Int.reduceEq, Int.reduceNeg, Int.reduceNe, Int.reduceAdd, Int.reduceSub, Int.reduceMul, Int.reduceToNat, Int.toNat_zero, Int.toNat_one, Int.toNat_natCast, am_cats, am_cat, am_st1, am_st2, am_clr, up2_na, up2_nj, up2_same, List.getElem?_cons_zero, List.getElem?_cons_succ, List.set_cons_zero, List.set_cons_succ, ne_eq]
      exact this
    simp only [s106_0, s106_1, s106_2, s106_3, s106_4, s106_5, s106_6, s106_7, e106, Option.toList_some, Option.toList_none, List.cons_append, List.nil_append, Nat.le_refl, true_and, and_true, true_or, or_true, false_or, or_false, true_implies, false_implies, implies_true, not_true_eq_false, not_false_eq_true, eq_self, Nat.reduceLT, Nat.reduceLeDiff, Nat.reduceEqDiff, Nat.reduceAdd, Nat.reduceSub, Int.reduceLT, Int.reduceLE, Int.reduceEq, Int.reduceNeg, Int.reduceNe, Int.reduceAdd, Int.reduceSub, Int.reduceMul, Int.reduceToNat, Int.toNat_zero, Int.toNat_one, Int.toNat_natCast, am_cats, am_cat, am_st1, am_st2, am_clr, up2_na, up2_nj, up2_same, List.getElem?_cons_zero, List.getElem?_cons_succ, List.set_cons_zero, List.set_cons_succ, ne_eq, tk_0 hh, tk_3 hh, rk_0_6 hh, k17 hh, i10, hg]
    exact fin
  · simp only [s106_0, s106_1, s106_2, s106_3, s106_9, s106_10, e106, Option.toList_some, Option.toList_none, List.cons_append, List.nil_append, Nat.le_refl, true_and, and_true, true_or, or_true, false_or, or_false, true_implies, false_implies, implies_true, not_true_eq_false, not_false_eq_true, eq_self, Nat.reduceLT, Nat.reduceLeDiff, Nat.reduceEqDiff, Nat.reduceAdd, Nat.reduceSub, Int.reduceLT, Int.reduceLE, Int.reduceEq, Int.reduceNeg, Int.reduceNe, Int.reduceAdd, Int.reduceSub, Int.reduceMul, Int.reduceToNat, Int.toNat_zero, Int.toNat_one, Int.toNat_natCast, am_cats, am_cat, am_st1, am_st2, am_clr, up2_na, up2_nj, up2_same, List.getElem?_cons_zero, List.getElem?_cons_succ, List.set_cons_zero, List.set_cons_succ, ne_eq, tk_0 hh, k17 hh, i10, hg]
    exact q0 hg
/-- the reference -/
theorem p196 (hh : hp T R) {t : Nat} (t8 : t < 8) (hb : ∀ k, k < 6 → 0 ≤ I 154 (6 * t + k) ∧ I 154 (6 * t + k) ≤ 9) (hQ : Q (some (.inl (swf (fun k => I 154 (6 * t + k)) 6))) (185, s, T, I, J, R)) : ∀ (r k : Nat), k + r = 6 → (0 ≤ swf (fun k => I 154 (6 * t + k)) k ∧ swf (fun k => I 154 (6 * t + k)) k ≤ 9 * k) → wp codeT mX d 196 4 [some (.inr (.inr (some 152))), some (.inl (t : Int)), some (.inl (swf (fun k => I 154 (6 * t + k)) k)), some (.inl (k : Int))] [] (185, s, T, I, J, R) Q := by
  intro r
  induction r with
  | zero =>
    intro k hk _
    have hk : k = 6 := by omega
    subst hk
    have u : ¬ ((6 : Nat) : Int) < 6 := by decide
    refine s196_4.mpr ?_
    simp only [s196_5, s196_6, s196_20, s196_21, Option.toList_some, Option.toList_none, List.cons_append, List.nil_append, Nat.le_refl, true_and, and_true, true_or, or_true, false_or, or_false, true_implies, false_implies, implies_true, not_true_eq_false, not_false_eq_true, eq_self, Nat.reduceLT, Nat.reduceLeDiff, Nat.reduceEqDiff, Nat.reduceAdd, Nat.reduceSub, Int.reduceLT, Int.reduceLE, Int.reduceEq, Int.reduceNeg, Int.reduceNe, Int.reduceAdd, Int.reduceSub, Int.reduceMul, Int.reduceToNat, Int.toNat_zero, Int.toNat_one, Int.toNat_natCast, am_cats, am_cat, am_st1, am_st2, am_clr, up2_na, up2_nj, up2_same, List.getElem?_cons_zero, List.getElem?_cons_succ, List.set_cons_zero, List.set_cons_succ, ne_eq, u]
    exact hQ
  | succ r ih =>
    intro k hk hs
    have k6 : k < 6 := by omega
    have hb1 := hb k k6
    have e : swf (fun k => I 154 (6 * t + k)) (k + 1) = swf (fun k => I 154 (6 * t + k)) k + I 154 (6 * t + k) := rfl
    have nx := ih (k + 1) (by omega) (by rw [e]; omega)
    have u1 : (k : Int) < 6 := by omega
    have u4 : 0 ≤ ((6 * t + k : Nat) : Int) ∧ ((6 * t + k : Nat) : Int) < ((48 : Nat) : Int) := by omega
    have o4 : 6 * (t : Int) = ((6 * t : Nat) : Int) := by omega
    have o5 : 6 * t ≤ 2000000000 := by omega
    have o6 : (k : Int) + 1 = ((k + 1 : Nat) : Int) := by omega
    have o7 : k + 1 ≤ 2000000000 := by omega
    have o8 : ((6 * t : Nat) : Int) + (k : Int) = ((6 * t + k : Nat) : Int) := by omega
    have o9 : 6 * t + k ≤ 2000000000 := by omega
    have e9 : w32 (swf (fun k => I 154 (6 * t + k)) k + I 154 (6 * t + k)) = swf (fun k => I 154 (6 * t + k)) k + I 154 (6 * t + k) := w32_eq (by omega) (by omega)
    rw [e] at nx
    have v3 := w32_c o4 o5
    have v4 := w32_c o6 o7
    have v5 := w32_c o8 o9
    refine s196_4.mpr ?_
    simp only [s196_5, s196_6, s196_7, s196_8, s196_9, s196_10, s196_11, s196_12, s196_13, s196_14, s196_15, s196_16, s196_17, s196_18, s196_19, Option.toList_some, Option.toList_none, List.cons_append, List.nil_append, Nat.le_refl, true_and, and_true, true_or, or_true, false_or, or_false, true_implies, false_implies, implies_true, not_true_eq_false, not_false_eq_true, eq_self, Nat.reduceLT, Nat.reduceLeDiff, Nat.reduceEqDiff, Nat.reduceAdd, Nat.reduceSub, Int.reduceLT, Int.reduceLE, Int.reduceEq, Int.reduceNeg, Int.reduceNe, Int.reduceAdd, Int.reduceSub, Int.reduceMul, Int.reduceToNat, Int.toNat_zero, Int.toNat_one, Int.toNat_natCast, am_cats, am_cat, am_st1, am_st2, am_clr, up2_na, up2_nj, up2_same, List.getElem?_cons_zero, List.getElem?_cons_succ, List.set_cons_zero, List.set_cons_succ, ne_eq, tk_152 hh, tk_154 hh, rk_152_8 hh, u1, u4, v3, v4, v5, e9]
    exact nx
theorem k196 (hh : hp T R) {t : Nat} (t8 : t < 8) (hb : ∀ k, k < 6 → 0 ≤ I 154 (6 * t + k) ∧ I 154 (6 * t + k) ≤ 9) : wpc codeT mX d 196 [.inr (.inr (some 152)), .inl (t : Int)] (185, s, T, I, J, R) Q ↔ Q (some (.inl (useA I t))) (185, s, T, I, J, R) := wpc_det (by
  have e : swf (fun k => I 154 (6 * t + k)) 6 = useA I t := by
    show 0 + I 154 (6 * t + 0) + I 154 (6 * t + 1) + I 154 (6 * t + 2) + I 154 (6 * t + 3) + I 154 (6 * t + 4) + I 154 (6 * t + 5) = _
    unfold useA
    rw [Nat.add_zero, Int.zero_add]
  have := p196 (d := d) (s := s) (J := J) (I := I) (Q := fun v g => g = (185, s, T, I, J, R) ∧ v = some (.inl (useA I t))) hh t8 hb ⟨rfl, by rw [e]⟩ 6 0 (by omega) (by show 0 ≤ (0 : Int) ∧ (0 : Int) ≤ 9 * ((0 : Nat) : Int); decide)
  simp only [e196, s196_0, s196_1, s196_2, s196_3, Option.toList_some, Option.toList_none, List.cons_append, List.nil_append, Nat.le_refl, true_and, and_true, true_or, or_true, false_or, or_false, true_implies, false_implies, implies_true, not_true_eq_false, not_false_eq_true, eq_self, Nat.reduceLT, Nat.reduceLeDiff, Nat.reduceEqDiff, Nat.reduceAdd, Nat.reduceSub, Int.reduceLT, Int.reduceLE, Int.reduceEq, Int.reduceNeg, Int.reduceNe, Int.reduceAdd, Int.reduceSub, Int.reduceMul, Int.reduceToNat, Int.toNat_zero, Int.toNat_one, Int.toNat_natCast, am_cats, am_cat, am_st1, am_st2, am_clr, up2_na, up2_nj, up2_same, List.getElem?_cons_zero, List.getElem?_cons_succ, List.set_cons_zero, List.set_cons_succ, ne_eq]
  exact this)
theorem p195 (hh : hp T R) {k N : Nat} (hk : k < 6) (hN : I 152 3 = N) (hN8 : N ≤ 8) (hb : ∀ t k, t < N → k < 6 → 0 ≤ I 154 (6 * t + k) ∧ I 154 (6 * t + k) ≤ 9) (hQ : Q (some (.inl (pzF (fun t => I 154 (6 * t + k)) (useA I) N))) (185, s, T, I, J, R)) : ∀ (r t : Nat), t + r = N → ∀ l4, wp codeT mX (d + 1) 195 10 [some (.inr (.inr (some 152))), some (.inl (k : Int)), some (.inl (pzF (fun t => I 154 (6 * t + k)) (useA I) t)), some (.inl (t : Int)), l4] [] (185, s, T, I, J, R) Q := by
  intro r
  induction r with
  | zero =>
    intro t ht l4
    have ht : t = N := by omega
    subst ht
    refine s195_10.mpr ?_
    simp only [s195_11, s195_12, s195_13, s195_50, s195_51, Option.toList_some, Option.toList_none, List.cons_append, List.nil_append, Nat.le_refl, true_and, and_true, true_or, or_true, false_or, or_false, true_implies, false_implies, implies_true, not_true_eq_false, not_false_eq_true, eq_self, Nat.reduceLT, Nat.reduceLeDiff, Nat.reduceEqDiff, Nat.reduceAdd, Nat.reduceSub, Int.reduceLT, Int.reduceLE, Int.reduceEq, Int.reduceNeg, Int.reduceNe, Int.reduceAdd, Int.reduceSub, Int.reduceMul, Int.reduceToNat, Int.toNat_zero, Int.toNat_one, Int.toNat_natCast, am_cats, am_cat, am_st1, am_st2, am_clr, up2_na, up2_nj, up2_same, List.getElem?_cons_zero, List.getElem?_cons_succ, List.set_cons_zero, List.set_cons_succ, ne_eq, tk_152 hh, hN, Int.lt_irrefl]
    exact hQ
  | succ r ih =>
    intro t ht l4
    have nx := ih (t + 1) (by omega)
    have t8 : t < 8 := by omega
    have tN : t < N := by omega
    have u1 : (t : Int) < (N : Int) := by omega
    have u4 : 0 ≤ ((6 * t + k : Nat) : Int) ∧ ((6 * t + k : Nat) : Int) < ((48 : Nat) : Int) := by omega
    have o4 : 6 * (t : Int) = ((6 * t : Nat) : Int) := by omega
    have o5 : 6 * t ≤ 2000000000 := by omega
    have o6 : (t : Int) + 1 = ((t + 1 : Nat) : Int) := by omega
    have o7 : t + 1 ≤ 2000000000 := by omega
    have o8 : ((6 * t : Nat) : Int) + (k : Int) = ((6 * t + k : Nat) : Int) := by omega
    have o9 : 6 * t + k ≤ 2000000000 := by omega
    have e : pzF (fun t => I 154 (6 * t + k)) (useA I) (t + 1) = if 0 < I 154 (6 * t + k) ∧ (pzF (fun t => I 154 (6 * t + k)) (useA I) t = -1 ∨ w32 (I 154 (6 * (pzF (fun t => I 154 (6 * t + k)) (useA I) t).toNat + k) * useA I t) < w32 (I 154 (6 * t + k) * useA I (pzF (fun t => I 154 (6 * t + k)) (useA I) t).toNat)) then (t : Int) else pzF (fun t => I 154 (6 * t + k)) (useA I) t := rfl
    have b := pzF_bd (fun t => I 154 (6 * t + k)) (useA I) t
    rw [e] at nx
    clear hQ
    generalize pzF (fun t => I 154 (6 * t + k)) (useA I) t = p at *
    have v3 := w32_c o4 o5
    have v4 := w32_c o6 o7
    have v5 := w32_c o8 o9
    refine s195_10.mpr ?_
    by_cases h1 : 0 < I 154 (6 * t + k)
    · rcases b with b | ⟨b1, b2⟩
      · subst b
        rw [if_pos ⟨h1, Or.inl rfl⟩] at nx
        simp only [s195_11, s195_12, s195_13, s195_14, s195_15, s195_16, s195_17, s195_18, s195_19, s195_20, s195_21, s195_22, s195_23, s195_24, s195_25, s195_26, s195_27, s195_28, s195_29, s195_30, s195_31, s195_32, s195_33, s195_34, s195_35, s195_36, s195_37, s195_38, s195_39, s195_40, s195_41, s195_42, s195_43, s195_44, s195_45, s195_46, s195_47, s195_48, s195_49, Option.toList_some, Option.toList_none, List.cons_append, List.nil_append, Nat.le_refl, true_and, and_true, true_or, or_true, false_or, or_false, true_implies, false_implies, implies_true, not_true_eq_false, not_false_eq_true, eq_self, Nat.reduceLT, Nat.reduceLeDiff, Nat.reduceEqDiff, Nat.reduceAdd, Nat.reduceSub, Int.reduceLT, Int.reduceLE, Int.reduceEq, Int.reduceNeg, Int.reduceNe, Int.reduceAdd, Int.reduceSub, Int.reduceMul, Int.reduceToNat, Int.toNat_zero, Int.toNat_one, Int.toNat_natCast, am_cats, am_cat, am_st1, am_st2, am_clr, up2_na, up2_nj, up2_same, List.getElem?_cons_zero, List.getElem?_cons_succ, List.set_cons_zero, List.set_cons_succ, ne_eq, tk_152 hh, tk_154 hh, rk_152_8 hh, hN, u1, u4, v3, v4, v5, h1]
        exact nx _
      · clear v3 v4 v5
        obtain ⟨p, rfl⟩ : ∃ q : Nat, p = q := ⟨p.toNat, by omega⟩
        have p8 : p < 8 := by omega
        have pN : p < N := by omega
        have w1 : ¬ (p : Int) = -1 := by omega
        have w2 : 0 ≤ ((6 * p + k : Nat) : Int) ∧ ((6 * p + k : Nat) : Int) < ((48 : Nat) : Int) := by omega
        have o4' : 6 * (p : Int) = ((6 * p : Nat) : Int) := by omega
        have o5' : 6 * p ≤ 2000000000 := by omega
        have o8' : ((6 * p : Nat) : Int) + (k : Int) = ((6 * p + k : Nat) : Int) := by omega
        have o9' : 6 * p + k ≤ 2000000000 := by omega
        rw [Int.toNat_natCast] at nx
        have v3 := w32_c o4 o5
        have v4 := w32_c o6 o7
        have v5 := w32_c o8 o9
        have v3' := w32_c o4' o5'
        have v5' := w32_c o8' o9'
        by_cases h2 : w32 (I 154 (6 * p + k) * useA I t) < w32 (I 154 (6 * t + k) * useA I p)
        · rw [if_pos ⟨h1, Or.inr h2⟩] at nx
          simp only [s195_11, s195_12, s195_13, s195_14, s195_15, s195_16, s195_17, s195_18, s195_19, s195_20, s195_21, s195_22, s195_23, s195_24, s195_25, s195_26, s195_27, s195_28, s195_29, s195_30, s195_31, s195_32, s195_33, s195_34, s195_35, s195_36, s195_37, s195_38, s195_39, s195_40, s195_41, s195_42, s195_43, s195_44, s195_45, s195_46, s195_47, s195_48, s195_49, Option.toList_some, Option.toList_none, List.cons_append, List.nil_append, Nat.le_refl, true_and, and_true, true_or, or_true, false_or, or_false, true_implies, false_implies, implies_true, not_true_eq_false, not_false_eq_true, eq_self, Nat.reduceLT, Nat.reduceLeDiff, Nat.reduceEqDiff, Nat.reduceAdd, Nat.reduceSub, Int.reduceLT, Int.reduceLE, Int.reduceEq, Int.reduceNeg, Int.reduceNe, Int.reduceAdd, Int.reduceSub, Int.reduceMul, Int.reduceToNat, Int.toNat_zero, Int.toNat_one, Int.toNat_natCast, am_cats, am_cat, am_st1, am_st2, am_clr, up2_na, up2_nj, up2_same, List.getElem?_cons_zero, List.getElem?_cons_succ, List.set_cons_zero, List.set_cons_succ, ne_eq, tk_152 hh, tk_154 hh, rk_152_8 hh, k196 hh t8 (fun q hq => hb t q tN hq), k196 hh p8 (fun q hq => hb p q pN hq), hN, u1, u4, v3, v4, v5, v3', v5', h1, w1, w2, h2]
          exact nx _
        · rw [if_neg (fun z => z.2.elim w1 h2)] at nx
          simp only [s195_11, s195_12, s195_13, s195_14, s195_15, s195_16, s195_17, s195_18, s195_19, s195_20, s195_21, s195_22, s195_23, s195_24, s195_25, s195_26, s195_27, s195_28, s195_29, s195_30, s195_31, s195_32, s195_33, s195_34, s195_35, s195_36, s195_37, s195_38, s195_39, s195_40, s195_41, s195_42, s195_43, s195_44, s195_45, s195_46, s195_47, s195_48, s195_49, Option.toList_some, Option.toList_none, List.cons_append, List.nil_append, Nat.le_refl, true_and, and_true, true_or, or_true, false_or, or_false, true_implies, false_implies, implies_true, not_true_eq_false, not_false_eq_true, eq_self, Nat.reduceLT, Nat.reduceLeDiff, Nat.reduceEqDiff, Nat.reduceAdd, Nat.reduceSub, Int.reduceLT, Int.reduceLE, Int.reduceEq, Int.reduceNeg, Int.reduceNe, Int.reduceAdd, Int.reduceSub, Int.reduceMul, Int.reduceToNat, Int.toNat_zero, Int.toNat_one, Int.toNat_natCast, am_cats, am_cat, am_st1, am_st2, am_clr, up2_na, up2_nj, up2_same, List.getElem?_cons_zero, List.getElem?_cons_succ, List.set_cons_zero, List.set_cons_succ, ne_eq, tk_152 hh, tk_154 hh, rk_152_8 hh, k196 hh t8 (fun q hq => hb t q tN hq), k196 hh p8 (fun q hq => hb p q pN hq), hN, u1, u4, v3, v4, v5, v3', v5', h1, w1, w2, h2]
          exact nx _
    · rw [if_neg (fun z => h1 z.1)] at nx
      simp only [s195_11, s195_12, s195_13, s195_14, s195_15, s195_16, s195_17, s195_18, s195_19, s195_20, s195_21, s195_22, s195_23, s195_24, s195_25, s195_26, s195_27, s195_28, s195_29, s195_30, s195_31, s195_32, s195_33, s195_34, s195_35, s195_36, s195_37, s195_38, s195_39, s195_40, s195_41, s195_42, s195_43, s195_44, s195_45, s195_46, s195_47, s195_48, s195_49, Option.toList_some, Option.toList_none, List.cons_append, List.nil_append, Nat.le_refl, true_and, and_true, true_or, or_true, false_or, or_false, true_implies, false_implies, implies_true, not_true_eq_false, not_false_eq_true, eq_self, Nat.reduceLT, Nat.reduceLeDiff, Nat.reduceEqDiff, Nat.reduceAdd, Nat.reduceSub, Int.reduceLT, Int.reduceLE, Int.reduceEq, Int.reduceNeg, Int.reduceNe, Int.reduceAdd, Int.reduceSub, Int.reduceMul, Int.reduceToNat, Int.toNat_zero, Int.toNat_one, Int.toNat_natCast, am_cats, am_cat, am_st1, am_st2, am_clr, up2_na, up2_nj, up2_same, List.getElem?_cons_zero, List.getElem?_cons_succ, List.set_cons_zero, List.set_cons_succ, ne_eq, tk_152 hh, tk_154 hh, rk_152_8 hh, hN, u1, u4, v3, v4, v5, h1]
      exact nx _
theorem x195 (hh : hp T R) {a : Int} {N : Nat} (hN : I 152 3 = N) (hN8 : N ≤ 8) (h6 : I 152 1 ≤ 6) (hb : ∀ t k, t < N → k < 6 → 0 ≤ I 154 (6 * t + k) ∧ I 154 (6 * t + k) ≤ 9) (q0 : ¬ (0 ≤ a ∧ a < I 152 1) → Q (some (.inl (-1))) (185, s, T, I, J, R)) (q1 : ∀ k : Nat, a = k → (k : Int) < I 152 1 → Q (some (.inl (pzF (fun t => I 154 (6 * t + k)) (useA I) N))) (185, s, T, I, J, R)) : wpc codeT mX (d + 1) 195 [.inr (.inr (some 152)), .inl a] (185, s, T, I, J, R) Q := by
  by_cases hg : 0 ≤ a ∧ a < I 152 1
  · obtain ⟨k, rfl⟩ : ∃ n : Nat, a = n := ⟨a.toNat, by omega⟩
    have k6 : k < 6 := by omega
    have := p195 (d := d) (s := s) (J := J) (I := I) (Q := Q) hh k6 hN hN8 hb (q1 k rfl hg.2) N 0 (by omega) none
    simp only [s195_0, s195_1, s195_2, s195_3, s195_4, s195_5, s195_6, s195_7, s195_8, s195_9, e195, Option.toList_some, Option.toList_none, List.cons_append, List.nil_append, Nat.le_refl, true_and, and_true, true_or, or_true, false_or, or_false, true_implies, false_implies, implies_true, not_true_eq_false, not_false_eq_true, eq_self, Nat.reduceLT, Nat.reduceLeDiff, Nat.reduceEqDiff, Nat.reduceAdd, Nat.reduceSub, Int.reduceLT, Int.reduceLE, Int.reduceEq, Int.reduceNeg, Int.reduceNe, Int.reduceAdd, Int.reduceSub, Int.reduceMul, Int.reduceToNat, Int.toNat_zero, Int.toNat_one, Int.toNat_natCast, am_cats, am_cat, am_st1, am_st2, am_clr, up2_na, up2_nj, up2_same, List.getElem?_cons_zero, List.getElem?_cons_succ, List.set_cons_zero, List.set_cons_succ, ne_eq, tk_152 hh, k135 hh, i10, hg]
    exact this
  · simp only [s195_0, s195_1, s195_2, s195_3, s195_4, s195_5, e195, Option.toList_some, Option.toList_none, List.cons_append, List.nil_append, Nat.le_refl, true_and, and_true, true_or, or_true, false_or, or_false, true_implies, false_implies, implies_true, not_true_eq_false, not_false_eq_true, eq_self, Nat.reduceLT, Nat.reduceLeDiff, Nat.reduceEqDiff, Nat.reduceAdd, Nat.reduceSub, Int.reduceLT, Int.reduceLE, Int.reduceEq, Int.reduceNeg, Int.reduceNe, Int.reduceAdd, Int.reduceSub, Int.reduceMul, Int.reduceToNat, Int.toNat_zero, Int.toNat_one, Int.toNat_natCast, am_cats, am_cat, am_st1, am_st2, am_clr, up2_na, up2_nj, up2_same, List.getElem?_cons_zero, List.getElem?_cons_succ, List.set_cons_zero, List.set_cons_succ, ne_eq, tk_152 hh, k135 hh, i10, hg]
    exact q0 hg
end
section
variable {L s d : Nat} {X : Nat → Int}
theorem pr_purest (hL : L ≤ 3072) (hX : ∀ j, rg32 (X j)) (hd : 40 ≤ d) {cmp : Bool} : pr L X s LKP d 106 195 1 false cmp := by
  refine pr_mk (cx := cn115) (cm := cn163) (nx := 0) (nm := 3) hL hX (cn_all 115 (by decide) cn115 rfl) (cn_all 163 (by decide) cn163 rfl) rfl hd (fun as g hl hr hH hs hP => ?_)
  obtain ⟨a, rfl⟩ := len1 hl
  obtain ⟨c, s, T, I, J, R⟩ := g
  obtain ⟨d, rfl⟩ : ∃ e, d = e + 1 := ⟨d - 1, by omega⟩
  have hc : c = 185 := hH.1
  subst hc
  have hh := hp_of (eH5_of hH)
  have hP : LK I := hP
  obtain ⟨l0, l1, l2, l3, l4, l5, l6, l7, l8, l9, l10, l11, l12, l13, l14, l15⟩ := hP
  have e1 : I 0 1 = I 152 1 := l1
  have e3 : I 3 3 = I 152 3 := l5
  have b1 : 0 ≤ I 0 1 ∧ I 0 1 ≤ 6 := ebd hH (by decide) (by decide) (by decide)
  have b3 : 0 ≤ I 3 3 ∧ I 3 3 ≤ 8 := ebd hH (by decide) (by decide) (by decide)
  obtain ⟨N, hN⟩ : ∃ n : Nat, I 3 3 = n := ⟨(I 3 3).toNat, by omega⟩
  have hM : I 152 3 = N := e3.symm.trans hN
  have N8 : N ≤ 8 := by omega
  have keep : LKP (185, s, T, I, J, R) := ⟨l0, l1, l2, l3, l4, l5, l6, l7, l8, l9, l10, l11, l12, l13, l14, l15⟩
  have hb : ∀ t k, t < N → k < 6 → 0 ≤ I 154 (6 * t + k) ∧ I 154 (6 * t + k) ≤ 9 := by
    intro t k ht hk
    obtain ⟨z1, z2, z3, -⟩ := (l11.1 t (by omega) (by omega)).2.2.2.2.2.2.2.2.2 k hk
    rw [← z1]
    exact ⟨z2, z3⟩
  show wpc codeT mX (d + 1) 106 [.inr (.inr (some 0)), .inl a] _ _
  refine x106 hh hN N8 b1.2 (fun hg _ hH1 m1 s1 => ⟨_, rfl, ?_⟩) (fun k hk hg _ hH1 m1 s1 => ⟨_, rfl, ?_⟩)
  · show wpc codeT mX (d + 1) 195 [.inr (.inr (some 152)), .inl a] (185, s, T, I, J, R) _
    exact x195 hh hM N8 (by omega) hb (fun _ _ hH2 m2 => ⟨_, rfl, fun _ => rfl, keep⟩) (fun k hk hk2 => absurd (show 0 ≤ a ∧ a < I 0 1 by omega) hg)
  · subst hk
    show wpc codeT mX (d + 1) 195 [.inr (.inr (some 152)), .inl (k : Int)] (185, s, T, I, J, R) _
    refine x195 hh hM N8 (by omega) hb (fun h => absurd (show 0 ≤ (k : Int) ∧ (k : Int) < I 152 1 by omega) h) (fun k' hk' _ _ hH2 m2 => ⟨_, rfl, fun _ => ?_, keep⟩)
    have : k' = k := by omega
    subst this
    exact pzF_eq N (fun t ht => by
      have z := l11.1 t (by omega) (by omega)
      exact ⟨(z.2.2.2.2.2.2.2.2.2 k' (by omega)).1, z.2.2.2.2.2.2.2.1⟩)
end
