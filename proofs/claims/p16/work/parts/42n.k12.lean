/-! the law by hand, 12: next -/
theorem and255_all : ∀ n : Nat, n < 256 → (Int32.ofInt ((n : Int) - 128) &&& Int32.ofInt 255).toInt = ((n : Int) - 128) % 256 := by decide +kernel
theorem and255 {b : Int} (h1 : -128 ≤ b) (h2 : b ≤ 127) : (Int32.ofInt b &&& Int32.ofInt 255).toInt = b % 256 := by
  have := and255_all (b + 128).toNat (by omega)
  rwa [show (((b + 128).toNat : Nat) : Int) - 128 = b by omega] at this
/-- whether a task is right without some stores -/
def dwF (m u v : Int) : Int := if m = 0 then (if (Int32.ofInt u &&& Int32.ofInt v).toInt = 0 then 1 else 0) else (if (Int32.ofInt u &&& Int32.ofInt (Int32.ofInt v ^^^ Int32.ofInt (-1)).toInt).toInt = 0 then 0 else 1)
theorem dwF_01 (m u v : Int) : dwF m u v = 0 ∨ dwF m u v = 1 := by
  unfold dwF
  split <;> split <;> first | exact Or.inl rfl | exact Or.inr rfl
def swf (f : Nat → Int) : Nat → Int
  | 0 => 0
  | k + 1 => swf f k + f k
theorem swf_bd {f : Nat → Int} (h : ∀ i, f i = 0 ∨ f i = 1) : ∀ k, 0 ≤ swf f k ∧ swf f k ≤ k
  | 0 => ⟨Int.le_refl _, Int.le_refl _⟩
  | k + 1 => by
    have := swf_bd h k
    have := h k
    show 0 ≤ swf f k + f k ∧ swf f k + f k ≤ ((k + 1 : Nat) : Int)
    omega
theorem swf_eq {f g : Nat → Int} : ∀ k, (∀ i, i < k → f i = g i) → swf f k = swf g k
  | 0, _ => rfl
  | k + 1, h => by
    show swf f k + f k = swf g k + g k
    rw [swf_eq k (fun i hi => h i (by omega)), h k (by omega)]
/-- the best so far -/
def bmP (P : Nat → Int) : Nat → Int × Int
  | 0 => (0, P 0)
  | k + 1 => if (bmP P k).2 < P (k + 1) then (((k + 1 : Nat) : Int), P (k + 1)) else bmP P k
theorem bmP_eq {P P' : Nat → Int} : ∀ k, (∀ i, i ≤ k → P i = P' i) → bmP P k = bmP P' k
  | 0, h => by show ((0 : Int), P 0) = (0, P' 0); rw [h 0 (Nat.le_refl _)]
  | k + 1, h => by
    show (if (bmP P k).2 < P (k + 1) then (((k + 1 : Nat) : Int), P (k + 1)) else bmP P k) = (if (bmP P' k).2 < P' (k + 1) then (((k + 1 : Nat) : Int), P' (k + 1)) else bmP P' k)
    rw [bmP_eq k (fun i hi => h i (by omega)), h (k + 1) (Nat.le_refl _)]
def allL (V : Nat → Int) (lim : Int) (n : Nat) : Prop := ∀ i, i < n → V i < lim
section
variable {d s : Nat} {T : Nat → Nat × Nat} {I J : Nat → Nat → Int} {R : Nat → Nat → Option Nat} {Q : Option AV → AH → Prop}
theorem k102 (hh : hp T R) {t : Nat} {v : Int} (t8 : t < 8) : wpc codeT mX d 102 [.inr (.inr (some 3)), .inl (t : Int), .inl v] (185, s, T, I, J, R) Q ↔ Q (some (.inl (dwF (I 13 t) (I 15 t) v))) (185, s, T, I, J, R) := wpc_det (by
  have u : 0 ≤ (t : Int) ∧ (t : Int) < ((8 : Nat) : Int) := by omega
  simp only [e102, s102_0, s102_1, s102_2, s102_3, s102_4, s102_5, s102_6, s102_7, s102_8, s102_9, s102_10, s102_11, s102_12, s102_13, s102_14, s102_15, s102_16, s102_17, s102_18, s102_19, s102_20, s102_21, s102_22, s102_23, s102_24, s102_25, s102_26, s102_27, s102_28, Option.toList_some, Option.toList_none, List.cons_append, List.nil_append, Nat.le_refl, true_and, and_true, true_or, or_true, false_or, or_false, true_implies, false_implies, implies_true, not_true_eq_false, not_false_eq_true, eq_self, Nat.reduceLT, Nat.reduceLeDiff, Nat.reduceEqDiff, Nat.reduceAdd, Nat.reduceSub, Int.reduceLT, Int.reduceLE, Int.reduceEq, Int.reduceNeg, Int.reduceNe, Int.reduceAdd, Int.reduceSub, Int.reduceMul, Int.reduceToNat, Int.toNat_zero, Int.toNat_one, Int.toNat_natCast, am_cats, am_cat, am_st1, am_st2, am_clr, up2_na, up2_nj, up2_same, List.getElem?_cons_zero, List.getElem?_cons_succ, List.set_cons_zero, List.set_cons_succ, ne_eq, tk_3 hh, tk_13 hh, tk_15 hh, rk_3_1 hh, rk_3_4 hh, u]
  unfold dwF
  refine ⟨fun h => ⟨fun h2 => ?_, fun h2 => ?_⟩, fun h => ⟨fun h2 => ?_, fun h2 => ?_⟩⟩
  · rw [if_pos h, if_pos h2]
  · rw [if_pos h, if_neg h2]
  · rw [if_neg h, if_pos h2]
  · rw [if_neg h, if_neg h2])
theorem or_sh : ∀ k : Nat, k < 6 → ∀ v : Nat, v < 2 ^ k → (Int32.ofInt (v : Int) ||| Int32.ofInt (Int32.ofInt 1 <<< (Int32.ofInt (k : Int) &&& 31)).toInt).toInt = ((v + 2 ^ k : Nat) : Int) := by decide +kernel
def ubN (I : Nat → Nat → Int) (t : Nat) : Nat → Nat
  | 0 => 0
  | k + 1 => ubN I t k + (if 0 < I 154 (6 * t + k) then 2 ^ k else 0)
theorem ubN_lt (I : Nat → Nat → Int) (t : Nat) : ∀ k, ubN I t k < 2 ^ k
  | 0 => Nat.one_pos
  | k + 1 => by
    have := ubN_lt I t k
    show ubN I t k + (if 0 < I 154 (6 * t + k) then 2 ^ k else 0) < 2 ^ (k + 1)
    rw [Nat.pow_succ]
    split <;> omega
theorem ubN_6 (I : Nat → Nat → Int) (t : Nat) : (ubN I t 6 : Int) = useB I t := by
  have b : ∀ (x : Int) (j : Nat), ((if 0 < x then 2 ^ j else 0 : Nat) : Int) = bit1 x ((2 ^ j : Nat) : Int) := by
    intro x j
    unfold bit1
    by_cases h : 0 < x
    · rw [if_pos h, if_pos h]
    · rw [if_neg h, if_neg h]; rfl
  have b0 := b (I 154 (6 * t + 0)) 0
  have b1 := b (I 154 (6 * t + 1)) 1
  have b2 := b (I 154 (6 * t + 2)) 2
  have b3 := b (I 154 (6 * t + 3)) 3
  have b4 := b (I 154 (6 * t + 4)) 4
  have b5 := b (I 154 (6 * t + 5)) 5
  unfold useB
  rw [show (1 : Int) = ((2 ^ 0 : Nat) : Int) from rfl, show (2 : Int) = ((2 ^ 1 : Nat) : Int) from rfl, show (4 : Int) = ((2 ^ 2 : Nat) : Int) from rfl, show (8 : Int) = ((2 ^ 3 : Nat) : Int) from rfl, show (16 : Int) = ((2 ^ 4 : Nat) : Int) from rfl, show (32 : Int) = ((2 ^ 5 : Nat) : Int) from rfl, ← b1, ← b2, ← b3, ← b4, ← b5]
  rw [Nat.add_zero] at b0
  rw [← b0]
  show ((0 + (if 0 < I 154 (6 * t + 0) then 2 ^ 0 else 0) + (if 0 < I 154 (6 * t + 1) then 2 ^ 1 else 0) + (if 0 < I 154 (6 * t + 2) then 2 ^ 2 else 0) + (if 0 < I 154 (6 * t + 3) then 2 ^ 3 else 0) + (if 0 < I 154 (6 * t + 4) then 2 ^ 4 else 0) + (if 0 < I 154 (6 * t + 5) then 2 ^ 5 else 0) : Nat) : Int) = _
  rw [Nat.add_zero]
  generalize (if 0 < I 154 (6 * t) then 2 ^ 0 else 0 : Nat) = x0
  generalize (if 0 < I 154 (6 * t + 1) then 2 ^ 1 else 0 : Nat) = x1
  generalize (if 0 < I 154 (6 * t + 2) then 2 ^ 2 else 0 : Nat) = x2
  generalize (if 0 < I 154 (6 * t + 3) then 2 ^ 3 else 0 : Nat) = x3
  generalize (if 0 < I 154 (6 * t + 4) then 2 ^ 4 else 0 : Nat) = x4
  generalize (if 0 < I 154 (6 * t + 5) then 2 ^ 5 else 0 : Nat) = x5
  omega
theorem p192 (hh : hp T R) {t : Nat} (t8 : t < 8) (hQ : Q (some (.inl (ubN I t 6 : Int))) (185, s, T, I, J, R)) : ∀ (r k : Nat), k + r = 6 → wp codeT mX d 192 4 [some (.inr (.inr (some 152))), some (.inl (t : Int)), some (.inl (ubN I t k : Int)), some (.inl (k : Int))] [] (185, s, T, I, J, R) Q := by
  intro r
  induction r with
  | zero =>
    intro k hk
    have hk : k = 6 := by omega
    subst hk
    have u : ¬ ((6 : Nat) : Int) < 6 := by decide
    refine s192_4.mpr ?_
    simp only [s192_5, s192_6, s192_26, s192_27, Option.toList_some, Option.toList_none, List.cons_append, List.nil_append, Nat.le_refl, true_and, and_true, true_or, or_true, false_or, or_false, true_implies, false_implies, implies_true, not_true_eq_false, not_false_eq_true, eq_self, Nat.reduceLT, Nat.reduceLeDiff, Nat.reduceEqDiff, Nat.reduceAdd, Nat.reduceSub, Int.reduceLT, Int.reduceLE, Int.reduceEq, Int.reduceNeg, Int.reduceNe, Int.reduceAdd, Int.reduceSub, Int.reduceMul, Int.reduceToNat, Int.toNat_zero, Int.toNat_one, Int.toNat_natCast, am_cats, am_cat, am_st1, am_st2, am_clr, up2_na, up2_nj, up2_same, List.getElem?_cons_zero, List.getElem?_cons_succ, List.set_cons_zero, List.set_cons_succ, ne_eq, u]
    exact hQ
  | succ r ih =>
    intro k hk
    have nx := ih (k + 1) (by omega)
    have u1 : (k : Int) < 6 := by omega
    have u4 : 0 ≤ ((6 * t + k : Nat) : Int) ∧ ((6 * t + k : Nat) : Int) < ((48 : Nat) : Int) := by omega
    have o4 : 6 * (t : Int) = ((6 * t : Nat) : Int) := by omega
    have o5 : 6 * t ≤ 2000000000 := by omega
    have o6 : (k : Int) + 1 = ((k + 1 : Nat) : Int) := by omega
    have o7 : k + 1 ≤ 2000000000 := by omega
    have o8 : ((6 * t : Nat) : Int) + (k : Int) = ((6 * t + k : Nat) : Int) := by omega
    have o9 : 6 * t + k ≤ 2000000000 := by omega
    have hlt := ubN_lt I t k
    have k31 : k < 31 := by omega
    have k6 : k < 6 := by omega
    have e : ubN I t (k + 1) = ubN I t k + (if 0 < I 154 (6 * t + k) then 2 ^ k else 0) := rfl
    have v3 := w32_c o4 o5
    have v4 := w32_c o6 o7
    have v5 := w32_c o8 o9
    refine s192_4.mpr ?_
    by_cases hb : 0 < I 154 (6 * t + k)
    · rw [if_pos hb] at e
      have or1 := or_sh k k6 _ hlt
      rw [← e] at or1
      simp only [s192_5, s192_6, s192_7, s192_8, s192_9, s192_10, s192_11, s192_12, s192_13, s192_14, s192_15, s192_16, s192_17, s192_18, s192_19, s192_20, s192_21, s192_22, s192_23, s192_24, s192_25, Option.toList_some, Option.toList_none, List.cons_append, List.nil_append, Nat.le_refl, true_and, and_true, true_or, or_true, false_or, or_false, true_implies, false_implies, implies_true, not_true_eq_false, not_false_eq_true, eq_self, Nat.reduceLT, Nat.reduceLeDiff, Nat.reduceEqDiff, Nat.reduceAdd, Nat.reduceSub, Int.reduceLT, Int.reduceLE, Int.reduceEq, Int.reduceNeg, Int.reduceNe, Int.reduceAdd, Int.reduceSub, Int.reduceMul, Int.reduceToNat, Int.toNat_zero, Int.toNat_one, Int.toNat_natCast, am_cats, am_cat, am_st1, am_st2, am_clr, up2_na, up2_nj, up2_same, List.getElem?_cons_zero, List.getElem?_cons_succ, List.set_cons_zero, List.set_cons_succ, ne_eq, tk_152 hh, tk_154 hh, rk_152_8 hh, u1, u4, v3, v4, v5, hb, or1]
      exact nx
    · rw [if_neg hb, Nat.add_zero] at e
      rw [e] at nx
      simp only [s192_5, s192_6, s192_7, s192_8, s192_9, s192_10, s192_11, s192_12, s192_13, s192_14, s192_15, s192_16, s192_17, s192_18, s192_19, s192_20, s192_21, s192_22, s192_23, s192_24, s192_25, Option.toList_some, Option.toList_none, List.cons_append, List.nil_append, Nat.le_refl, true_and, and_true, true_or, or_true, false_or, or_false, true_implies, false_implies, implies_true, not_true_eq_false, not_false_eq_true, eq_self, Nat.reduceLT, Nat.reduceLeDiff, Nat.reduceEqDiff, Nat.reduceAdd, Nat.reduceSub, Int.reduceLT, Int.reduceLE, Int.reduceEq, Int.reduceNeg, Int.reduceNe, Int.reduceAdd, Int.reduceSub, Int.reduceMul, Int.reduceToNat, Int.toNat_zero, Int.toNat_one, Int.toNat_natCast, am_cats, am_cat, am_st1, am_st2, am_clr, up2_na, up2_nj, up2_same, List.getElem?_cons_zero, List.getElem?_cons_succ, List.set_cons_zero, List.set_cons_succ, ne_eq, tk_152 hh, tk_154 hh, rk_152_8 hh, u1, u4, v3, v4, v5, hb]
      exact nx
theorem k192 (hh : hp T R) {t : Nat} (t8 : t < 8) : wpc codeT mX d 192 [.inr (.inr (some 152)), .inl (t : Int)] (185, s, T, I, J, R) Q ↔ Q (some (.inl (useB I t))) (185, s, T, I, J, R) := wpc_det (by
  have := p192 (d := d) (s := s) (J := J) (I := I) (Q := fun v g => g = (185, s, T, I, J, R) ∧ v = some (.inl (useB I t))) hh t8 ⟨rfl, by rw [ubN_6]⟩ 6 0 (by omega)
  simp only [e192, s192_0, s192_1, s192_2, s192_3, Option.toList_some, Option.toList_none, List.cons_append, List.nil_append, Nat.le_refl, true_and, and_true, true_or, or_true, false_or, or_false, true_implies, false_implies, implies_true, not_true_eq_false, not_false_eq_true, eq_self, Nat.reduceLT, Nat.reduceLeDiff, Nat.reduceEqDiff, Nat.reduceAdd, Nat.reduceSub, Int.reduceLT, Int.reduceLE, Int.reduceEq, Int.reduceNeg, Int.reduceNe, Int.reduceAdd, Int.reduceSub, Int.reduceMul, Int.reduceToNat, Int.toNat_zero, Int.toNat_one, Int.toNat_natCast, am_cats, am_cat, am_st1, am_st2, am_clr, up2_na, up2_nj, up2_same, List.getElem?_cons_zero, List.getElem?_cons_succ, List.set_cons_zero, List.set_cons_succ, ne_eq]
  exact this)
theorem k191 (hh : hp T R) {t : Nat} {v : Int} (t8 : t < 8) : wpc codeT mX (d + 1) 191 [.inr (.inr (some 152)), .inl (t : Int), .inl v] (185, s, T, I, J, R) Q ↔ Q (some (.inl (dwF (I 155 t) (useB I t) v))) (185, s, T, I, J, R) := wpc_det (by
  have u : 0 ≤ (t : Int) ∧ (t : Int) < ((8 : Nat) : Int) := by omega
  simp only [e191, s191_0, s191_1, s191_2, s191_3, s191_4, s191_5, s191_6, s191_7, s191_8, s191_9, s191_10, s191_11, s191_12, s191_13, s191_14, s191_15, s191_16, s191_17, s191_18, s191_19, s191_20, s191_21, s191_22, s191_23, Option.toList_some, Option.toList_none, List.cons_append, List.nil_append, Nat.le_refl, true_and, and_true, true_or, or_true, false_or, or_false, true_implies, false_implies, implies_true, not_true_eq_false, not_false_eq_true, eq_self, Nat.reduceLT, Nat.reduceLeDiff, Nat.reduceEqDiff, Nat.reduceAdd, Nat.reduceSub, Int.reduceLT, Int.reduceLE, Int.reduceEq, Int.reduceNeg, Int.reduceNe, Int.reduceAdd, Int.reduceSub, Int.reduceMul, Int.reduceToNat, Int.toNat_zero, Int.toNat_one, Int.toNat_natCast, am_cats, am_cat, am_st1, am_st2, am_clr, up2_na, up2_nj, up2_same, List.getElem?_cons_zero, List.getElem?_cons_succ, List.set_cons_zero, List.set_cons_succ, ne_eq, tk_152 hh, tk_155 hh, rk_152_9 hh, k192 hh t8, u]
  unfold dwF
  refine ⟨fun h => ⟨fun h2 => ?_, fun h2 => ?_⟩, fun h => ⟨fun h2 => ?_, fun h2 => ?_⟩⟩
  · rw [if_pos h, if_pos h2]
  · rw [if_pos h, if_neg h2]
  · rw [if_neg h, if_pos h2]
  · rw [if_neg h, if_neg h2])
/-- the class: are all guesses such -/
theorem p104 (hh : hp T R) {n S : Nat} (hn : n ≤ 200) (hS : I 0 1 = S) (hS6 : S ≤ 6) {lim : Int} (hl : lim = 2 ^ S) (q0 : ¬ allL (I 2) lim n → Q (some (.inl 0)) (185, s, T, I, J, R)) (q1 : allL (I 2) lim n → Q (some (.inl 1)) (185, s, T, I, J, R)) : ∀ (r i : Nat), i + r = n → allL (I 2) lim i → wp codeT mX d 104 2 [some (.inr (.inr (some 0))), some (.inl (n : Int)), some (.inl (i : Int))] [] (185, s, T, I, J, R) Q := by
  intro r
  induction r with
  | zero =>
    intro i hi ha
    have hi : i = n := by omega
    subst hi
    refine s104_2.mpr ?_
    simp only [s104_3, s104_4, s104_19, s104_20, Option.toList_some, Option.toList_none, List.cons_append, List.nil_append, Nat.le_refl, true_and, and_true, true_or, or_true, false_or, or_false, true_implies, false_implies, implies_true, not_true_eq_false, not_false_eq_true, eq_self, Nat.reduceLT, Nat.reduceLeDiff, Nat.reduceEqDiff, Nat.reduceAdd, Nat.reduceSub, Int.reduceLT, Int.reduceLE, Int.reduceEq, Int.reduceNeg, Int.reduceNe, Int.reduceAdd, Int.reduceSub, Int.reduceMul, Int.reduceToNat, Int.toNat_zero, Int.toNat_one, Int.toNat_natCast, am_cats, am_cat, am_st1, am_st2, am_clr, up2_na, up2_nj, up2_same, List.getElem?_cons_zero, List.getElem?_cons_succ, List.set_cons_zero, List.set_cons_succ, ne_eq, Int.lt_irrefl]
    exact q1 ha
  | succ r ih =>
    intro i hi ha
    have u1 : (i : Int) < (n : Int) := by omega
    have u2 : 0 ≤ (i : Int) ∧ (i : Int) < ((200 : Nat) : Int) := by omega
    have o6 : (i : Int) + 1 = ((i + 1 : Nat) : Int) := by omega
    have o7 : i + 1 ≤ 2000000000 := by omega
    have sh := shl1_all S (by omega)
    rw [← hl] at sh
    have v4 := w32_c o6 o7
    refine s104_2.mpr ?_
    by_cases hb : I 2 i < lim
    · have nx := ih (i + 1) (by omega) (fun q hq => by
        by_cases e : q = i
        · rw [e]; exact hb
        · exact ha q (by omega))
      simp only [s104_3, s104_4, s104_5, s104_6, s104_7, s104_8, s104_9, s104_10, s104_11, s104_12, s104_13, s104_14, s104_15, s104_16, s104_17, s104_18, Option.toList_some, Option.toList_none, List.cons_append, List.nil_append, Nat.le_refl, true_and, and_true, true_or, or_true, false_or, or_false, true_implies, false_implies, implies_true, not_true_eq_false, not_false_eq_true, eq_self, Nat.reduceLT, Nat.reduceLeDiff, Nat.reduceEqDiff, Nat.reduceAdd, Nat.reduceSub, Int.reduceLT, Int.reduceLE, Int.reduceEq, Int.reduceNeg, Int.reduceNe, Int.reduceAdd, Int.reduceSub, Int.reduceMul, Int.reduceToNat, Int.toNat_zero, Int.toNat_one, Int.toNat_natCast, am_cats, am_cat, am_st1, am_st2, am_clr, up2_na, up2_nj, up2_same, List.getElem?_cons_zero, List.getElem?_cons_succ, List.set_cons_zero, List.set_cons_succ, ne_eq, tk_0 hh, tk_1 hh, tk_2 hh, rk_0_5 hh, rk_1_0 hh, hS, sh, u1, u2, v4, hb]
      exact nx
    · simp only [s104_3, s104_4, s104_5, s104_6, s104_7, s104_8, s104_9, s104_10, s104_11, s104_12, s104_13, s104_14, s104_15, s104_16, Option.toList_some, Option.toList_none, List.cons_append, List.nil_append, Nat.le_refl, true_and, and_true, true_or, or_true, false_or, or_false, true_implies, false_implies, implies_true, not_true_eq_false, not_false_eq_true, eq_self, Nat.reduceLT, Nat.reduceLeDiff, Nat.reduceEqDiff, Nat.reduceAdd, Nat.reduceSub, Int.reduceLT, Int.reduceLE, Int.reduceEq, Int.reduceNeg, Int.reduceNe, Int.reduceAdd, Int.reduceSub, Int.reduceMul, Int.reduceToNat, Int.toNat_zero, Int.toNat_one, Int.toNat_natCast, am_cats, am_cat, am_st1, am_st2, am_clr, up2_na, up2_nj, up2_same, List.getElem?_cons_zero, List.getElem?_cons_succ, List.set_cons_zero, List.set_cons_succ, ne_eq, tk_0 hh, tk_1 hh, tk_2 hh, rk_0_5 hh, rk_1_0 hh, hS, sh, u1, u2, hb]
      exact q0 (fun z => hb (z i (by omega)))
theorem x104 (hh : hp T R) {n S : Nat} (hn : n ≤ 200) (hS : I 0 1 = S) (hS6 : S ≤ 6) (q0 : ¬ allL (I 2) (2 ^ S) n → Q (some (.inl 0)) (185, s, T, I, J, R)) (q1 : allL (I 2) (2 ^ S) n → Q (some (.inl 1)) (185, s, T, I, J, R)) : wpc codeT mX d 104 [.inr (.inr (some 0)), .inl (n : Int)] (185, s, T, I, J, R) Q := by
  have := p104 (d := d) (s := s) (J := J) hh hn hS hS6 rfl q0 q1 n 0 (by omega) (fun q hq => absurd hq (Nat.not_lt_zero q))
  simp only [e104, s104_0, s104_1, Option.toList_some, Option.toList_none, List.cons_append, List.nil_append, Nat.le_refl, true_and, and_true, true_or, or_true, false_or, or_false, true_implies, false_implies, implies_true, not_true_eq_false, not_false_eq_true, eq_self, Nat.reduceLT, Nat.reduceLeDiff, Nat.reduceEqDiff, Nat.reduceAdd, Nat.reduceSub, Int.reduceLT, Int.reduceLE, Int.reduceEq, Int.reduceNeg, Int.reduceNe, Int.reduceAdd, Int.reduceSub, Int.reduceMul, Int.reduceToNat, Int.toNat_zero, Int.toNat_one, Int.toNat_natCast, am_cats, am_cat, am_st1, am_st2, am_clr, up2_na, up2_nj, up2_same, List.getElem?_cons_zero, List.getElem?_cons_succ, List.set_cons_zero, List.set_cons_succ, ne_eq]
  exact this
/-- the class: pairs parted -/
def ppX (I : Nat → Nat → Int) (n t : Nat) : Int := swf (fun i => dwF (I 13 t) (I 15 t) (I 2 i)) n * ((n : Int) - swf (fun i => dwF (I 13 t) (I 15 t) (I 2 i)) n)
def ppM (I : Nat → Nat → Int) (n t : Nat) : Int := swf (fun i => dwF (I 155 t) (useB I t) (I 162 i % 256)) n * ((n : Int) - swf (fun i => dwF (I 155 t) (useB I t) (I 162 i % 256)) n)
theorem pp_bd {a n : Int} (h1 : 0 ≤ a) (h2 : a ≤ n) (h3 : n ≤ 6) : 0 ≤ a * (n - a) ∧ a * (n - a) ≤ 36 := by
  have := Int.mul_nonneg h1 (show 0 ≤ n - a by omega)
  have := Int.mul_le_mul (show a ≤ 6 by omega) (show n - a ≤ 6 by omega) (show 0 ≤ n - a by omega) (by decide)
  omega
theorem p105 (hh : hp T R) {n t : Nat} (hn : n ≤ 6) (t8 : t < 8) (hQ : Q (some (.inl (ppX I n t))) (185, s, T, I, J, R)) : ∀ (r i : Nat), i + r = n → wp codeT mX (d + 1) 105 4 [some (.inr (.inr (some 0))), some (.inl (t : Int)), some (.inl (n : Int)), some (.inl (swf (fun i => dwF (I 13 t) (I 15 t) (I 2 i)) i)), some (.inl (i : Int))] [] (185, s, T, I, J, R) Q := by
  intro r
  induction r with
  | zero =>
    intro i hi
    have hi : i = n := by omega
    subst hi
    have b := swf_bd (f := fun j => dwF (I 13 t) (I 15 t) (I 2 j)) (fun j => dwF_01 _ _ _) i
    have p := pp_bd b.1 b.2 (by omega)
    have hQ' := hQ
    unfold ppX at hQ'
    generalize swf (fun j => dwF (I 13 t) (I 15 t) (I 2 j)) i = a at *
    have e1 : w32 ((i : Int) - a) = (i : Int) - a := w32_eq (by omega) (by omega)
    have e2 : w32 (a * ((i : Int) - a)) = a * ((i : Int) - a) := w32_eq (by omega) (by omega)
    refine s105_4.mpr ?_
    simp only [s105_5, s105_6, s105_25, s105_26, s105_27, s105_28, s105_29, s105_30, Option.toList_some, Option.toList_none, List.cons_append, List.nil_append, Nat.le_refl, true_and, and_true, true_or, or_true, false_or, or_false, true_implies, false_implies, implies_true, not_true_eq_false, not_false_eq_true, eq_self, Nat.reduceLT, Nat.reduceLeDiff, Nat.reduceEqDiff, Nat.reduceAdd, Nat.reduceSub, Int.reduceLT, Int.reduceLE, Int.reduceEq, Int.reduceNeg, Int.reduceNe, Int.reduceAdd, Int.reduceSub, Int.reduceMul, Int.reduceToNat, Int.toNat_zero, Int.toNat_one, Int.toNat_natCast, am_cats, am_cat, am_st1, am_st2, am_clr, up2_na, up2_nj, up2_same, List.getElem?_cons_zero, List.getElem?_cons_succ, List.set_cons_zero, List.set_cons_succ, ne_eq, Int.lt_irrefl, e1, e2]
    exact hQ'
  | succ r ih =>
    intro i hi
    have nx := ih (i + 1) (by omega)
    have u1 : (i : Int) < (n : Int) := by omega
    have u2 : 0 ≤ (i : Int) ∧ (i : Int) < ((200 : Nat) : Int) := by omega
    have o6 : (i : Int) + 1 = ((i + 1 : Nat) : Int) := by omega
    have o7 : i + 1 ≤ 2000000000 := by omega
    have b := swf_bd (f := fun j => dwF (I 13 t) (I 15 t) (I 2 j)) (fun j => dwF_01 _ _ _) i
    have e : swf (fun j => dwF (I 13 t) (I 15 t) (I 2 j)) (i + 1) = swf (fun j => dwF (I 13 t) (I 15 t) (I 2 j)) i + dwF (I 13 t) (I 15 t) (I 2 i) := rfl
    rw [e] at nx
    generalize swf (fun j => dwF (I 13 t) (I 15 t) (I 2 j)) i = a at *
    have i6 : i < 6 := by omega
    refine s105_4.mpr ?_
    rcases dwF_01 (I 13 t) (I 15 t) (I 2 i) with hw | hw
    · rw [hw, Int.add_zero] at nx
      have e2 : w32 (a + 0) = a := (w32_eq (by omega) (by omega)).trans (by omega)
      have v4 := w32_c o6 o7
      simp only [s105_5, s105_6, s105_7, s105_8, s105_9, s105_10, s105_11, s105_12, s105_13, s105_14, s105_15, s105_16, s105_17, s105_18, s105_19, s105_20, s105_21, s105_22, s105_23, s105_24, Option.toList_some, Option.toList_none, List.cons_append, List.nil_append, Nat.le_refl, true_and, and_true, true_or, or_true, false_or, or_false, true_implies, false_implies, implies_true, not_true_eq_false, not_false_eq_true, eq_self, Nat.reduceLT, Nat.reduceLeDiff, Nat.reduceEqDiff, Nat.reduceAdd, Nat.reduceSub, Int.reduceLT, Int.reduceLE, Int.reduceEq, Int.reduceNeg, Int.reduceNe, Int.reduceAdd, Int.reduceSub, Int.reduceMul, Int.reduceToNat, Int.toNat_zero, Int.toNat_one, Int.toNat_natCast, am_cats, am_cat, am_st1, am_st2, am_clr, up2_na, up2_nj, up2_same, List.getElem?_cons_zero, List.getElem?_cons_succ, List.set_cons_zero, List.set_cons_succ, ne_eq, tk_0 hh, tk_1 hh, tk_2 hh, rk_0_5 hh, rk_0_6 hh, rk_1_0 hh, tk_3 hh, k102 hh t8, u1, u2, v4, hw, e2]
      exact nx
    · rw [hw] at nx
      have e2 : w32 (a + 1) = a + 1 := w32_eq (by omega) (by omega)
      have v4 := w32_c o6 o7
      simp only [s105_5, s105_6, s105_7, s105_8, s105_9, s105_10, s105_11, s105_12, s105_13, s105_14, s105_15, s105_16, s105_17, s105_18, s105_19, s105_20, s105_21, s105_22, s105_23, s105_24, Option.toList_some, Option.toList_none, List.cons_append, List.nil_append, Nat.le_refl, true_and, and_true, true_or, or_true, false_or, or_false, true_implies, false_implies, implies_true, not_true_eq_false, not_false_eq_true, eq_self, Nat.reduceLT, Nat.reduceLeDiff, Nat.reduceEqDiff, Nat.reduceAdd, Nat.reduceSub, Int.reduceLT, Int.reduceLE, Int.reduceEq, Int.reduceNeg, Int.reduceNe, Int.reduceAdd, Int.reduceSub, Int.reduceMul, Int.reduceToNat, Int.toNat_zero, Int.toNat_one, Int.toNat_natCast, am_cats, am_cat, am_st1, am_st2, am_clr, up2_na, up2_nj, up2_same, List.getElem?_cons_zero, List.getElem?_cons_succ, List.set_cons_zero, List.set_cons_succ, ne_eq, tk_0 hh, tk_1 hh, tk_2 hh, rk_0_5 hh, rk_0_6 hh, rk_1_0 hh, tk_3 hh, k102 hh t8, u1, u2, v4, hw, e2]
      exact nx
theorem k105 (hh : hp T R) {n t : Nat} (hn : n ≤ 6) (t8 : t < 8) : wpc codeT mX (d + 1) 105 [.inr (.inr (some 0)), .inl (t : Int), .inl (n : Int)] (185, s, T, I, J, R) Q ↔ Q (some (.inl (ppX I n t))) (185, s, T, I, J, R) := wpc_det (by
  have := p105 (d := d) (s := s) (J := J) (I := I) (Q := fun v g => g = (185, s, T, I, J, R) ∧ v = some (.inl (ppX I n t))) hh hn t8 ⟨rfl, rfl⟩ n 0 (by omega)
  simp only [e105, s105_0, s105_1, s105_2, s105_3, Option.toList_some, Option.toList_none, List.cons_append, List.nil_append, Nat.le_refl, true_and, and_true, true_or, or_true, false_or, or_false, true_implies, false_implies, implies_true, not_true_eq_false, not_false_eq_true, eq_self, Nat.reduceLT, Nat.reduceLeDiff, Nat.reduceEqDiff, Nat.reduceAdd, Nat.reduceSub, Int.reduceLT, Int.reduceLE, Int.reduceEq, Int.reduceNeg, Int.reduceNe, Int.reduceAdd, Int.reduceSub, Int.reduceMul, Int.reduceToNat, Int.toNat_zero, Int.toNat_one, Int.toNat_natCast, am_cats, am_cat, am_st1, am_st2, am_clr, up2_na, up2_nj, up2_same, List.getElem?_cons_zero, List.getElem?_cons_succ, List.set_cons_zero, List.set_cons_succ, ne_eq]
  exact this)
/-- the answer of next -/
def nxA (w : Int) (N : Nat) (P : Nat → Int) : Int := if N = 0 then -2 else if w = 0 then (bmP P (N - 1)).1 else (bmP P (N - 1)).2
theorem p103 (hh : hp T R) {n N : Nat} (hn : n ≤ 6) (hN : I 3 3 = (N + 1 : Nat)) (hN8 : N < 8) {w : Int} (hQ : Q (some (.inl (nxA w (N + 1) (ppX I n)))) (185, s, T, I, J, R)) : ∀ (r k : Nat), k + r = N → ∀ l6, wp codeT mX (d + 2) 103 41 [some (.inr (.inr (some 0))), some (.inl (n : Int)), some (.inl w), some (.inl (bmP (ppX I n) k).1), some (.inl (bmP (ppX I n) k).2), some (.inl ((k + 1 : Nat) : Int)), l6] [] (185, s, T, I, J, R) Q := by
  intro r
  induction r with
  | zero =>
    intro k hk l6
    have hk : k = N := by omega
    subst hk
    have hQ' : Q (some (.inl (if w = 0 then (bmP (ppX I n) k).1 else (bmP (ppX I n) k).2))) (185, s, T, I, J, R) := hQ
    refine s103_41.mpr ?_
    simp only [s103_42, s103_43, s103_44, s103_45, s103_60, s103_61, s103_62, s103_63, s103_64, s103_65, Option.toList_some, Option.toList_none, List.cons_append, List.nil_append, Nat.le_refl, true_and, and_true, true_or, or_true, false_or, or_false, true_implies, false_implies, implies_true, not_true_eq_false, not_false_eq_true, eq_self, Nat.reduceLT, Nat.reduceLeDiff, Nat.reduceEqDiff, Nat.reduceAdd, Nat.reduceSub, Int.reduceLT, Int.reduceLE, Int.reduceEq, Int.reduceNeg, Int.reduceNe, Int.reduceAdd, Int.reduceSub, Int.reduceMul, Int.reduceToNat, Int.toNat_zero, Int.toNat_one, Int.toNat_natCast, am_cats, am_cat, am_st1, am_st2, am_clr, up2_na, up2_nj, up2_same, List.getElem?_cons_zero, List.getElem?_cons_succ, List.set_cons_zero, List.set_cons_succ, ne_eq, tk_0 hh, tk_3 hh, rk_0_6 hh, hN, Int.lt_irrefl]
    refine ⟨fun h => ?_, fun h => ?_⟩
    · rw [if_pos h] at hQ'; exact hQ'
    · rw [if_neg h] at hQ'; exact hQ'
  | succ r ih =>
    intro k hk l6
    have nx := ih (k + 1) (by omega) (some (.inl (ppX I n (k + 1))))
    have k8 : k + 1 < 8 := by omega
    have u1 : ((k + 1 : Nat) : Int) < ((N + 1 : Nat) : Int) := by omega
    have o6 : ((k + 1 : Nat) : Int) + 1 = ((k + 1 + 1 : Nat) : Int) := by omega
    have o7 : k + 1 + 1 ≤ 2000000000 := by omega
    have e : bmP (ppX I n) (k + 1) = if (bmP (ppX I n) k).2 < ppX I n (k + 1) then (((k + 1 : Nat) : Int), ppX I n (k + 1)) else bmP (ppX I n) k := rfl
    have v4 := w32_c o6 o7
    refine s103_41.mpr ?_
    by_cases hb : (bmP (ppX I n) k).2 < ppX I n (k + 1)
    · rw [if_pos hb] at e
      rw [e] at nx
      simp only [s103_42, s103_43, s103_44, s103_45, s103_46, s103_47, s103_48, s103_49, s103_50, s103_51, s103_52, s103_53, s103_54, s103_55, s103_56, s103_57, s103_58, s103_59, Option.toList_some, Option.toList_none, List.cons_append, List.nil_append, Nat.le_refl, true_and, and_true, true_or, or_true, false_or, or_false, true_implies, false_implies, implies_true, not_true_eq_false, not_false_eq_true, eq_self, Nat.reduceLT, Nat.reduceLeDiff, Nat.reduceEqDiff, Nat.reduceAdd, Nat.reduceSub, Int.reduceLT, Int.reduceLE, Int.reduceEq, Int.reduceNeg, Int.reduceNe, Int.reduceAdd, Int.reduceSub, Int.reduceMul, Int.reduceToNat, Int.toNat_zero, Int.toNat_one, Int.toNat_natCast, am_cats, am_cat, am_st1, am_st2, am_clr, up2_na, up2_nj, up2_same, List.getElem?_cons_zero, List.getElem?_cons_succ, List.set_cons_zero, List.set_cons_succ, ne_eq, tk_0 hh, tk_3 hh, rk_0_6 hh, hN, k105 hh hn k8, u1, v4, hb]
      exact nx
    · rw [if_neg hb] at e
      rw [e] at nx
      simp only [s103_42, s103_43, s103_44, s103_45, s103_46, s103_47, s103_48, s103_49, s103_50, s103_51, s103_52, s103_53, s103_54, s103_55, s103_56, s103_57, s103_58, s103_59, Option.toList_some, Option.toList_none, List.cons_append, List.nil_append, Nat.le_refl, true_and, and_true, true_or, or_true, false_or, or_false, true_implies, false_implies, implies_true, not_true_eq_false, not_false_eq_true, eq_self, Nat.reduceLT, Nat.reduceLeDiff, Nat.reduceEqDiff, Nat.reduceAdd, Nat.reduceSub, Int.reduceLT, Int.reduceLE, Int.reduceEq, Int.reduceNeg, Int.reduceNe, Int.reduceAdd, Int.reduceSub, Int.reduceMul, Int.reduceToNat, Int.toNat_zero, Int.toNat_one, Int.toNat_natCast, am_cats, am_cat, am_st1, am_st2, am_clr, up2_na, up2_nj, up2_same, List.getElem?_cons_zero, List.getElem?_cons_succ, List.set_cons_zero, List.set_cons_succ, ne_eq, tk_0 hh, tk_3 hh, rk_0_6 hh, hN, k105 hh hn k8, u1, v4, hb]
      exact nx
theorem x103 (hh : hp T R) {n S N : Nat} (hn : n ≤ 6) (n2 : 2 ≤ n) (hS : I 0 1 = S) (hS6 : S ≤ 6) (hN : I 3 3 = N) (hN8 : N ≤ 8) (h1 : (n : Int) ≤ I 1 1) {w : Int} (hw : 0 ≤ w ∧ w ≤ 1) (q0 : ¬ allL (I 2) (2 ^ S) n → Q (some (.inl (-1))) (185, s, T, up2 I 1 1 0, J, R)) (q1 : allL (I 2) (2 ^ S) n → Q (some (.inl (nxA w N (ppX I n)))) (185, s, T, up2 I 1 1 0, J, R)) : wpc codeT mX (d + 2) 103 [.inr (.inr (some 0)), .inl (n : Int), .inl w] (185, s, T, I, J, R) Q := by
  have u1 : 2 ≤ (n : Int) ∧ (n : Int) ≤ 6 ∧ ¬ I 1 1 < (n : Int) := by omega
  have e2 : (fun j => up2 I 1 1 0 2 j) = I 2 := by funext j; exact up2_na (by decide)
  have eP : ppX (up2 I 1 1 0) n = ppX I n := by
    funext t
    unfold ppX
    rw [show up2 I 1 1 0 13 t = I 13 t from up2_na (by decide), show up2 I 1 1 0 15 t = I 15 t from up2_na (by decide)]
    have : (fun i => dwF (I 13 t) (I 15 t) (up2 I 1 1 0 2 i)) = fun i => dwF (I 13 t) (I 15 t) (I 2 i) := by funext i; rw [up2_na (by decide)]
    rw [this]
  have eA : allL (up2 I 1 1 0 2) (2 ^ S) n = allL (I 2) (2 ^ S) n := by rw [show up2 I 1 1 0 2 = I 2 from e2]
  have hN' : up2 I 1 1 0 3 3 = N := (up2_na (by decide)).trans hN
  have hS' : up2 I 1 1 0 0 1 = S := (up2_na (by decide)).trans hS
  have tail : wpc codeT mX (d + 1) 104 [.inr (.inr (some 0)), .inl (n : Int)] (185, s, T, up2 I 1 1 0, J, R) (fun v h1 => (185 ≤ h1.1 ∧ s ≤ h1.2.1) ∧ wp codeT mX (d + 2) 103 23 [some (.inr (.inr (some 0))), some (.inl (n : Int)), some (.inl w), none, none, none, none] (v.toList ++ []) h1 Q) := by
    refine x104 hh (by omega) hS' hS6 (fun h => ⟨⟨Nat.le_refl _, Nat.le_refl _⟩, ?_⟩) (fun h => ⟨⟨Nat.le_refl _, Nat.le_refl _⟩, ?_⟩)
    · simp only [s103_23, s103_24, s103_25, Option.toList_some, Option.toList_none, List.cons_append, List.nil_append, Nat.le_refl, true_and, and_true, true_or, or_true, false_or, or_false, true_implies, false_implies, implies_true, not_true_eq_false, not_false_eq_true, eq_self, Nat.reduceLT, Nat.reduceLeDiff, Nat.reduceEqDiff, Nat.reduceAdd, Nat.reduceSub, Int.reduceLT, Int.reduceLE, Int.reduceEq, Int.reduceNeg, Int.reduceNe, Int.reduceAdd, Int.reduceSub, Int.reduceMul, Int.reduceToNat, Int.toNat_zero, Int.toNat_one, Int.toNat_natCast, am_cats, am_cat, am_st1, am_st2, am_clr, up2_na, up2_nj, up2_same, List.getElem?_cons_zero, List.getElem?_cons_succ, List.set_cons_zero, List.set_cons_succ, ne_eq]
      exact q0 (by rw [← eA]; exact h)
    · rw [eA] at h
      by_cases h0 : N = 0
      · subst h0
        have hN0 : I 3 3 = 0 := hN
        simp only [s103_23, s103_24, s103_25, s103_26, s103_27, s103_28, s103_29, s103_30, s103_31, Option.toList_some, Option.toList_none, List.cons_append, List.nil_append, Nat.le_refl, true_and, and_true, true_or, or_true, false_or, or_false, true_implies, false_implies, implies_true, not_true_eq_false, not_false_eq_true, eq_self, Nat.reduceLT, Nat.reduceLeDiff, Nat.reduceEqDiff, Nat.reduceAdd, Nat.reduceSub, Int.reduceLT, Int.reduceLE, Int.reduceEq, Int.reduceNeg, Int.reduceNe, Int.reduceAdd, Int.reduceSub, Int.reduceMul, Int.reduceToNat, Int.toNat_zero, Int.toNat_one, Int.toNat_natCast, am_cats, am_cat, am_st1, am_st2, am_clr, up2_na, up2_nj, up2_same, List.getElem?_cons_zero, List.getElem?_cons_succ, List.set_cons_zero, List.set_cons_succ, ne_eq, tk_0 hh, tk_3 hh, rk_0_6 hh, hN0]
        exact q1 h
      · obtain ⟨M, rfl⟩ : ∃ M, N = M + 1 := ⟨N - 1, by omega⟩
        have a1 : ¬ ((M + 1 : Nat) : Int) = 0 := by omega
        have lp := p103 (d := d) (s := s) (J := J) (I := up2 I 1 1 0) (Q := Q) hh hn hN' (by omega) (w := w) (by rw [eP]; exact q1 h) M 0 (by omega) none
        have k0 : ∀ Q : Option AV → AH → Prop, wpc codeT mX (d + 1) 105 [.inr (.inr (some 0)), .inl 0, .inl (n : Int)] (185, s, T, up2 I 1 1 0, J, R) Q ↔ Q (some (.inl (ppX (up2 I 1 1 0) n 0))) (185, s, T, up2 I 1 1 0, J, R) := fun Q => k105 (t := 0) hh hn (by decide)
        simp only [s103_23, s103_24, s103_25, s103_26, s103_27, s103_28, s103_29, s103_30, s103_31, s103_32, s103_33, s103_34, s103_35, s103_36, s103_37, s103_38, s103_39, s103_40, Option.toList_some, Option.toList_none, List.cons_append, List.nil_append, Nat.le_refl, true_and, and_true, true_or, or_true, false_or, or_false, true_implies, false_implies, implies_true, not_true_eq_false, not_false_eq_true, eq_self, Nat.reduceLT, Nat.reduceLeDiff, Nat.reduceEqDiff, Nat.reduceAdd, Nat.reduceSub, Int.reduceLT, Int.reduceLE, Int.reduceEq, Int.reduceNeg, Int.reduceNe, Int.reduceAdd, Int.reduceSub, Int.reduceMul, Int.reduceToNat, Int.toNat_zero, Int.toNat_one, Int.toNat_natCast, am_cats, am_cat, am_st1, am_st2, am_clr, up2_na, up2_nj, up2_same, List.getElem?_cons_zero, List.getElem?_cons_succ, List.set_cons_zero, List.set_cons_succ, ne_eq, tk_0 hh, tk_3 hh, rk_0_6 hh, hN, a1, k0]
        exact lp
  simp only [s103_0, s103_1, s103_2, s103_3, s103_4, s103_5, s103_6, s103_7, s103_8, s103_9, s103_10, s103_11, s103_12, s103_13, s103_14, s103_15, s103_16, s103_17, s103_18, s103_19, s103_20, s103_21, s103_22, e49, s49_0, s49_1, s49_2, s49_3, e103, Option.toList_some, Option.toList_none, List.cons_append, List.nil_append, Nat.le_refl, true_and, and_true, true_or, or_true, false_or, or_false, true_implies, false_implies, implies_true, not_true_eq_false, not_false_eq_true, eq_self, Nat.reduceLT, Nat.reduceLeDiff, Nat.reduceEqDiff, Nat.reduceAdd, Nat.reduceSub, Int.reduceLT, Int.reduceLE, Int.reduceEq, Int.reduceNeg, Int.reduceNe, Int.reduceAdd, Int.reduceSub, Int.reduceMul, Int.reduceToNat, Int.toNat_zero, Int.toNat_one, Int.toNat_natCast, am_cats, am_cat, am_st1, am_st2, am_clr, up2_na, up2_nj, up2_same, List.getElem?_cons_zero, List.getElem?_cons_succ, List.set_cons_zero, List.set_cons_succ, ne_eq, tk_0 hh, tk_1 hh, rk_0_5 hh, k18, i10, u1, hw]
  exact tail
end
