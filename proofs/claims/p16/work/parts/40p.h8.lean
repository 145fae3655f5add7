/-! by hand, 8: the law's reader: here, closesSums -/
def hr (I : Nat → Nat → Int) (L p : Nat) : Int := if p < L then (Int32.ofInt (I 162 p) &&& Int32.ofInt 255).toInt else -1
theorem hr_lt {I : Nat → Nat → Int} {L p : Nat} {c : Int} (h : hr I L p = c) (h2 : c ≠ -1) : p < L := by
  unfold hr at h
  split at h
  · assumption
  · omega
theorem w32_s {n : Nat} (h : n ≤ 1080) : w32 ((n : Int) + 1) = ((n + 1 : Nat) : Int) := w32_eq (by omega) (by omega)
theorem w32_d {n : Nat} (h : n ≤ 1080) : w32 (((n + 1 : Nat) : Int) - 1) = (n : Int) := by
  have e : ((n + 1 : Nat) : Int) - 1 = (n : Int) := by omega
  rw [e]
  exact w32_eq (by omega) (by omega)
theorem tdiv_rg {z : Int} (h : rg z) : -2048 ≤ Int.tdiv z 1048576 ∧ Int.tdiv z 1048576 ≤ 2048 := by
  unfold rg at h
  by_cases h0 : 0 ≤ z
  · rw [Int.tdiv_eq_ediv_of_nonneg h0]
    omega
  · rw [show z = -(-z) by omega, Int.neg_tdiv, Int.tdiv_eq_ediv_of_nonneg (by omega)]
    omega
theorem w32_op {W : Nat → Int} {k : Nat} (h : XB W) (hk : k < 180) : w32 (Int.tdiv (W k) 1048576) = cOp (W k) := by
  have := tdiv_rg (h k hk)
  exact w32_eq (by omega) (by omega)
theorem z_n {n : Nat} : 0 ≤ (n : Int) := Int.natCast_nonneg n
section
variable {d s : Nat} {T : Nat → Nat × Nat} {I J : Nat → Nat → Int} {R : Nat → Nat → Option Nat} {Q : Option AV → AH → Prop} {L : Nat} {fa op sm nm : Int} {X W F H G X0 W0 : Nat → Int} {f n1 w0 n0 e n w p : Nat}
theorem w_here (hm : mdl T R) (hL : I 152 19 = (L : Int)) (hL2 : L ≤ 160) (hp : p ≤ L) {cm wz : Int} : wpc codeT mX d 144 [.inr (.inr (some 152))] (185, s, T, pI I (p : Int) fa op cm wz sm nm X W F H G, J, R) (fun v g => g = (185, s, T, pI I (p : Int) fa op cm wz sm nm X W F H G, J, R) ∧ v = some (.inl (hr I L p))) := by
  have t152 : T 152 = (12, 53) := hm.1 152 (by decide)
  have t162 : T 162 = (101, 200) := hm.1 162 (by decide)
  have r1 : R 152 16 = some 162 := hm.2 16 162 (by decide +kernel) (by decide)
  unfold hr
  split
  · rename_i h
    have h2 : (p : Int) < (L : Int) := by omega
    have h3 : 0 ≤ (p : Int) ∧ (p : Int) < ((200 : Nat) : Int) := by omega
    simp only [e144, s144_0, s144_1, s144_2, s144_3, s144_4, s144_5, s144_6, s144_7, s144_8, s144_9, s144_10, s144_11, s144_12, s144_13, s144_14, Option.toList_some, Option.toList_none, List.cons_append, List.nil_append, Nat.le_refl, true_and, and_true, true_or, or_true, false_or, or_false, true_implies, false_implies, implies_true, not_true_eq_false, not_false_eq_true, eq_self, Nat.reduceLT, Nat.reduceLeDiff, Nat.reduceEqDiff, Nat.reduceAdd, Nat.reduceSub, Int.reduceLT, Int.reduceLE, Int.reduceEq, Int.reduceNeg, Int.reduceNe, Int.reduceAdd, Int.reduceSub, Int.reduceMul, Int.reduceToNat, Int.toNat_zero, Int.toNat_one, Int.toNat_natCast, am_cats, am_cat, am_st1, am_st2, am_clr, up2_na, up2_nj, up2_same, List.getElem?_cons_zero, List.getElem?_cons_succ, List.set_cons_zero, List.set_cons_succ, ne_eq, t152, t162, r1, pI_18, pI_19, pI_162, hL, h2, h3]
  · rename_i h
    have h2 : ¬ (p : Int) < (L : Int) := by omega
    simp only [e144, s144_0, s144_1, s144_2, s144_3, s144_4, s144_5, s144_6, s144_7, s144_8, s144_9, s144_10, s144_11, s144_12, s144_13, s144_14, Option.toList_some, Option.toList_none, List.cons_append, List.nil_append, Nat.le_refl, true_and, and_true, true_or, or_true, false_or, or_false, true_implies, false_implies, implies_true, not_true_eq_false, not_false_eq_true, eq_self, Nat.reduceLT, Nat.reduceLeDiff, Nat.reduceEqDiff, Nat.reduceAdd, Nat.reduceSub, Int.reduceLT, Int.reduceLE, Int.reduceEq, Int.reduceNeg, Int.reduceNe, Int.reduceAdd, Int.reduceSub, Int.reduceMul, Int.reduceToNat, Int.toNat_zero, Int.toNat_one, Int.toNat_natCast, am_cats, am_cat, am_st1, am_st2, am_clr, up2_na, up2_nj, up2_same, List.getElem?_cons_zero, List.getElem?_cons_succ, List.set_cons_zero, List.set_cons_succ, ne_eq, t152, t162, r1, pI_18, pI_19, pI_162, hL, h2]
set_option maxHeartbeats 1000000 in
theorem w_closes (hm : mdl T R) (hL2 : L ≤ 160) {b : Int} (hb : b = 0 ∨ b = 1) : ∀ (w n : Nat) (X : Nat → Int), SS L X0 W0 f n1 w0 n0 e X W n w p 1 → (∀ (n' w' : Nat) (X' : Nat → Int), w' ≤ w → SS L X0 W0 f n1 w0 n0 e X' W n' w' p 1 → (∀ i, w' ≤ i → i < w → cOp (W i) ≤ 6) → (w' = 0 ∨ 6 < cOp (W (w' - 1)) ∨ (b = 0 ∧ cOp (W (w' - 1)) ≤ 3)) → Q none (185, s, T, pI I (p : Int) fa op ((f + n' : Nat) : Int) (w' : Int) sm nm X' W F H G, J, R)) → wp codeT mX (d + 1) 154 0 [some (.inr (.inr (some 152))), some (.inl b)] [] (185, s, T, pI I (p : Int) fa op ((f + n : Nat) : Int) (w : Int) sm nm X W F H G, J, R) Q := by
  have t152 : T 152 = (12, 53) := hm.1 152 (by decide)
  have t163 : T 163 = (100, 180) := hm.1 163 (by decide)
  have t164 : T 164 = (100, 180) := hm.1 164 (by decide)
  have r1 : R 152 26 = some 163 := hm.2 26 163 (by decide +kernel) (by decide)
  have r2 : R 152 27 = some 164 := hm.2 27 164 (by decide +kernel) (by decide)
  intro w
  induction w with
  | zero =>
    intro n X hS hQ
    have q := hQ n 0 X (Nat.le_refl _) hS (fun i _ z => absurd z (Nat.not_lt_zero i)) (Or.inl rfl)
    refine s154_0.mpr ?_
    rcases hb with rfl | rfl <;> simp only [e154, s154_1, s154_2, s154_3, s154_4, s154_5, s154_6, s154_7, s154_8, s154_9, s154_10, s154_11, s154_12, s154_13, s154_14, s154_15, s154_16, s154_17, s154_18, s154_19, s154_20, s154_21, s154_22, s154_23, s154_24, s154_25, s154_26, s154_27, s154_28, s154_29, s154_30, e155, s155_0, s155_1, s155_2, s155_3, s155_4, s155_5, s155_6, s155_7, s155_8, s155_9, s155_10, s155_11, s155_12, s155_13, s155_14, e151, s151_0, s151_1, s151_2, s151_3, s151_4, s151_5, s151_6, s151_7, s151_8, s151_9, s151_10, s151_11, s151_12, s151_13, s151_14, s151_15, s151_16, Option.toList_some, Option.toList_none, List.cons_append, List.nil_append, Nat.le_refl, true_and, and_true, true_or, or_true, false_or, or_false, true_implies, false_implies, implies_true, not_true_eq_false, not_false_eq_true, eq_self, Nat.reduceLT, Nat.reduceLeDiff, Nat.reduceEqDiff, Nat.reduceAdd, Nat.reduceSub, Int.reduceLT, Int.reduceLE, Int.reduceEq, Int.reduceNeg, Int.reduceNe, Int.reduceAdd, Int.reduceSub, Int.reduceMul, Int.reduceToNat, Int.toNat_zero, Int.toNat_one, Int.toNat_natCast, am_cats, am_cat, am_st1, am_st2, am_clr, up2_na, up2_nj, up2_same, List.getElem?_cons_zero, List.getElem?_cons_succ, List.set_cons_zero, List.set_cons_succ, ne_eq, t152, t163, t164, r1, r2, pI_18, pI_22, pI_23, pI_163, pI_164, pu_22, pu_23, pu_163, pu_164, Int.natCast_zero]
    · exact q
    · exact q
  | succ k ih =>
    intro n X hS hQ
    have hS2 := hS
    obtain ⟨a1, a2, a3, a4, a5, a6, a7, a8, a9, a10, a11, a12, a13⟩ := hS2
    have hW := a13 k (by omega)
    have hop : 2 ≤ cOp (W k) ∧ cOp (W k) ≤ 6 ∨ 10 ≤ cOp (W k) := by
      by_cases z : k < w0
      · exact Or.inr (a7 k z).1
      · rcases a8 k (by omega) (by omega) with z | z
        · exact Or.inl z
        · exact Or.inr (by omega)
    have stay : (6 < cOp (W k) ∨ b = 0 ∧ cOp (W k) ≤ 3) → Q none (185, s, T, pI I (p : Int) fa op ((f + n : Nat) : Int) ((k + 1 : Nat) : Int) sm nm X W F H G, J, R) := fun z => hQ n (k + 1) X (Nat.le_refl _) hS (fun i z1 z2 => by omega) (Or.inr z)
    have nx : ∀ c : Int, (2 ≤ cOp c ∧ cOp c ≤ 6) → (0 ≤ c ∧ c ≤ 2147483647) → cOp (W k) ≤ 6 → wp codeT mX (d + 1) 154 0 [some (.inr (.inr (some 152))), some (.inl b)] [] (185, s, T, pI I (p : Int) fa op ((f + n + 1 : Nat) : Int) (k : Int) sm nm (sx X (f + n) c) W F H G, J, R) Q := by
      intro c h1 h2 h3
      refine ih (n + 1) _ (SS_op hS h1.1 h1.2 h2 h3) (fun n' w' X' z1 z2 z3 z4 => hQ n' w' X' (by omega) z2 (fun i z5 z6 => ?_) z4)
      by_cases z : i = k
      · subst z
        exact h3
      · exact z3 i z5 (by omega)
    have hn0 : ¬ ((k + 1 : Nat) : Int) = 0 := by omega
    have b1 : 0 ≤ (k : Int) ∧ (k : Int) < ((180 : Nat) : Int) := by omega
    have hnj : 0 ≤ ((f + n : Nat) : Int) ∧ (cOp (W k) ≤ 6 → ((f + n : Nat) : Int) < ((180 : Nat) : Int)) := by
      refine ⟨by omega, fun z => ?_⟩
      rw [nj, if_neg (by omega)] at a3
      omega
    have fn : f + n ≤ 1080 := by omega
    have kn : k ≤ 1080 := by omega
    have htop : w32 (Int.tdiv (W k) 1048576) = cOp (W k) := w32_op a13 (by omega)
    clear a1 a2 a3 a4 a5 a6 a7 a8 a9 a10 a11 a12 a13 hW hQ ih
    have w1 := w32_s fn
    have w2 := w32_d kn
    generalize hob : cOp (W k) = o at *
    refine s154_0.mpr ?_
    rcases hop with h | h
    · have hf := hnj.2 h.2
      have h0 := hnj.1
      have : o = 2 ∨ o = 3 ∨ o = 4 ∨ o = 5 ∨ o = 6 := by clear w1 w2 htop stay nx; omega
      rcases this with rfl | rfl | rfl | rfl | rfl <;> rcases hb with rfl | rfl <;> simp only [e154, s154_1, s154_2, s154_3, s154_4, s154_5, s154_6, s154_7, s154_8, s154_9, s154_10, s154_11, s154_12, s154_13, s154_14, s154_15, s154_16, s154_17, s154_18, s154_19, s154_20, s154_21, s154_22, s154_23, s154_24, s154_25, s154_26, s154_27, s154_28, s154_29, s154_30, e155, s155_0, s155_1, s155_2, s155_3, s155_4, s155_5, s155_6, s155_7, s155_8, s155_9, s155_10, s155_11, s155_12, s155_13, s155_14, e151, s151_0, s151_1, s151_2, s151_3, s151_4, s151_5, s151_6, s151_7, s151_8, s151_9, s151_10, s151_11, s151_12, s151_13, s151_14, s151_15, s151_16, Option.toList_some, Option.toList_none, List.cons_append, List.nil_append, Nat.le_refl, true_and, and_true, true_or, or_true, false_or, or_false, true_implies, false_implies, implies_true, not_true_eq_false, not_false_eq_true, eq_self, Nat.reduceLT, Nat.reduceLeDiff, Nat.reduceEqDiff, Nat.reduceAdd, Nat.reduceSub, Int.reduceLT, Int.reduceLE, Int.reduceEq, Int.reduceNeg, Int.reduceNe, Int.reduceAdd, Int.reduceSub, Int.reduceMul, Int.reduceToNat, Int.toNat_zero, Int.toNat_one, Int.toNat_natCast, am_cats, am_cat, am_st1, am_st2, am_clr, up2_na, up2_nj, up2_same, List.getElem?_cons_zero, List.getElem?_cons_succ, List.set_cons_zero, List.set_cons_succ, ne_eq, t152, t163, t164, r1, r2, pI_18, pI_22, pI_23, pI_163, pI_164, pu_22, pu_23, pu_163, pu_164, hn0, b1, htop, w1, w2, hf, h0, w32_eq, Int.reduceMul, Int.reduceAdd]
      all_goals first | exact nx _ (by decide) (by decide) (by decide) | exact stay (Or.inr ⟨rfl, by decide⟩)
    · have x1 : ¬ o < 4 := by clear w1 w2 htop stay nx; omega
      have x2 : ¬ o ≤ 6 := by clear w1 w2 htop stay nx; omega
      have x3 : 6 < o := by clear w1 w2 htop stay nx; omega
      have x4 : ¬ o = 2 := by clear w1 w2 htop stay nx; omega
      have x5 : ¬ o = 3 := by clear w1 w2 htop stay nx; omega
      rcases hb with rfl | rfl <;> simp only [e154, s154_1, s154_2, s154_3, s154_4, s154_5, s154_6, s154_7, s154_8, s154_9, s154_10, s154_11, s154_12, s154_13, s154_14, s154_15, s154_16, s154_17, s154_18, s154_19, s154_20, s154_21, s154_22, s154_23, s154_24, s154_25, s154_26, s154_27, s154_28, s154_29, s154_30, e155, s155_0, s155_1, s155_2, s155_3, s155_4, s155_5, s155_6, s155_7, s155_8, s155_9, s155_10, s155_11, s155_12, s155_13, s155_14, e151, s151_0, s151_1, s151_2, s151_3, s151_4, s151_5, s151_6, s151_7, s151_8, s151_9, s151_10, s151_11, s151_12, s151_13, s151_14, s151_15, s151_16, Option.toList_some, Option.toList_none, List.cons_append, List.nil_append, Nat.le_refl, true_and, and_true, true_or, or_true, false_or, or_false, true_implies, false_implies, implies_true, not_true_eq_false, not_false_eq_true, eq_self, Nat.reduceLT, Nat.reduceLeDiff, Nat.reduceEqDiff, Nat.reduceAdd, Nat.reduceSub, Int.reduceLT, Int.reduceLE, Int.reduceEq, Int.reduceNeg, Int.reduceNe, Int.reduceAdd, Int.reduceSub, Int.reduceMul, Int.reduceToNat, Int.toNat_zero, Int.toNat_one, Int.toNat_natCast, am_cats, am_cat, am_st1, am_st2, am_clr, up2_na, up2_nj, up2_same, List.getElem?_cons_zero, List.getElem?_cons_succ, List.set_cons_zero, List.set_cons_succ, ne_eq, t152, t163, t164, r1, r2, pI_18, pI_22, pI_23, pI_163, pI_164, pu_22, pu_23, pu_163, pu_164, hn0, b1, htop, w2, x1, x2, x3, x4, x5]
      · exact stay (Or.inl x3)
      · exact stay (Or.inl x3)
end
