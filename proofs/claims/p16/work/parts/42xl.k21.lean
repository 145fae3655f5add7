/-! the law by hand, 21: told, both at once, whatever is to be kept -/
theorem told_two {d s : Nat} {T : Nat → Nat × Nat} {I J : Nat → Nat → Int} {R : Nat → Nat → Option Nat} {a b y z : Int} {cmp : Bool} {P' : AH → Prop} (hd : 40 ≤ d) (hH : eH (185, s, T, I, J, R)) (hP : LK I) (qq0 : P' (185, s, T, I, J, R)) (qq1 : ∀ (h t n : Nat) (y z : Int), h < 6 → t < 8 → (t : Int) < I 3 3 → n < 200 → I 17 3 = n → 0 ≤ z ∧ z ≤ 1 → P' (185, s, T, adR (adX I h t n y z (-1)) h t n y z (-1), J, R)) : wpc codeT mX d 73 [.inr (.inr (some 0)), .inl a, .inl b, .inl y, .inl z] (185, s, T, I, J, R) (fun v g1 => retP cn83.2.2.1 v → eH g1 → eM cn83.2.2.2.1 (185, s, T, I, J, R) g1 → scr g1 → ∃ a', v = some (ansV false a') ∧ wpc codeT mX d 174 [.inr (.inr (some 152)), .inl a, .inl b, .inl y, .inl z] g1 (fun v2 g2 => retP cn146.2.2.1 v2 → eH g2 → eM cn146.2.2.2.1 g1 g2 → ∃ b', v2 = some (ansV false b') ∧ (cmp = true → a' = b') ∧ P' g2)) := by
  obtain ⟨d, rfl⟩ : ∃ e, d = e + 2 := ⟨d - 2, by omega⟩
  have hh := hp_of (eH5_of hH)
  obtain ⟨l0, l1, l2, l3, l4, l5, l6, l7, l8, l9, l10, l11, l12, l13, l14, l15⟩ := hP
  have e0 : I 0 0 = I 152 0 := l0
  have e2 : I 0 2 = I 152 2 := l2
  have e3 : I 3 3 = I 152 3 := l5
  have e4 : I 17 3 = I 152 4 := l6
  have b2 : 0 ≤ I 0 2 ∧ I 0 2 ≤ 6 := ebd hH (by decide) (by decide) (by decide)
  have b3 : 0 ≤ I 3 3 ∧ I 3 3 ≤ 8 := ebd hH (by decide) (by decide) (by decide)
  have b4 : 0 ≤ I 17 3 ∧ I 17 3 ≤ 200 := ebd hH (by decide) (by decide) (by decide)
  obtain ⟨n, hn⟩ : ∃ n : Nat, I 17 3 = n := ⟨(I 17 3).toNat, by omega⟩
  have hm : I 152 4 = n := e4.symm.trans hn
  have n200 : n ≤ 200 := by omega
  obtain ⟨lat, hlat⟩ : ∃ q : Int, q = if n = 0 then 0 else I 21 (n - 1) := ⟨_, rfl⟩
  -- the reference's question for the day
  have kday : ∀ (Q : Option AV → AH → Prop) (l0 l1 l2 l3 l4 : Option AV) , wp codeT mX (d + 2) 174 21 [some (.inr (.inr (some 152))), l1, l2, some (.inl y), l4] [.inl lat, .inl y] (185, s, T, I, J, R) Q → wp codeT mX (d + 2) 174 9 [some (.inr (.inr (some 152))), l1, l2, some (.inl y), l4] [.inl y] (185, s, T, I, J, R) Q := by
    intro Q l0 l1 l2 l3 l4 hQ
    by_cases h0 : n = 0
    · rw [if_pos h0] at hlat
      subst hlat h0
      have hm : I 152 4 = 0 := hm
      simp only [s174_9, s174_10, s174_11, s174_12, s174_13, s174_14, s174_15, s174_16, s174_17, s174_18, s174_19, s174_20, Option.toList_some, Option.toList_none, List.cons_append, List.nil_append, Nat.le_refl, true_and, and_true, true_or, or_true, false_or, or_false, true_implies, false_implies, implies_true, not_true_eq_false, not_false_eq_true, eq_self, Nat.reduceLT, Nat.reduceLeDiff, Nat.reduceEqDiff, Nat.reduceAdd, Nat.reduceSub, Int.reduceLT, Int.reduceLE, Int.reduceEq, Int.reduceNeg, Int.reduceNe, Int.reduceAdd, Int.reduceSub, Int.reduceMul, Int.reduceToNat, Int.toNat_zero, Int.toNat_one, Int.toNat_natCast, am_cats, am_cat, am_st1, am_st2, am_clr, up2_na, up2_nj, up2_same, List.getElem?_cons_zero, List.getElem?_cons_succ, List.set_cons_zero, List.set_cons_succ, ne_eq, tk_152 hh, hm]
      exact hQ
    · rw [if_neg h0] at hlat
      have es := (l12 (n - 1) (by omega)).2.2
      rw [es] at hlat
      have a1 : ¬ (n : Int) = 0 := by omega
      have u1 : 0 ≤ ((n - 1 : Nat) : Int) ∧ ((n - 1 : Nat) : Int) < ((200 : Nat) : Int) := by omega
      have o1 : (n : Int) - 1 = ((n - 1 : Nat) : Int) := by omega
      have o2 : n - 1 ≤ 2000000000 := by omega
      have v1 := w32_c o1 o2
      simp only [s174_9, s174_10, s174_11, s174_12, s174_13, s174_14, s174_15, s174_16, s174_17, s174_18, s174_19, s174_20, Option.toList_some, Option.toList_none, List.cons_append, List.nil_append, Nat.le_refl, true_and, and_true, true_or, or_true, false_or, or_false, true_implies, false_implies, implies_true, not_true_eq_false, not_false_eq_true, eq_self, Nat.reduceLT, Nat.reduceLeDiff, Nat.reduceEqDiff, Nat.reduceAdd, Nat.reduceSub, Int.reduceLT, Int.reduceLE, Int.reduceEq, Int.reduceNeg, Int.reduceNe, Int.reduceAdd, Int.reduceSub, Int.reduceMul, Int.reduceToNat, Int.toNat_zero, Int.toNat_one, Int.toNat_natCast, am_cats, am_cat, am_st1, am_st2, am_clr, up2_na, up2_nj, up2_same, List.getElem?_cons_zero, List.getElem?_cons_succ, List.set_cons_zero, List.set_cons_succ, ne_eq, tk_152 hh, tk_159 hh, rk_152_13 hh, hm, a1, u1, v1, ← hlat]
      exact hQ
  by_cases hg : (0 ≤ a ∧ a < I 0 2) ∧ (0 ≤ b ∧ b < I 3 3) ∧ (0 ≤ z ∧ z ≤ 1) ∧ n < 200 ∧ lat ≤ y ∧ y ≤ I 0 0
  · obtain ⟨g1, g2, g3, g4, g5⟩ := hg
    obtain ⟨h, rfl⟩ : ∃ n : Nat, a = n := ⟨a.toNat, by omega⟩
    obtain ⟨t, rfl⟩ : ∃ n : Nat, b = n := ⟨b.toNat, by omega⟩
    have h6 : h < 6 := by omega
    have t8 : t < 8 := by omega
    have y1 : 0 ≤ (h : Int) ∧ (h : Int) < I 152 2 := by omega
    have y2 : 0 ≤ (t : Int) ∧ (t : Int) < I 152 3 := by omega
    have y3 : lat ≤ y ∧ y ≤ I 152 0 := by omega
    have u1 : ¬ 200 ≤ (n : Int) := by omega
    have u2 : ¬ (n : Int) = 200 := by omega
    have o3 : ((n + 1 : Nat) : Int) - 1 = (n : Int) := by omega
    have o4 : n ≤ 2000000000 := by omega
    simp only [e73, s73_0, s73_1, s73_2, s73_3, s73_4, s73_5, s73_6, s73_7, s73_8, s73_9, s73_10, s73_11, s73_12, s73_13, s73_14, s73_15, s73_16, s73_17, s73_18, s73_19, s73_20, s73_21, s73_22, s73_23, s73_24, s73_25, s73_26, s73_27, s73_28, s73_29, s73_30, s73_31, s73_32, s73_33, s73_34, s73_35, s73_36, s73_37, Option.toList_some, Option.toList_none, List.cons_append, List.nil_append, Nat.le_refl, true_and, and_true, true_or, or_true, false_or, or_false, true_implies, false_implies, implies_true, not_true_eq_false, not_false_eq_true, eq_self, Nat.reduceLT, Nat.reduceLeDiff, Nat.reduceEqDiff, Nat.reduceAdd, Nat.reduceSub, Int.reduceLT, Int.reduceLE, Int.reduceEq, Int.reduceNeg, Int.reduceNe, Int.reduceAdd, Int.reduceSub, Int.reduceMul, Int.reduceToNat, Int.toNat_zero, Int.toNat_one, Int.toNat_natCast, am_cats, am_cat, am_st1, am_st2, am_clr, up2_na, up2_nj, up2_same, List.getElem?_cons_zero, List.getElem?_cons_succ, List.set_cons_zero, List.set_cons_succ, ne_eq, tk_0 hh, rk_0_7 hh, tk_17 hh, k16 hh, k51 hh, k18, k67 hh, k74 hh hn n200, k71 hh hn g4 h6 t8, i10, ← hlat, g1, g2, g3, g5, hn, u1]
    intro _ hH1 m1 s1
    refine ⟨_, rfl, ?_⟩
    have hm' : adX I h t n y z (-1) 152 4 = n := (adX_o (by omega) h6).trans hm
    have w2 : adX I h t n y z (-1) 152 2 = I 152 2 := adX_o (by omega) h6
    have w3 : adX I h t n y z (-1) 152 3 = I 152 3 := adX_o (by omega) h6
    have w0 : adX I h t n y z (-1) 152 0 = I 152 0 := adX_o (by omega) h6
    have w21 : ∀ j, adX I h t n y z (-1) 159 j = I 159 j := fun j => adX_o (by omega) h6
    show wpc codeT mX (d + 2) 174 [.inr (.inr (some 152)), .inl (h : Int), .inl (t : Int), .inl y, .inl z] (185, s, T, adX I h t n y z (-1), J, R) _
    by_cases h0 : n = 0
    · rw [if_pos h0] at hlat
      subst hlat h0
      have hm0 : adX I h t 0 y z (-1) 152 4 = 0 := hm'
      have v2 := w32_c o3 o4
      have v3 : w32 (1 - 1) = 0 := by decide
      simp only [e174, s174_0, s174_1, s174_2, s174_3, s174_4, s174_5, s174_6, s174_7, s174_8, s174_9, s174_10, s174_11, s174_12, s174_13, s174_14, s174_15, s174_16, s174_17, s174_18, s174_19, s174_20, s174_21, s174_22, s174_23, s174_24, s174_25, s174_26, s174_27, s174_28, s174_29, s174_30, s174_31, s174_32, s174_33, s174_34, s174_35, s174_36, s174_37, s174_38, s174_39, s174_40, s174_41, s174_42, s174_43, s174_44, s174_45, s174_46, s174_47, Option.toList_some, Option.toList_none, List.cons_append, List.nil_append, Nat.le_refl, true_and, and_true, true_or, or_true, false_or, or_false, true_implies, false_implies, implies_true, not_true_eq_false, not_false_eq_true, eq_self, Nat.reduceLT, Nat.reduceLeDiff, Nat.reduceEqDiff, Nat.reduceAdd, Nat.reduceSub, Int.reduceLT, Int.reduceLE, Int.reduceEq, Int.reduceNeg, Int.reduceNe, Int.reduceAdd, Int.reduceSub, Int.reduceMul, Int.reduceToNat, Int.toNat_zero, Int.toNat_one, Int.toNat_natCast, am_cats, am_cat, am_st1, am_st2, am_clr, up2_na, up2_nj, up2_same, List.getElem?_cons_zero, List.getElem?_cons_succ, List.set_cons_zero, List.set_cons_succ, ne_eq, tk_152 hh, k134 hh, k164 hh, k136, k173 hh (show adX I h t 0 y z (-1) 152 4 = ((0 : Nat) : Int) from hm0) (show 0 < 200 by decide), adR_4, i10, w0, w2, w3, y1, y2, y3, g3, hm0]
      intro _ hH2 m2
      exact ⟨0, by rw [show ((0 + 1 : Nat) : Int) - 1 = 0 from rfl]; rfl, fun _ => rfl, qq1 h t 0 y z h6 t8 g2.2 (by decide) hn g3⟩
    · rw [if_neg h0] at hlat
      have es := (l12 (n - 1) (by omega)).2.2
      rw [es] at hlat
      have a1 : ¬ (n : Int) = 0 := by omega
      have u3 : 0 ≤ ((n - 1 : Nat) : Int) ∧ ((n - 1 : Nat) : Int) < ((200 : Nat) : Int) := by omega
      have o1 : (n : Int) - 1 = ((n - 1 : Nat) : Int) := by omega
      have o2 : n - 1 ≤ 2000000000 := by omega
      have v1 := w32_c o1 o2
      have v2 := w32_c o3 o4
      simp only [e174, s174_0, s174_1, s174_2, s174_3, s174_4, s174_5, s174_6, s174_7, s174_8, s174_9, s174_10, s174_11, s174_12, s174_13, s174_14, s174_15, s174_16, s174_17, s174_18, s174_19, s174_20, s174_21, s174_22, s174_23, s174_24, s174_25, s174_26, s174_27, s174_28, s174_29, s174_30, s174_31, s174_32, s174_33, s174_34, s174_35, s174_36, s174_37, s174_38, s174_39, s174_40, s174_41, s174_42, s174_43, s174_44, s174_45, s174_46, s174_47, Option.toList_some, Option.toList_none, List.cons_append, List.nil_append, Nat.le_refl, true_and, and_true, true_or, or_true, false_or, or_false, true_implies, false_implies, implies_true, not_true_eq_false, not_false_eq_true, eq_self, Nat.reduceLT, Nat.reduceLeDiff, Nat.reduceEqDiff, Nat.reduceAdd, Nat.reduceSub, Int.reduceLT, Int.reduceLE, Int.reduceEq, Int.reduceNeg, Int.reduceNe, Int.reduceAdd, Int.reduceSub, Int.reduceMul, Int.reduceToNat, Int.toNat_zero, Int.toNat_one, Int.toNat_natCast, am_cats, am_cat, am_st1, am_st2, am_clr, up2_na, up2_nj, up2_same, List.getElem?_cons_zero, List.getElem?_cons_succ, List.set_cons_zero, List.set_cons_succ, ne_eq, tk_152 hh, tk_159 hh, rk_152_13 hh, k134 hh, k164 hh, k136, k173 hh hm' g4, adR_4, i10, w0, w2, w3, w21, y1, y2, y3, g3, hm', a1, u2, u3, v1, v2, ← hlat]
      intro _ hH2 m2
      exact ⟨_, rfl, fun _ => rfl, qq1 h t n y z h6 t8 g2.2 g4 hn g3⟩
  · have hg2 : ¬ ((0 ≤ a ∧ a < I 152 2) ∧ (0 ≤ b ∧ b < I 152 3) ∧ (0 ≤ z ∧ z ≤ 1) ∧ n < 200 ∧ lat ≤ y ∧ y ≤ I 152 0) := by rw [← e2, ← e3, ← e0]; exact hg
    have fin : ∀ Q : Option AV → AH → Prop, Q (some (.inl (-1))) (185, s, T, I, J, R) → wpc codeT mX (d + 2) 174 [.inr (.inr (some 152)), .inl a, .inl b, .inl y, .inl z] (185, s, T, I, J, R) Q := by
      intro Q hQ
      have tail : wp codeT mX (d + 2) 174 9 [some (.inr (.inr (some 152))), some (.inl a), some (.inl b), some (.inl y), some (.inl z)] [.inl y] (185, s, T, I, J, R) Q ∨ ((0 ≤ a ∧ a < I 152 2) ∧ (0 ≤ b ∧ b < I 152 3) → wp codeT mX (d + 2) 174 9 [some (.inr (.inr (some 152))), some (.inl a), some (.inl b), some (.inl y), some (.inl z)] [.inl y] (185, s, T, I, J, R) Q) := Or.inr (fun q12 => by
        refine kday _ none _ _ none _ ?_
        simp only [s174_21, s174_22, s174_23, s174_24, s174_25, s174_26, s174_27, s174_28, s174_29, s174_30, s174_31, s174_32, s174_33, s174_34, s174_35, Option.toList_some, Option.toList_none, List.cons_append, List.nil_append, Nat.le_refl, true_and, and_true, true_or, or_true, false_or, or_false, true_implies, false_implies, implies_true, not_true_eq_false, not_false_eq_true, eq_self, Nat.reduceLT, Nat.reduceLeDiff, Nat.reduceEqDiff, Nat.reduceAdd, Nat.reduceSub, Int.reduceLT, Int.reduceLE, Int.reduceEq, Int.reduceNeg, Int.reduceNe, Int.reduceAdd, Int.reduceSub, Int.reduceMul, Int.reduceToNat, Int.toNat_zero, Int.toNat_one, Int.toNat_natCast, am_cats, am_cat, am_st1, am_st2, am_clr, up2_na, up2_nj, up2_same, List.getElem?_cons_zero, List.getElem?_cons_succ, List.set_cons_zero, List.set_cons_succ, ne_eq, tk_152 hh, k136, i10, Classical.not_not, hm]
        refine ⟨fun _ => hQ, fun q3 => ⟨fun _ => hQ, fun q4 => ⟨fun _ => hQ, fun q5 => absurd ⟨q12.1, q12.2, q4, by omega, q3⟩ hg2⟩⟩⟩)
      simp only [s174_0, s174_1, s174_2, s174_3, s174_4, s174_5, s174_6, s174_7, s174_8, s174_34, s174_35, e174, Option.toList_some, Option.toList_none, List.cons_append, List.nil_append, Nat.le_refl, true_and, and_true, true_or, or_true, false_or, or_false, true_implies, false_implies, implies_true, not_true_eq_false, not_false_eq_true, eq_self, Nat.reduceLT, Nat.reduceLeDiff, Nat.reduceEqDiff, Nat.reduceAdd, Nat.reduceSub, Int.reduceLT, Int.reduceLE, Int.reduceEq, Int.reduceNeg, Int.reduceNe, Int.reduceAdd, Int.reduceSub, Int.reduceMul, Int.reduceToNat, Int.toNat_zero, Int.toNat_one, Int.toNat_natCast, am_cats, am_cat, am_st1, am_st2, am_clr, up2_na, up2_nj, up2_same, List.getElem?_cons_zero, List.getElem?_cons_succ, List.set_cons_zero, List.set_cons_succ, ne_eq, tk_152 hh, k134 hh, k164 hh, i10, Classical.not_not]
      refine ⟨fun _ => hQ, fun q1 => ⟨fun _ => hQ, fun q2 => ?_⟩⟩
      rcases tail with t1 | t1
      · exact t1
      · exact t1 ⟨q1, q2⟩
    have go : ∀ Q : Option AV → AH → Prop, Q (some (.inl (-1))) (185, s, T, I, J, R) → wpc codeT mX (d + 2) 73 [.inr (.inr (some 0)), .inl a, .inl b, .inl y, .inl z] (185, s, T, I, J, R) Q := by
      intro Q hQ
      simp only [s73_0, s73_1, s73_2, s73_3, s73_4, s73_5, s73_6, s73_7, s73_8, s73_9, s73_10, s73_11, s73_12, s73_13, s73_14, s73_15, s73_16, s73_17, s73_18, s73_19, s73_20, s73_21, s73_22, s73_23, s73_24, s73_25, s73_26, s73_27, s73_28, e73, Option.toList_some, Option.toList_none, List.cons_append, List.nil_append, Nat.le_refl, true_and, and_true, true_or, or_true, false_or, or_false, true_implies, false_implies, implies_true, not_true_eq_false, not_false_eq_true, eq_self, Nat.reduceLT, Nat.reduceLeDiff, Nat.reduceEqDiff, Nat.reduceAdd, Nat.reduceSub, Int.reduceLT, Int.reduceLE, Int.reduceEq, Int.reduceNeg, Int.reduceNe, Int.reduceAdd, Int.reduceSub, Int.reduceMul, Int.reduceToNat, Int.toNat_zero, Int.toNat_one, Int.toNat_natCast, am_cats, am_cat, am_st1, am_st2, am_clr, up2_na, up2_nj, up2_same, List.getElem?_cons_zero, List.getElem?_cons_succ, List.set_cons_zero, List.set_cons_succ, ne_eq, tk_0 hh, rk_0_7 hh, tk_17 hh, k16 hh, k51 hh, k18, k67 hh, k74 hh hn n200, i10, Classical.not_not, ← hlat, hn]
      exact ⟨fun _ => hQ, fun q1 => ⟨fun _ => hQ, fun q2 => ⟨fun _ => hQ, fun q3 => ⟨fun q4 => ⟨fun _ => hQ, fun q5 => absurd ⟨q1, q2, q3, by omega, q5⟩ hg⟩, fun _ => hQ⟩⟩⟩⟩
    exact go _ (fun _ hH1 m1 s1 => ⟨-1, rfl, fin _ (fun _ hH2 m2 => ⟨-1, rfl, fun _ => rfl, qq0⟩)⟩)
section
variable {L s d : Nat} {X : Nat → Int}
/-- what told keeps besides -/
def LRG (g : AH) : Prop := lkR g.2.2.2.1 ∧ lkG g.2.2.2.1 ∧ lkP g.2.2.2.1
theorem px_told (hL : L ≤ 3072) (hX : ∀ j, rg32 (X j)) (hd : 40 ≤ d) {P : AH → Prop} (hp : ∀ g, P g → LKP g ∧ LRG g) : prx L X s P LRG d 73 174 4 false false := by
  refine prx_mk (cx := cn83) (cm := cn146) (nx := 0) (nm := 0) hL hX (cn_all 83 (by decide) cn83 rfl) (cn_all 146 (by decide) cn146 rfl) rfl hd (fun as g hl hr hH hs hP => ?_)
  obtain ⟨a, b, y, z, rfl⟩ := len4 hl
  obtain ⟨c, s, T, I, J, R⟩ := g
  have hc : c = 185 := hH.1
  subst hc
  obtain ⟨hK, hR, hG, hPP⟩ := hp _ hP
  have hK : LK I := hK
  have hR : lkR I := hR
  have hG : lkG I := hG
  have hPP : lkP I := hPP
  exact told_two hd hH hK ⟨hR, hG, hPP⟩ (fun h t n y z h6 t8 _ n2 hn hz => ⟨lkR_ad (I := I) h6 hn (fun a j h1 h2 => adX_o (by omega) h6) (fun a j _ => rfl) hR, lkG_ad (I := I) h6 hn n2 hz (fun j hj => ebd hH (by decide) (by show j < 200; omega) ((bI_hi (by decide)).trans (by decide))) (fun a j h1 h2 => adX_o (by omega) h6) (fun a j _ => rfl) hG, lkP_ad (I := I) h6 hn n2 (fun a j h1 h2 => adX_o (by omega) h6) (fun a j _ => rfl) hPP⟩)
end
