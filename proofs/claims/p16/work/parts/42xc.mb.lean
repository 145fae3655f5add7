/-! the law's two readers, 11: the calls of law; the pair law, its answer too -/
section
variable {d s q L : Nat} {T : Nat → Nat × Nat} {I J : Nat → Nat → Int} {R : Nat → Nat → Option Nat} {Q : Option AV → AH → Prop}
/-- the references of the reader at work -/
def rdR (R : Nat → Nat → Option Nat) (q : Nat) : Nat → Nat → Option Nat := up2 (up2 R 79 0 (some 2)) 79 4 (some q)
theorem rdR_na {a j : Nat} (h : a ≠ 79) : rdR R q a j = R a j := by
  unfold rdR
  rw [up2_na h, up2_na h]
theorem sgX_up {v : Int} : sgX (up2 I 79 1 v) L = sgX I L := by
  funext p
  unfold sgX
  rw [up2_na (by decide)]
theorem rdR_hp (hh : hp T R) : hp T (rdR R q) := hp_up (hp_up hh (by decide +kernel)) (by decide +kernel)
theorem x27 (hh : hp T R) (hl : lawAt T R q) (hL2 : L ≤ 160) (hb : ∀ j, 0 ≤ I 2 j ∧ I 2 j ≤ 255 ∨ L ≤ j) (hd : 32 ≤ d) (hB : ∀ f, (lwS (sgX I L) L 161 0 0 0).1 = f → ¬ f = 0 → ∀ (p1 cl1 n1 : Nat) (S V A C : Nat → Int), A 0 = I (q + 3) 0 → Q (some (.inl f)) (185, s, T, xI (up2 I 79 1 (L : Int)) q (p1 : Int) f (cl1 : Int) (n1 : Int) S V A C, J, rdR R q)) (hO : (lwS (sgX I L) L 161 0 0 0).1 = 0 → ∀ S V A C : Nat → Int, xO S V A C 0 0 (I (q + 1)) (I (q + 2)) (I (q + 3)) (I (q + 4)) (lwS (sgX I L) L 161 0 0 0) → Q (some (.inl 0)) (185, s, T, xI (up2 I 79 1 (L : Int)) q (L : Int) 0 ((lwS (sgX I L) L 161 0 0 0).2.2.length : Int) ((lwS (sgX I L) L 161 0 0 0).2.1.length : Int) S V A C, J, rdR R q)) : wpc codeT mX (d + 2) 27 [.inr (.inr (some 79)), .inr (.inr (some 2)), .inl (L : Int), .inr (.inr (some q))] (185, s, T, I, J, R) Q := by
  have hq : 80 < q := hl.1
  have u3 : q < 185 := by have := hl.2.1; omega
  have t0 := hl.2.2.1
  have hh1 : hp T (rdR R q) := rdR_hp hh
  have hl1 : lawAt T (rdR R q) q := lawAt_up (lawAt_up hl (by omega)) (by omega)
  have r0 : rdR R q 79 0 = some 2 := by unfold rdR; rw [up2_nj (by decide), up2_same]
  have r4 : rdR R q 79 4 = some q := up2_same _ _ _ _
  have hx : xHyp T (rdR R q) (up2 I 79 1 (L : Int)) q L := ⟨hh1, hl1, up2_same _ _ _ _, hL2, r0, r4, fun j => by rw [up2_na (by decide)]; exact hb j⟩
  have ea : ∀ a, a ≠ 79 → up2 I 79 1 (L : Int) a = I a := fun a h => funext (fun j => up2_na h)
  have e : up2 (up2 (up2 I 79 1 (L : Int)) 79 2 0) 79 3 0 = xI (up2 I 79 1 (L : Int)) q 0 0 (I q 0) (I q 6) (I (q + 1)) (I (q + 2)) (I (q + 3)) (I (q + 4)) := by
    refine (congrArg (fun z => up2 (up2 z 79 2 0) 79 3 0) (xI_id (I := up2 I 79 1 (L : Int)) (q := q))).trans ?_
    rw [xu_p, xu_f, ea q (by omega), ea (q + 1) (by omega), ea (q + 2) (by omega), ea (q + 3) (by omega), ea (q + 4) (by omega)]
  have e2 : up2 (up2 R 79 0 (some 2)) 79 4 (some q) = rdR R q := rfl
  have u1 : ¬ ((200 : Nat) : Int) < (L : Int) := by omega
  have w := p27 (s := s) (J := J) (l1 := some (.inr (.inr (some 2)))) (l2 := some (.inl (L : Int))) (Q := Q) hx hd 161 0 0 0 0 (I (q + 1)) (I (q + 2)) (I (q + 3)) (I (q + 4)) (by omega) (by omega) (by omega) (by omega) (by omega)
  rw [sgX_up] at w
  simp only [s27_0, s27_1, s27_2, s27_3, s27_4, s27_5, s27_6, s27_7, s27_8, s27_9, s27_10, s27_11, s27_12, s27_13, s27_14, s27_15, s27_16, s27_17, s27_18, s27_19, s27_20, s27_21, s27_22, e27, Option.toList_some, Option.toList_none, List.cons_append, List.nil_append, Nat.le_refl, true_and, and_true, true_or, or_true, false_or, or_false, true_implies, false_implies, implies_true, not_true_eq_false, not_false_eq_true, eq_self, Nat.reduceLT, Nat.reduceLeDiff, Nat.reduceEqDiff, Nat.reduceAdd, Nat.reduceSub, Int.reduceLT, Int.reduceLE, Int.reduceEq, Int.reduceNeg, Int.reduceNe, Int.reduceAdd, Int.reduceSub, Int.reduceMul, Int.reduceToNat, Int.toNat_zero, Int.toNat_one, Int.toNat_natCast, am_cats, am_cat, am_st1, am_st2, am_clr, up2_na, up2_nj, up2_same, List.getElem?_cons_zero, List.getElem?_cons_succ, List.set_cons_zero, List.set_cons_succ, ne_eq, tk_79 hh, tk_2 hh, k212, u1, if_false, reduceIte, t0, u3, e, e2, r4, k28 hl1]
  refine wpc_mono (w (fun f hf h0 p1 cl1 n1 S V A C _ _ _ ha => hB f hf h0 p1 cl1 n1 S V A C ha) (fun h0 S V A C ho => ?_)) (fun v g hv => ?_)
  · have := hO h0 S V A C ho
    rw [Nat.zero_add, Nat.zero_add]
    exact this
  · obtain ⟨v0, v1, v2⟩ := hv
    subst v0
    refine ⟨v1, ?_⟩
    simp only [s27_23, s27_24, Option.toList_some, Option.toList_none, List.cons_append, List.nil_append, Nat.le_refl, true_and, and_true, true_or, or_true, false_or, or_false, true_implies, false_implies, implies_true, not_true_eq_false, not_false_eq_true, eq_self, Nat.reduceLT, Nat.reduceLeDiff, Nat.reduceEqDiff, Nat.reduceAdd, Nat.reduceSub, Int.reduceLT, Int.reduceLE, Int.reduceEq, Int.reduceNeg, Int.reduceNe, Int.reduceAdd, Int.reduceSub, Int.reduceMul, Int.reduceToNat, Int.toNat_zero, Int.toNat_one, Int.toNat_natCast, am_cats, am_cat, am_st1, am_st2, am_clr, up2_na, up2_nj, up2_same, List.getElem?_cons_zero, List.getElem?_cons_succ, List.set_cons_zero, List.set_cons_succ, ne_eq]
    exact v2
theorem x26w {a n : Int} (hd : 40 ≤ d) (hH : eH (185, s, T, I, J, R)) (q0 : ¬ ((0 ≤ a ∧ a < I 0 1) ∧ (1 ≤ n ∧ n ≤ 160) ∧ n ≤ I 1 1) → Q (some (.inl (-1))) (185, s, T, I, J, R)) (q1 : ∀ k L sp q : Nat, a = (k : Int) → n = (L : Int) → ((0 ≤ a ∧ a < I 0 1) ∧ (1 ≤ n ∧ n ≤ 160) ∧ n ≤ I 1 1) → k < 6 → L ≤ 160 → R 0 12 = some sp → sp ∈ lawIds → R 80 k = some q → q ∈ lawIds → (∀ f, (lwS (sgX I L) L 161 0 0 0).1 = f → ¬ f = 0 → ∀ (p1 cl1 n1 : Nat) (S V A C : Nat → Int), A 0 = I (sp + 3) 0 → Q (some (.inl f)) (185, s, T, up2 (xI (up2 I 79 1 (L : Int)) sp (p1 : Int) f (cl1 : Int) (n1 : Int) S V A C) 1 1 0, J, rdR R sp)) ∧ ((lwS (sgX I L) L 161 0 0 0).1 = 0 → ∀ S V A C : Nat → Int, xO S V A C 0 0 (I (sp + 1)) (I (sp + 2)) (I (sp + 3)) (I (sp + 4)) (lwS (sgX I L) L 161 0 0 0) → Q (some (.inl ((lwS (sgX I L) L 161 0 0 0).2.2.length : Int))) (185, s, T, up2 (xI (up2 I 79 1 (L : Int)) sp (L : Int) 0 ((lwS (sgX I L) L 161 0 0 0).2.2.length : Int) ((lwS (sgX I L) L 161 0 0 0).2.1.length : Int) S V A C) 1 1 0, J, up2 (up2 (rdR R sp) 80 k (some sp)) 0 12 (some q)))) : wpc codeT mX (d + 1) 26 [.inr (.inr (some 0)), .inl a, .inl n] (185, s, T, I, J, R) Q := by
  have h5 := eH5_of hH
  have hh := hp_of h5
  have b1 : 0 ≤ I 0 1 ∧ I 0 1 ≤ 6 := ebd hH (by decide) (by decide) (by decide)
  by_cases hg : ((0 ≤ a ∧ a < I 0 1) ∧ (1 ≤ n ∧ n ≤ 160) ∧ n ≤ I 1 1)
  · clear q0
    obtain ⟨g1, g2, g3⟩ := id hg
    obtain ⟨k, rfl⟩ : ∃ m : Nat, a = m := ⟨a.toNat, by omega⟩
    obtain ⟨L, rfl⟩ : ∃ m : Nat, n = m := ⟨n.toNat, by omega⟩
    have hk : k < 6 := by omega
    have hL2 : L ≤ 160 := by omega
    have g3' : ¬ I 1 1 < (L : Int) := by omega
    obtain ⟨sp, e12, tsp, sp185, msp⟩ := lkT_12 hH
    obtain ⟨q, e80, tq, q185, mq⟩ := lkT_80 hH hk
    have hl : lawAt T R sp := lawAt_of hh msp
    obtain ⟨qB, qO⟩ := q1 k L sp q rfl rfl hg hk hL2 e12 msp e80 mq
    obtain ⟨e, rfl⟩ : ∃ e, d = e + 2 := ⟨d - 2, by omega⟩
    have hb : ∀ j, 0 ≤ I 2 j ∧ I 2 j ≤ 255 ∨ L ≤ j := fun j => by
      by_cases z : j < 200
      · exact Or.inl (ebd hH (by decide) z ((bI_hi (by decide)).trans (by decide)))
      · exact Or.inr (by omega)
    have hh1 : hp T (rdR R sp) := rdR_hp hh
    have f1 : rdR R sp 80 k = some q := (rdR_na (by decide)).trans e80
    have f2 : rdR R sp 0 12 = some sp := (rdR_na (by decide)).trans e12
    have n80 : 80 < sp := hl.1
    have n1 : ¬ sp = 1 := by omega
    have u1 : 0 ≤ (k : Int) ∧ (k : Int) < ((6 : Nat) : Int) := by omega
    have rd : wpc codeT mX (e + 2) 27 [.inr (.inr (some 79)), .inr (.inr (some 2)), .inl (L : Int), .inr (.inr (some sp))] (185, s, T, I, J, R) (fun v g1 => (185 ≤ g1.1 ∧ s ≤ g1.2.1) ∧ wp codeT mX (e + 2 + 1) 26 25 [some (.inr (.inr (some 0))), some (.inl (k : Int)), some (.inl (L : Int)), none, none] (v.toList ++ []) g1 Q) := by
      refine x27 hh hl hL2 hb (by omega) (fun f hf h0 p1 cl1 n1 S V A C ha => ⟨⟨Nat.le_refl _, Nat.le_refl _⟩, ?_⟩) (fun h0 S V A C ho => ⟨⟨Nat.le_refl _, Nat.le_refl _⟩, ?_⟩)
      · have fin := qB f hf h0 p1 cl1 n1 S V A C ha
        simp only [s26_25, s26_26, s26_27, s26_28, s26_29, s26_30, s26_31, s26_32, e49, s49_0, s49_1, s49_2, s49_3, Option.toList_some, Option.toList_none, List.cons_append, List.nil_append, Nat.le_refl, true_and, and_true, true_or, or_true, false_or, or_false, true_implies, false_implies, implies_true, not_true_eq_false, not_false_eq_true, eq_self, Nat.reduceLT, Nat.reduceLeDiff, Nat.reduceEqDiff, Nat.reduceAdd, Nat.reduceSub, Int.reduceLT, Int.reduceLE, Int.reduceEq, Int.reduceNeg, Int.reduceNe, Int.reduceAdd, Int.reduceSub, Int.reduceMul, Int.reduceToNat, Int.toNat_zero, Int.toNat_one, Int.toNat_natCast, am_cats, am_cat, am_st1, am_st2, am_clr, up2_na, up2_nj, up2_same, List.getElem?_cons_zero, List.getElem?_cons_succ, List.set_cons_zero, List.set_cons_succ, ne_eq, tk_0 hh1, tk_1 hh1, tk_80 hh1, rk_0_5 hh1, rk_0_11 hh1, h0]
        exact fin
      · have fin := qO h0 S V A C ho
        simp only [s26_25, s26_26, s26_27, s26_28, s26_29, s26_30, s26_31, s26_32, s26_33, s26_34, s26_35, s26_36, s26_37, s26_38, s26_39, s26_40, s26_41, s26_42, s26_43, s26_44, s26_45, s26_46, s26_47, s26_48, s26_49, s26_50, s26_51, s26_52, e49, s49_0, s49_1, s49_2, s49_3, Option.toList_some, Option.toList_none, List.cons_append, List.nil_append, Nat.le_refl, true_and, and_true, true_or, or_true, false_or, or_false, true_implies, false_implies, implies_true, not_true_eq_false, not_false_eq_true, eq_self, Nat.reduceLT, Nat.reduceLeDiff, Nat.reduceEqDiff, Nat.reduceAdd, Nat.reduceSub, Int.reduceLT, Int.reduceLE, Int.reduceEq, Int.reduceNeg, Int.reduceNe, Int.reduceAdd, Int.reduceSub, Int.reduceMul, Int.reduceToNat, Int.toNat_zero, Int.toNat_one, Int.toNat_natCast, am_cats, am_cat, am_st1, am_st2, am_clr, up2_na, up2_nj, up2_same, List.getElem?_cons_zero, List.getElem?_cons_succ, List.set_cons_zero, List.set_cons_succ, ne_eq, tk_0 hh1, tk_1 hh1, tk_80 hh1, rk_0_5 hh1, rk_0_11 hh1, f1, f2, tsp, sp185, tq, q185, u1, n1, xI_c n80]
        exact fin
    simp only [s26_0, s26_1, s26_2, s26_3, s26_4, s26_5, s26_6, s26_7, s26_8, s26_9, s26_10, s26_11, s26_12, s26_13, s26_14, s26_15, s26_16, s26_17, s26_18, s26_19, s26_20, s26_21, s26_22, s26_23, s26_24, e26, Option.toList_some, Option.toList_none, List.cons_append, List.nil_append, Nat.le_refl, true_and, and_true, true_or, or_true, false_or, or_false, true_implies, false_implies, implies_true, not_true_eq_false, not_false_eq_true, eq_self, Nat.reduceLT, Nat.reduceLeDiff, Nat.reduceEqDiff, Nat.reduceAdd, Nat.reduceSub, Int.reduceLT, Int.reduceLE, Int.reduceEq, Int.reduceNeg, Int.reduceNe, Int.reduceAdd, Int.reduceSub, Int.reduceMul, Int.reduceToNat, Int.toNat_zero, Int.toNat_one, Int.toNat_natCast, am_cats, am_cat, am_st1, am_st2, am_clr, up2_na, up2_nj, up2_same, List.getElem?_cons_zero, List.getElem?_cons_succ, List.set_cons_zero, List.set_cons_succ, ne_eq, tk_0 hh, tk_1 hh, tk_79 hh, rk_0_5 hh, rk_0_10 hh, rk_1_0 hh, k17 hh, k18, i10, g1, g2, g3', e12]
    exact rd
  · clear q1
    replace q0 := q0 hg
    simp only [s26_0, s26_1, s26_2, s26_3, s26_4, s26_5, s26_6, s26_7, s26_8, s26_9, s26_10, s26_11, s26_12, s26_13, s26_14, s26_15, e26, Option.toList_some, Option.toList_none, List.cons_append, List.nil_append, Nat.le_refl, true_and, and_true, true_or, or_true, false_or, or_false, true_implies, false_implies, implies_true, not_true_eq_false, not_false_eq_true, eq_self, Nat.reduceLT, Nat.reduceLeDiff, Nat.reduceEqDiff, Nat.reduceAdd, Nat.reduceSub, Int.reduceLT, Int.reduceLE, Int.reduceEq, Int.reduceNeg, Int.reduceNe, Int.reduceAdd, Int.reduceSub, Int.reduceMul, Int.reduceToNat, Int.toNat_zero, Int.toNat_one, Int.toNat_natCast, am_cats, am_cat, am_st1, am_st2, am_clr, up2_na, up2_nj, up2_same, List.getElem?_cons_zero, List.getElem?_cons_succ, List.set_cons_zero, List.set_cons_succ, ne_eq, tk_0 hh, tk_1 hh, rk_0_5 hh, k17 hh, k18, i10, Classical.not_not]
    exact ⟨fun _ => q0, fun z1 => ⟨fun _ => q0, fun z2 => ⟨fun _ => q0, fun z3 => absurd ⟨z1, z2, by omega⟩ hg⟩⟩⟩
set_option maxHeartbeats 2000000 in
theorem w142 {a n : Int} {p3 p4 p5 : Option AV} (hH : eH (185, s, T, I, J, R)) (neg : ¬ ((0 ≤ a ∧ a < I 152 1) ∧ (1 ≤ n ∧ n ≤ 160) ∧ n ≤ I 152 17) → Q (some (.inl (-1))) (185, s, T, I, J, R)) (fin : ∀ k L : Nat, a = (k : Int) → n = (L : Int) → ((0 ≤ a ∧ a < I 152 1) ∧ (1 ≤ n ∧ n ≤ 160) ∧ n ≤ I 152 17) → k < 6 → L ≤ 160 → (∀ f, (lwS (hr I L) L 161 0 0 0).1 = f → ¬ f = 0 → ∀ (p o cm w sm nm : Int) (X W F H G : Nat → Int), Q (some (.inl f)) (185, s, T, pI (mI I 0 (L : Int) (I 168) (I 169) (I 170) (I 171) (I 172)) p f o cm w sm nm X W F H G, J, R)) ∧ ((lwS (hr I L) L 161 0 0 0).1 = 0 → ∀ (nm : Int) (X W F H G : Nat → Int), (lwS (hr I L) L 161 0 0 0).2.2.length ≤ 12 → (lwS (hr I L) L 161 0 0 0).2.1.length ≤ 160 → YB F → YB H → YB G → yO X F H G 0 0 (I 163) (I 165) (I 166) (I 167) (lwS (hr I L) L 161 0 0 0) → Q (some (.inl ((lwS (hr I L) L 161 0 0 0).2.2.length : Int))) (185, s, T, pI (mI I 0 (L : Int) (cG 180 (I 168) X k (lwS (hr I L) L 161 0 0 0).2.1.length) (sx (I 169) k ((lwS (hr I L) L 161 0 0 0).2.2.length : Int)) (cG 12 (I 170) (fun j => 180 * (k : Int) + F j) k (lwS (hr I L) L 161 0 0 0).2.2.length) (cG 12 (I 171) (fun j => 180 * (k : Int) + H j) k (lwS (hr I L) L 161 0 0 0).2.2.length) (cG 12 (I 172) (fun j => 180 * (k : Int) + G j) k (lwS (hr I L) L 161 0 0 0).2.2.length)) (L : Int) (I 152 20) 0 ((lwS (hr I L) L 161 0 0 0).2.1.length : Int) 0 ((lwS (hr I L) L 161 0 0 0).2.2.length : Int) nm X W F H G, J, R))) : wp codeT mX (d + 8) 142 0 [some (.inr (.inr (some 152))), some (.inl a), some (.inl n), p3, p4, p5] [] (185, s, T, I, J, R) Q := by
  have h5 := eH5_of hH
  have hh := hp_of h5
  have hm := mdl_hp hh
  have t152 : T 152 = (12, 53) := hm.1 152 (by decide)
  have t169 : T 169 = (100, 6) := hm.1 169 (by decide)
  have r2 : R 152 32 = some 169 := hm.2 32 169 (by decide +kernel) (by decide)
  have hst : 0 ≤ I 152 1 ∧ I 152 1 ≤ 6 := ebd hH (by decide) (by decide) (by decide)
  have key : ((0 ≤ a ∧ a < I 152 1) ∧ (1 ≤ n ∧ n ≤ 160) ∧ n ≤ I 152 17) → wp codeT mX (d + 8) 142 15 [some (.inr (.inr (some 152))), some (.inl a), some (.inl n), p3, p4, p5] [] (185, s, T, I, J, R) Q := by
    intro hG0
    clear neg
    obtain ⟨g1, g2, g3⟩ := id hG0
    obtain ⟨k, rfl⟩ : ∃ m : Nat, a = (m : Int) := ⟨a.toNat, by omega⟩
    obtain ⟨L, rfl⟩ : ∃ m : Nat, n = (m : Int) := ⟨n.toNat, by omega⟩
    have hk : k < 6 := by omega
    have hL2 : L ≤ 160 := by omega
    obtain ⟨fB, fO⟩ := fin k L rfl rfl hG0 hk hL2
    clear fin
    have hy : yHyp T R (mI I (I 152 17) (L : Int) (I 168) (I 169) (I 170) (I 171) (I 172)) L := ⟨hh, rfl, hL2, fun j => by
      by_cases z : j < 200
      · have b162 : -128 ≤ I 162 j ∧ I 162 j ≤ 127 := ebd hH (a := 162) (by decide) z ((bI_hi (by decide)).trans (by decide))
        exact Or.inl b162
      · exact Or.inr (by omega)⟩
    have hWW : XB (I 164) := fun j hj => ebd hH (a := 164) (by decide) hj ((bI_hi (by decide)).trans (by decide))
    have hF : YB (I 165) := fun j hj => ebd hH (a := 165) (by decide) hj ((bI_hi (by decide)).trans (by decide))
    have hHH : YB (I 166) := fun j hj => ebd hH (a := 166) (by decide) hj ((bI_hi (by decide)).trans (by decide))
    have hG : YB (I 167) := fun j hj => ebd hH (a := 167) (by decide) hj ((bI_hi (by decide)).trans (by decide))
    have eh : hr (mI I (I 152 17) (L : Int) (I 168) (I 169) (I 170) (I 171) (I 172)) L = hr I L := by
      funext p
      rfl
    have w := p142 (s := s) (J := J) (e := d) (Q := Q) (fa := I 152 20) (a := (k : Int)) (zn := (L : Int)) (p4 := p4) (p5 := p5) hy 161 0 0 0 (I 152 21) (I 152 23) (I 152 25) (I 163) (I 164) (I 165) (I 166) (I 167) (by omega) (by omega) (by omega) (by omega) hWW hF hHH hG
    rw [eh] at w
    refine s142_15.mpr ?_
    rw [← pm_id (I := I)]
    simp only [s142_16, s142_17, s142_18, s142_19, s142_20, s142_21, s142_22, s142_23, s142_24, s142_25, s142_26, s142_27, s142_28, Option.toList_some, Option.toList_none, List.cons_append, List.nil_append, Nat.le_refl, true_and, and_true, true_or, or_true, false_or, or_false, true_implies, false_implies, implies_true, not_true_eq_false, not_false_eq_true, eq_self, Nat.reduceLT, Nat.reduceLeDiff, Nat.reduceEqDiff, Nat.reduceAdd, Nat.reduceSub, Int.reduceLT, Int.reduceLE, Int.reduceEq, Int.reduceNeg, Int.reduceNe, Int.reduceAdd, Int.reduceSub, Int.reduceMul, Int.reduceToNat, Int.toNat_zero, Int.toNat_one, Int.toNat_natCast, am_cats, am_cat, am_st1, am_st2, am_clr, up2_na, up2_nj, up2_same, List.getElem?_cons_zero, List.getElem?_cons_succ, List.set_cons_zero, List.set_cons_succ, ne_eq, t152, pu_18, pu_22, pu_24, u_19]
    refine wpc_mono (w (fun f hf h0 p1 o1 n1 w1 sm1 nm1 X1 W1 F1 H1 G1 => ?_) (fun h0 nm X W F H G y1 y2 y3 y4 y5 y6 => ?_)) (fun v g hv => ?_)
    · have := fB f hf h0 p1 o1 n1 w1 sm1 nm1 X1 W1 F1 H1 G1
      refine s142_49.mpr ?_
      simp only [s142_50, s142_51, s142_52, s142_53, s142_54, s142_55, s142_56, Option.toList_some, Option.toList_none, List.cons_append, List.nil_append, Nat.le_refl, true_and, and_true, true_or, or_true, false_or, or_false, true_implies, false_implies, implies_true, not_true_eq_false, not_false_eq_true, eq_self, Nat.reduceLT, Nat.reduceLeDiff, Nat.reduceEqDiff, Nat.reduceAdd, Nat.reduceSub, Int.reduceLT, Int.reduceLE, Int.reduceEq, Int.reduceNeg, Int.reduceNe, Int.reduceAdd, Int.reduceSub, Int.reduceMul, Int.reduceToNat, Int.toNat_zero, Int.toNat_one, Int.toNat_natCast, am_cats, am_cat, am_st1, am_st2, am_clr, up2_na, up2_nj, up2_same, List.getElem?_cons_zero, List.getElem?_cons_succ, List.set_cons_zero, List.set_cons_succ, ne_eq, t152, u_17, pI_20]
      exact this
    · rw [Nat.zero_add] at y1 y2
      have fin := fO h0 nm X W F H G y1 y2 y3 y4 y5 y6
      rw [Nat.zero_add, Nat.zero_add]
      generalize lwS (hr I L) L 161 0 0 0 = lw at *
      have c2 := c2_loop (d := d) (s := s) (T := T) (I := I) (J := J) (R := R) (nz := (L : Int)) (g := 1) hm hk y1 y3 y4 y5 fin lw.2.2.length 0 p5 (by omega)
      rw [cG_0, cG_0, cG_0] at c2
      have c1 := cp_loop (d := d) (s := s) (T := T) (I := I) (J := J) (R := R) (Q := Q) (nz := (L : Int)) (g := 1) (l5 := p5) (tp := 0) (len := (L : Int)) (A0 := I 168) (X := X) (B := sx (I 169) k (lw.2.2.length : Int)) (C := I 170) (D := I 171) (E := I 172) (p := (L : Int)) (fa := I 152 20) (op := 0) (w := 0) (nm := nm) (W := W) (F := F) (H := H) (G := G) (a := k) (cm := lw.2.1.length) (sm := (lw.2.2.length : Int)) hm hk (by omega) (by
        refine s142_83.mpr ?_
        simp only [s142_84, Option.toList_some, Option.toList_none, List.cons_append, List.nil_append, Nat.le_refl, true_and, and_true, true_or, or_true, false_or, or_false, true_implies, false_implies, implies_true, not_true_eq_false, not_false_eq_true, eq_self, Nat.reduceLT, Nat.reduceLeDiff, Nat.reduceEqDiff, Nat.reduceAdd, Nat.reduceSub, Int.reduceLT, Int.reduceLE, Int.reduceEq, Int.reduceNeg, Int.reduceNe, Int.reduceAdd, Int.reduceSub, Int.reduceMul, Int.reduceToNat, Int.toNat_zero, Int.toNat_one, Int.toNat_natCast, am_cats, am_cat, am_st1, am_st2, am_clr, up2_na, up2_nj, up2_same, List.getElem?_cons_zero, List.getElem?_cons_succ, List.set_cons_zero, List.set_cons_succ, ne_eq]
        exact c2) lw.2.1.length 0 (by omega)
      rw [cG_0] at c1
      have ba : 0 ≤ (k : Int) ∧ (k : Int) < ((6 : Nat) : Int) := by omega
      refine s142_49.mpr ?_
      simp only [s142_50, s142_51, s142_52, s142_53, s142_57, s142_58, s142_59, s142_60, s142_61, s142_62, s142_63, s142_64, Option.toList_some, Option.toList_none, List.cons_append, List.nil_append, Nat.le_refl, true_and, and_true, true_or, or_true, false_or, or_false, true_implies, false_implies, implies_true, not_true_eq_false, not_false_eq_true, eq_self, Nat.reduceLT, Nat.reduceLeDiff, Nat.reduceEqDiff, Nat.reduceAdd, Nat.reduceSub, Int.reduceLT, Int.reduceLE, Int.reduceEq, Int.reduceNeg, Int.reduceNe, Int.reduceAdd, Int.reduceSub, Int.reduceMul, Int.reduceToNat, Int.toNat_zero, Int.toNat_one, Int.toNat_natCast, am_cats, am_cat, am_st1, am_st2, am_clr, up2_na, up2_nj, up2_same, List.getElem?_cons_zero, List.getElem?_cons_succ, List.set_cons_zero, List.set_cons_succ, ne_eq, t152, t169, r2, u_17, u_169, pI_24, ba]
      exact c1
    · obtain ⟨v1, z, v2, v3, v4⟩ := hv
      subst v2
      refine ⟨v1, ?_⟩
      simp only [s142_29, Option.toList_some, Option.toList_none, List.cons_append, List.nil_append, Nat.le_refl, true_and, and_true, true_or, or_true, false_or, or_false, true_implies, false_implies, implies_true, not_true_eq_false, not_false_eq_true, eq_self, Nat.reduceLT, Nat.reduceLeDiff, Nat.reduceEqDiff, Nat.reduceAdd, Nat.reduceSub, Int.reduceLT, Int.reduceLE, Int.reduceEq, Int.reduceNeg, Int.reduceNe, Int.reduceAdd, Int.reduceSub, Int.reduceMul, Int.reduceToNat, Int.toNat_zero, Int.toNat_one, Int.toNat_natCast, am_cats, am_cat, am_st1, am_st2, am_clr, up2_na, up2_nj, up2_same, List.getElem?_cons_zero, List.getElem?_cons_succ, List.set_cons_zero, List.set_cons_succ, ne_eq]
      exact v4
  by_cases z1 : a < 0
  · simp only [s142_0, s142_1, s142_2, s142_3, s142_13, s142_14, e135, s135_0, s135_1, s135_2, s135_3, s135_4, s135_5, s135_6, s135_7, s135_8, s135_9, Option.toList_some, Option.toList_none, List.cons_append, List.nil_append, Nat.le_refl, true_and, and_true, true_or, or_true, false_or, or_false, true_implies, false_implies, implies_true, not_true_eq_false, not_false_eq_true, eq_self, Nat.reduceLT, Nat.reduceLeDiff, Nat.reduceEqDiff, Nat.reduceAdd, Nat.reduceSub, Int.reduceLT, Int.reduceLE, Int.reduceEq, Int.reduceNeg, Int.reduceNe, Int.reduceAdd, Int.reduceSub, Int.reduceMul, Int.reduceToNat, Int.toNat_zero, Int.toNat_one, Int.toNat_natCast, am_cats, am_cat, am_st1, am_st2, am_clr, up2_na, up2_nj, up2_same, List.getElem?_cons_zero, List.getElem?_cons_succ, List.set_cons_zero, List.set_cons_succ, ne_eq, t152, z1]
    exact neg (fun q => by omega)
  by_cases z2 : a < I 152 1
  · by_cases z3 : n < 1
    · simp only [s142_0, s142_1, s142_2, s142_3, s142_4, s142_5, s142_6, s142_7, s142_8, s142_13, s142_14, e135, s135_0, s135_1, s135_2, s135_3, s135_4, s135_5, s135_6, s135_7, s135_8, s135_9, e136, s136_0, s136_1, s136_2, s136_3, s136_4, s136_5, s136_6, s136_7, s136_8, s136_9, Option.toList_some, Option.toList_none, List.cons_append, List.nil_append, Nat.le_refl, true_and, and_true, true_or, or_true, false_or, or_false, true_implies, false_implies, implies_true, not_true_eq_false, not_false_eq_true, eq_self, Nat.reduceLT, Nat.reduceLeDiff, Nat.reduceEqDiff, Nat.reduceAdd, Nat.reduceSub, Int.reduceLT, Int.reduceLE, Int.reduceEq, Int.reduceNeg, Int.reduceNe, Int.reduceAdd, Int.reduceSub, Int.reduceMul, Int.reduceToNat, Int.toNat_zero, Int.toNat_one, Int.toNat_natCast, am_cats, am_cat, am_st1, am_st2, am_clr, up2_na, up2_nj, up2_same, List.getElem?_cons_zero, List.getElem?_cons_succ, List.set_cons_zero, List.set_cons_succ, ne_eq, t152, z1, z2, z3]
      exact neg (fun q => by omega)
    by_cases z4 : 160 < n
    · simp only [s142_0, s142_1, s142_2, s142_3, s142_4, s142_5, s142_6, s142_7, s142_8, s142_13, s142_14, e135, s135_0, s135_1, s135_2, s135_3, s135_4, s135_5, s135_6, s135_7, s135_8, s135_9, e136, s136_0, s136_1, s136_2, s136_3, s136_4, s136_5, s136_6, s136_7, s136_8, s136_9, Option.toList_some, Option.toList_none, List.cons_append, List.nil_append, Nat.le_refl, true_and, and_true, true_or, or_true, false_or, or_false, true_implies, false_implies, implies_true, not_true_eq_false, not_false_eq_true, eq_self, Nat.reduceLT, Nat.reduceLeDiff, Nat.reduceEqDiff, Nat.reduceAdd, Nat.reduceSub, Int.reduceLT, Int.reduceLE, Int.reduceEq, Int.reduceNeg, Int.reduceNe, Int.reduceAdd, Int.reduceSub, Int.reduceMul, Int.reduceToNat, Int.toNat_zero, Int.toNat_one, Int.toNat_natCast, am_cats, am_cat, am_st1, am_st2, am_clr, up2_na, up2_nj, up2_same, List.getElem?_cons_zero, List.getElem?_cons_succ, List.set_cons_zero, List.set_cons_succ, ne_eq, t152, z1, z2, z3, z4]
      exact neg (fun q => by omega)
    have key := fun z5 : n ≤ I 152 17 => key ⟨⟨by omega, by omega⟩, ⟨by omega, by omega⟩, z5⟩
    by_cases z5 : I 152 17 < n
    · simp only [s142_0, s142_1, s142_2, s142_3, s142_4, s142_5, s142_6, s142_7, s142_8, s142_9, s142_10, s142_11, s142_12, s142_13, s142_14, e135, s135_0, s135_1, s135_2, s135_3, s135_4, s135_5, s135_6, s135_7, s135_8, s135_9, e136, s136_0, s136_1, s136_2, s136_3, s136_4, s136_5, s136_6, s136_7, s136_8, s136_9, Option.toList_some, Option.toList_none, List.cons_append, List.nil_append, Nat.le_refl, true_and, and_true, true_or, or_true, false_or, or_false, true_implies, false_implies, implies_true, not_true_eq_false, not_false_eq_true, eq_self, Nat.reduceLT, Nat.reduceLeDiff, Nat.reduceEqDiff, Nat.reduceAdd, Nat.reduceSub, Int.reduceLT, Int.reduceLE, Int.reduceEq, Int.reduceNeg, Int.reduceNe, Int.reduceAdd, Int.reduceSub, Int.reduceMul, Int.reduceToNat, Int.toNat_zero, Int.toNat_one, Int.toNat_natCast, am_cats, am_cat, am_st1, am_st2, am_clr, up2_na, up2_nj, up2_same, List.getElem?_cons_zero, List.getElem?_cons_succ, List.set_cons_zero, List.set_cons_succ, ne_eq, t152, z1, z2, z3, z4, z5]
      exact neg (fun q => by omega)
    · simp only [s142_0, s142_1, s142_2, s142_3, s142_4, s142_5, s142_6, s142_7, s142_8, s142_9, s142_10, s142_11, s142_12, e135, s135_0, s135_1, s135_2, s135_3, s135_4, s135_5, s135_6, s135_7, s135_8, s135_9, e136, s136_0, s136_1, s136_2, s136_3, s136_4, s136_5, s136_6, s136_7, s136_8, s136_9, Option.toList_some, Option.toList_none, List.cons_append, List.nil_append, Nat.le_refl, true_and, and_true, true_or, or_true, false_or, or_false, true_implies, false_implies, implies_true, not_true_eq_false, not_false_eq_true, eq_self, Nat.reduceLT, Nat.reduceLeDiff, Nat.reduceEqDiff, Nat.reduceAdd, Nat.reduceSub, Int.reduceLT, Int.reduceLE, Int.reduceEq, Int.reduceNeg, Int.reduceNe, Int.reduceAdd, Int.reduceSub, Int.reduceMul, Int.reduceToNat, Int.toNat_zero, Int.toNat_one, Int.toNat_natCast, am_cats, am_cat, am_st1, am_st2, am_clr, up2_na, up2_nj, up2_same, List.getElem?_cons_zero, List.getElem?_cons_succ, List.set_cons_zero, List.set_cons_succ, ne_eq, t152, z1, z2, z3, z4, z5]
      exact key (by omega)
  · simp only [s142_0, s142_1, s142_2, s142_3, s142_13, s142_14, e135, s135_0, s135_1, s135_2, s135_3, s135_4, s135_5, s135_6, s135_7, s135_8, s135_9, Option.toList_some, Option.toList_none, List.cons_append, List.nil_append, Nat.le_refl, true_and, and_true, true_or, or_true, false_or, or_false, true_implies, false_implies, implies_true, not_true_eq_false, not_false_eq_true, eq_self, Nat.reduceLT, Nat.reduceLeDiff, Nat.reduceEqDiff, Nat.reduceAdd, Nat.reduceSub, Int.reduceLT, Int.reduceLE, Int.reduceEq, Int.reduceNeg, Int.reduceNe, Int.reduceAdd, Int.reduceSub, Int.reduceMul, Int.reduceToNat, Int.toNat_zero, Int.toNat_one, Int.toNat_natCast, am_cats, am_cat, am_st1, am_st2, am_clr, up2_na, up2_nj, up2_same, List.getElem?_cons_zero, List.getElem?_cons_succ, List.set_cons_zero, List.set_cons_succ, ne_eq, t152, z1, z2]
    exact neg (fun q => by omega)
theorem pm_lo {I : Nat → Nat → Int} {tp len p' fa op cm w sm nm : Int} {A' B' C' D' E' X W F H G : Nat → Int} {a j : Nat} (h : a < 152) : pI (mI I tp len A' B' C' D' E') p' fa op cm w sm nm X W F H G a j = I a j := by
  unfold pI mI
  rw [if_neg (by omega), if_neg (by omega), if_neg (by omega), if_neg (by omega), if_neg (by omega), if_neg (by omega), if_neg (by omega), if_neg (by omega), if_neg (by omega), if_neg (by omega), if_neg (by omega), if_neg (by omega)]
theorem hr_of {I1 : Nat → Nat → Int} (h : ∀ j, I1 162 j = I 162 j) : hr I1 L = hr I L := by
  funext p
  unfold hr
  rw [h p]
theorem hr_sg (hH : eH (185, s, T, I, J, R)) (l9 : lkY I) (hL : (L : Int) ≤ I 1 1) (hL2 : L ≤ 160) : hr I L = sgX I L := by
  funext p
  unfold hr sgX
  by_cases h : p < L
  · rw [if_pos h, if_pos h]
    have b : -128 ≤ I 162 p ∧ I 162 p ≤ 127 := ebd hH (a := 162) (by decide) (show p < 200 by omega) ((bI_hi (by decide)).trans (by decide))
    rw [and255 b.1 b.2, l9 p (by omega)]
  · rw [if_neg h, if_neg h]
end
section
variable {L s d : Nat} {X : Nat → Int}
theorem lawIds_b {q : Nat} (h : q ∈ lawIds) : 81 ≤ q ∧ q ≤ 146 := (show ∀ q, q ∈ lawIds → 81 ≤ q ∧ q ≤ 146 by decide) q h
theorem pr_law9 (hL : L ≤ 3072) (hX : ∀ j, rg32 (X j)) (hd : 48 ≤ d) : pr L X s LKP d 26 142 2 false true := by
  refine pr_mk (cx := cn73) (cm := cn178) (nx := 2) (nm := 3) hL hX (cn_all 73 (by decide) cn73 rfl) (cn_all 178 (by decide) cn178 rfl) rfl (Nat.le_trans (by decide) hd) (fun as g hl hr0 hH hs hP => ?_)
  obtain ⟨a, n, rfl⟩ := len2 hl
  obtain ⟨c, s, T, I, J, R⟩ := g
  have hc : c = 185 := hH.1
  subst hc
  have hP : LK I := hP
  obtain ⟨l0, l1, l2, l3, l4, l5, l6, l7, l8, l9, l10, l11, l12, l13, l14, l15⟩ := hP
  have e1 : I 0 1 = I 152 1 := l1
  have e8 : I 1 1 = I 152 17 := l8
  obtain ⟨d, rfl⟩ : ∃ e, d = e + 8 := ⟨d - 8, by omega⟩
  show wpc codeT mX (d + 7 + 1) 26 [.inr (.inr (some 0)), .inl a, .inl n] _ _
  have fin : ∀ I1 J1 R1 I2 J2 R2, eM cn73.2.2.2.1 (185, s, T, I, J, R) (185, s, T, I1, J1, R1) → I2 152 17 = 0 → I2 1 1 = 0 → eM cn178.2.2.2.1 (185, s, T, I1, J1, R1) (185, s, T, I2, J2, R2) → LKP (185, s, T, I2, J2, R2) := by
    intro I1 J1 R1 I2 J2 R2 m1 h1 h2 m2
    refine ⟨rdS_2 (twn_S 0 0 152 0) (by decide +kernel : (disj cn73.2.2.2.1 _ && disj cn178.2.2.2.1 _) = true) m1 m2 l0, rdS_2 (twn_S 0 1 152 1) (by decide +kernel : (disj cn73.2.2.2.1 _ && disj cn178.2.2.2.1 _) = true) m1 m2 l1, rdS_2 (twn_S 0 2 152 2) (by decide +kernel : (disj cn73.2.2.2.1 _ && disj cn178.2.2.2.1 _) = true) m1 m2 l2, rdS_2 (twn_S 0 3 152 5) (by decide +kernel : (disj cn73.2.2.2.1 _ && disj cn178.2.2.2.1 _) = true) m1 m2 l3, rdS_2 (twn_S 0 4 152 6) (by decide +kernel : (disj cn73.2.2.2.1 _ && disj cn178.2.2.2.1 _) = true) m1 m2 l4, rdS_2 (twn_S 3 3 152 3) (by decide +kernel : (disj cn73.2.2.2.1 _ && disj cn178.2.2.2.1 _) = true) m1 m2 l5, rdS_2 (twn_S 17 3 152 4) (by decide +kernel : (disj cn73.2.2.2.1 _ && disj cn178.2.2.2.1 _) = true) m1 m2 l6, rdS_2 (twn_S 102 3 152 46) (by decide +kernel : (disj cn73.2.2.2.1 _ && disj cn178.2.2.2.1 _) = true) m1 m2 l7, ?_, ?_, rdS_2 (lkS_S) (by decide +kernel : (disj cn73.2.2.2.1 _ && disj cn178.2.2.2.1 _) = true) m1 m2 l10, rdS_2 (lkT_S) (by decide +kernel : (disj cn73.2.2.2.1 _ && disj cn178.2.2.2.1 _) = true) m1 m2 l11, rdS_2 (lkB_S) (by decide +kernel : (disj cn73.2.2.2.1 _ && disj cn178.2.2.2.1 _) = true) m1 m2 l12, rdS_2 (lkO_S) (by decide +kernel : (disj cn73.2.2.2.1 _ && disj cn178.2.2.2.1 _) = true) m1 m2 l13, rdS_2 (lkC_S) (by decide +kernel : (disj cn73.2.2.2.1 _ && disj cn178.2.2.2.1 _) = true) m1 m2 l14, rdS_2 (lkQ_S) (by decide +kernel : (disj cn73.2.2.2.1 _ && disj cn178.2.2.2.1 _) = true) m1 m2 l15⟩
    · exact h2.trans h1.symm
    · intro j hj
      have hj : (j : Int) < I2 1 1 := hj
      rw [h2] at hj
      omega
  refine x26w (by omega) hH (fun hg _ hH1 m1 s1 => ⟨_, rfl, ?_⟩) (fun k n1 sp q ea en hg hk hL2 e12 msp e80 mq => ?_)
  · have hg2 : ¬ ((0 ≤ a ∧ a < I 152 1) ∧ (1 ≤ n ∧ n ≤ 160) ∧ n ≤ I 152 17) := by rw [← e1, ← e8]; exact hg
    show wp codeT mX (d + 8) 142 0 [some (.inr (.inr (some 152))), some (.inl a), some (.inl n), none, none, none] [] (185, s, T, I, J, R) _
    refine w142 hH (fun _ _ hH2 m2 => ?_) (fun _ _ _ _ h => absurd h hg2)
    exact ⟨_, rfl, fun _ => rfl, l0, l1, l2, l3, l4, l5, l6, l7, l8, l9, l10, l11, l12, l13, l14, l15⟩
  · subst ea en
    have hsp := lawIds_b msp
    have hs0 : hr I n1 = sgX I n1 := hr_sg hH l9 hg.2.2 hL2
    have hI : ∀ (p f cl sz : Int) (S V A C : Nat → Int) (a j : Nat), (a = 152 ∨ a = 162) → up2 (xI (up2 I 79 1 (n1 : Int)) sp p f cl sz S V A C) 1 1 0 a j = I a j := by
      intro p f cl sz S V A C a j ha
      rw [up2_na (by omega), xI_o (by omega) (by omega) (by omega), up2_na (by omega)]
    have hg2 : ∀ (p f cl sz : Int) (S V A C : Nat → Int), (0 ≤ (k : Int) ∧ (k : Int) < up2 (xI (up2 I 79 1 (n1 : Int)) sp p f cl sz S V A C) 1 1 0 152 1) ∧ (1 ≤ (n1 : Int) ∧ (n1 : Int) ≤ 160) ∧ (n1 : Int) ≤ up2 (xI (up2 I 79 1 (n1 : Int)) sp p f cl sz S V A C) 1 1 0 152 17 := by
      intro p f cl sz S V A C
      rw [hI _ _ _ _ _ _ _ _ _ _ (Or.inl rfl), hI _ _ _ _ _ _ _ _ _ _ (Or.inl rfl), ← e1, ← e8]
      exact hg
    refine ⟨fun f hf h0 p1 cl1 z1 S V A C ha _ hH1 m1 s1 => ⟨_, rfl, ?_⟩, fun h0 S V A C ho _ hH1 m1 s1 => ⟨_, rfl, ?_⟩⟩
    · show wp codeT mX (d + 8) 142 0 [some (.inr (.inr (some 152))), some (.inl (k : Int)), some (.inl (n1 : Int)), none, none, none] [] (185, s, T, _, J, _) _
      refine w142 hH1 (fun h => absurd (hg2 _ _ _ _ _ _ _ _) h) (fun k' n' ek en _ _ _ => ?_)
      have ek : k' = k := by omega
      have en : n' = n1 := by omega
      subst ek en
      rw [hr_of (I := I) (fun j => hI _ _ _ _ _ _ _ _ _ _ (Or.inr rfl)), hs0]
      refine ⟨fun f2 hf2 h02 p o cm w sm nm X W F H G _ hH2 m2 => ⟨_, rfl, fun _ => ?_, fin _ _ _ _ _ _ m1 rfl ((pm_lo (by decide)).trans (up2_same _ _ _ _)) m2⟩, fun h02 => absurd (hf.symm.trans h02) h0⟩
      exact hf.symm.trans hf2
    · show wp codeT mX (d + 8) 142 0 [some (.inr (.inr (some 152))), some (.inl (k : Int)), some (.inl (n1 : Int)), none, none, none] [] (185, s, T, _, J, _) _
      refine w142 hH1 (fun h => absurd (hg2 _ _ _ _ _ _ _ _) h) (fun k' n' ek en _ _ _ => ?_)
      have ek : k' = k := by omega
      have en : n' = n1 := by omega
      subst ek en
      rw [hr_of (I := I) (fun j => hI _ _ _ _ _ _ _ _ _ _ (Or.inr rfl)), hs0]
      exact ⟨fun f2 hf2 h02 => absurd (hf2.symm.trans h0) h02, fun h02 nm X W F H G y1 y2 y3 y4 y5 y6 _ hH2 m2 => ⟨_, rfl, fun _ => rfl, fin _ _ _ _ _ _ m1 rfl ((pm_lo (by decide)).trans (up2_same _ _ _ _)) m2⟩⟩
end
