/-! the law by hand, 4: what both ask first -/
theorem i10 {c : Prop} [Decidable c] : ((if c then (1 : Int) else 0) = 0) = ¬ c := by
  by_cases h : c
  · rw [if_pos h]; exact propext ⟨fun z => absurd z (by decide), fun z => absurd h z⟩
  · rw [if_neg h]; exact propext ⟨fun _ => h, fun _ => rfl⟩
theorem i01 {c : Prop} [Decidable c] : ((if c then (1 : Int) else 0) = 0 ∨ (if c then (1 : Int) else 0) = 1) = True := by
  by_cases h : c
  · rw [if_pos h]; exact propext ⟨fun _ => trivial, fun _ => Or.inr rfl⟩
  · rw [if_neg h]; exact propext ⟨fun _ => trivial, fun _ => Or.inl rfl⟩
section
variable {d s : Nat} {T : Nat → Nat × Nat} {I J : Nat → Nat → Int} {R : Nat → Nat → Option Nat} {Q : Option AV → AH → Prop}
theorem k16 (hh : hp T R) {a : Int} : wpc codeT mX d 16 [.inr (.inr (some 0)), .inl a] (185, s, T, I, J, R) Q ↔ Q (some (.inl (if 0 ≤ a ∧ a < I 0 2 then 1 else 0))) (185, s, T, I, J, R) := wpc_det (by
  simp only [e16, s16_0, s16_1, s16_2, s16_3, s16_4, s16_5, s16_6, s16_7, s16_8, s16_9, Option.toList_some, Option.toList_none, List.cons_append, List.nil_append, Nat.le_refl, true_and, and_true, true_or, or_true, false_or, or_false, true_implies, false_implies, implies_true, not_true_eq_false, not_false_eq_true, eq_self, Nat.reduceLT, Nat.reduceLeDiff, Nat.reduceEqDiff, Nat.reduceAdd, Nat.reduceSub, Int.reduceLT, Int.reduceLE, Int.reduceEq, Int.reduceNeg, Int.reduceNe, Int.reduceAdd, Int.reduceSub, Int.reduceMul, Int.reduceToNat, Int.toNat_zero, Int.toNat_one, Int.toNat_natCast, am_cats, am_cat, am_st1, am_st2, am_clr, up2_na, up2_nj, up2_same, List.getElem?_cons_zero, List.getElem?_cons_succ, List.set_cons_zero, List.set_cons_succ, ne_eq, tk_0 hh]
  refine ⟨fun h => ?_, fun h => ⟨fun h2 => ?_, fun h2 => ?_⟩⟩
  · rw [if_neg (by omega)]
  · rw [if_pos (by omega)]
  · rw [if_neg (by omega)])
theorem k17 (hh : hp T R) {a : Int} : wpc codeT mX d 17 [.inr (.inr (some 0)), .inl a] (185, s, T, I, J, R) Q ↔ Q (some (.inl (if 0 ≤ a ∧ a < I 0 1 then 1 else 0))) (185, s, T, I, J, R) := wpc_det (by
  simp only [e17, s17_0, s17_1, s17_2, s17_3, s17_4, s17_5, s17_6, s17_7, s17_8, s17_9, Option.toList_some, Option.toList_none, List.cons_append, List.nil_append, Nat.le_refl, true_and, and_true, true_or, or_true, false_or, or_false, true_implies, false_implies, implies_true, not_true_eq_false, not_false_eq_true, eq_self, Nat.reduceLT, Nat.reduceLeDiff, Nat.reduceEqDiff, Nat.reduceAdd, Nat.reduceSub, Int.reduceLT, Int.reduceLE, Int.reduceEq, Int.reduceNeg, Int.reduceNe, Int.reduceAdd, Int.reduceSub, Int.reduceMul, Int.reduceToNat, Int.toNat_zero, Int.toNat_one, Int.toNat_natCast, am_cats, am_cat, am_st1, am_st2, am_clr, up2_na, up2_nj, up2_same, List.getElem?_cons_zero, List.getElem?_cons_succ, List.set_cons_zero, List.set_cons_succ, ne_eq, tk_0 hh]
  refine ⟨fun h => ?_, fun h => ⟨fun h2 => ?_, fun h2 => ?_⟩⟩
  · rw [if_neg (by omega)]
  · rw [if_pos (by omega)]
  · rw [if_neg (by omega)])
theorem k51 (hh : hp T R) {a : Int} : wpc codeT mX d 51 [.inr (.inr (some 0)), .inl a] (185, s, T, I, J, R) Q ↔ Q (some (.inl (if 0 ≤ a ∧ a < I 3 3 then 1 else 0))) (185, s, T, I, J, R) := wpc_det (by
  simp only [e51, s51_0, s51_1, s51_2, s51_3, s51_4, s51_5, s51_6, s51_7, s51_8, s51_9, s51_10, Option.toList_some, Option.toList_none, List.cons_append, List.nil_append, Nat.le_refl, true_and, and_true, true_or, or_true, false_or, or_false, true_implies, false_implies, implies_true, not_true_eq_false, not_false_eq_true, eq_self, Nat.reduceLT, Nat.reduceLeDiff, Nat.reduceEqDiff, Nat.reduceAdd, Nat.reduceSub, Int.reduceLT, Int.reduceLE, Int.reduceEq, Int.reduceNeg, Int.reduceNe, Int.reduceAdd, Int.reduceSub, Int.reduceMul, Int.reduceToNat, Int.toNat_zero, Int.toNat_one, Int.toNat_natCast, am_cats, am_cat, am_st1, am_st2, am_clr, up2_na, up2_nj, up2_same, List.getElem?_cons_zero, List.getElem?_cons_succ, List.set_cons_zero, List.set_cons_succ, ne_eq, tk_0 hh, rk_0_6 hh, tk_3 hh]
  refine ⟨fun h => ?_, fun h => ⟨fun h2 => ?_, fun h2 => ?_⟩⟩
  · rw [if_neg (by omega)]
  · rw [if_pos (by omega)]
  · rw [if_neg (by omega)])
theorem k18 {g : AH} {a b c : Int} : wpc codeT mX d 18 [.inl a, .inl b, .inl c] g Q ↔ Q (some (.inl (if b ≤ a ∧ a ≤ c then 1 else 0))) g := wpc_det (by
  simp only [e18, s18_0, s18_1, s18_2, s18_3, s18_4, s18_5, s18_6, s18_7, s18_8, s18_9, Option.toList_some, Option.toList_none, List.cons_append, List.nil_append, Nat.le_refl, true_and, and_true, true_or, or_true, false_or, or_false, true_implies, false_implies, implies_true, not_true_eq_false, not_false_eq_true, eq_self, Nat.reduceLT, Nat.reduceLeDiff, Nat.reduceEqDiff, Nat.reduceAdd, Nat.reduceSub, Int.reduceLT, Int.reduceLE, Int.reduceEq, Int.reduceNeg, Int.reduceNe, Int.reduceAdd, Int.reduceSub, Int.reduceMul, Int.reduceToNat, Int.toNat_zero, Int.toNat_one, Int.toNat_natCast, am_cats, am_cat, am_st1, am_st2, am_clr, up2_na, up2_nj, up2_same, List.getElem?_cons_zero, List.getElem?_cons_succ, List.set_cons_zero, List.set_cons_succ, ne_eq]
  refine ⟨fun h => ?_, fun h => ⟨fun h2 => ?_, fun h2 => ?_⟩⟩
  · rw [if_neg (by omega)]
  · rw [if_neg (by omega)]
  · rw [if_pos (by omega)])
theorem k134 (hh : hp T R) {a : Int} : wpc codeT mX d 134 [.inr (.inr (some 152)), .inl a] (185, s, T, I, J, R) Q ↔ Q (some (.inl (if 0 ≤ a ∧ a < I 152 2 then 1 else 0))) (185, s, T, I, J, R) := wpc_det (by
  simp only [e134, s134_0, s134_1, s134_2, s134_3, s134_4, s134_5, s134_6, s134_7, s134_8, s134_9, Option.toList_some, Option.toList_none, List.cons_append, List.nil_append, Nat.le_refl, true_and, and_true, true_or, or_true, false_or, or_false, true_implies, false_implies, implies_true, not_true_eq_false, not_false_eq_true, eq_self, Nat.reduceLT, Nat.reduceLeDiff, Nat.reduceEqDiff, Nat.reduceAdd, Nat.reduceSub, Int.reduceLT, Int.reduceLE, Int.reduceEq, Int.reduceNeg, Int.reduceNe, Int.reduceAdd, Int.reduceSub, Int.reduceMul, Int.reduceToNat, Int.toNat_zero, Int.toNat_one, Int.toNat_natCast, am_cats, am_cat, am_st1, am_st2, am_clr, up2_na, up2_nj, up2_same, List.getElem?_cons_zero, List.getElem?_cons_succ, List.set_cons_zero, List.set_cons_succ, ne_eq, tk_152 hh]
  refine ⟨fun h => ?_, fun h => ⟨fun h2 => ?_, fun h2 => ?_⟩⟩
  · rw [if_neg (by omega)]
  · rw [if_pos (by omega)]
  · rw [if_neg (by omega)])
theorem k135 (hh : hp T R) {a : Int} : wpc codeT mX d 135 [.inr (.inr (some 152)), .inl a] (185, s, T, I, J, R) Q ↔ Q (some (.inl (if 0 ≤ a ∧ a < I 152 1 then 1 else 0))) (185, s, T, I, J, R) := wpc_det (by
  simp only [e135, s135_0, s135_1, s135_2, s135_3, s135_4, s135_5, s135_6, s135_7, s135_8, s135_9, Option.toList_some, Option.toList_none, List.cons_append, List.nil_append, Nat.le_refl, true_and, and_true, true_or, or_true, false_or, or_false, true_implies, false_implies, implies_true, not_true_eq_false, not_false_eq_true, eq_self, Nat.reduceLT, Nat.reduceLeDiff, Nat.reduceEqDiff, Nat.reduceAdd, Nat.reduceSub, Int.reduceLT, Int.reduceLE, Int.reduceEq, Int.reduceNeg, Int.reduceNe, Int.reduceAdd, Int.reduceSub, Int.reduceMul, Int.reduceToNat, Int.toNat_zero, Int.toNat_one, Int.toNat_natCast, am_cats, am_cat, am_st1, am_st2, am_clr, up2_na, up2_nj, up2_same, List.getElem?_cons_zero, List.getElem?_cons_succ, List.set_cons_zero, List.set_cons_succ, ne_eq, tk_152 hh]
  refine ⟨fun h => ?_, fun h => ⟨fun h2 => ?_, fun h2 => ?_⟩⟩
  · rw [if_neg (by omega)]
  · rw [if_pos (by omega)]
  · rw [if_neg (by omega)])
theorem k164 (hh : hp T R) {a : Int} : wpc codeT mX d 164 [.inr (.inr (some 152)), .inl a] (185, s, T, I, J, R) Q ↔ Q (some (.inl (if 0 ≤ a ∧ a < I 152 3 then 1 else 0))) (185, s, T, I, J, R) := wpc_det (by
  simp only [e164, s164_0, s164_1, s164_2, s164_3, s164_4, s164_5, s164_6, s164_7, s164_8, s164_9, Option.toList_some, Option.toList_none, List.cons_append, List.nil_append, Nat.le_refl, true_and, and_true, true_or, or_true, false_or, or_false, true_implies, false_implies, implies_true, not_true_eq_false, not_false_eq_true, eq_self, Nat.reduceLT, Nat.reduceLeDiff, Nat.reduceEqDiff, Nat.reduceAdd, Nat.reduceSub, Int.reduceLT, Int.reduceLE, Int.reduceEq, Int.reduceNeg, Int.reduceNe, Int.reduceAdd, Int.reduceSub, Int.reduceMul, Int.reduceToNat, Int.toNat_zero, Int.toNat_one, Int.toNat_natCast, am_cats, am_cat, am_st1, am_st2, am_clr, up2_na, up2_nj, up2_same, List.getElem?_cons_zero, List.getElem?_cons_succ, List.set_cons_zero, List.set_cons_succ, ne_eq, tk_152 hh]
  refine ⟨fun h => ?_, fun h => ⟨fun h2 => ?_, fun h2 => ?_⟩⟩
  · rw [if_neg (by omega)]
  · rw [if_pos (by omega)]
  · rw [if_neg (by omega)])
theorem k136 {g : AH} {a b c : Int} : wpc codeT mX d 136 [.inl a, .inl b, .inl c] g Q ↔ Q (some (.inl (if b ≤ a ∧ a ≤ c then 1 else 0))) g := wpc_det (by
  simp only [e136, s136_0, s136_1, s136_2, s136_3, s136_4, s136_5, s136_6, s136_7, s136_8, s136_9, Option.toList_some, Option.toList_none, List.cons_append, List.nil_append, Nat.le_refl, true_and, and_true, true_or, or_true, false_or, or_false, true_implies, false_implies, implies_true, not_true_eq_false, not_false_eq_true, eq_self, Nat.reduceLT, Nat.reduceLeDiff, Nat.reduceEqDiff, Nat.reduceAdd, Nat.reduceSub, Int.reduceLT, Int.reduceLE, Int.reduceEq, Int.reduceNeg, Int.reduceNe, Int.reduceAdd, Int.reduceSub, Int.reduceMul, Int.reduceToNat, Int.toNat_zero, Int.toNat_one, Int.toNat_natCast, am_cats, am_cat, am_st1, am_st2, am_clr, up2_na, up2_nj, up2_same, List.getElem?_cons_zero, List.getElem?_cons_succ, List.set_cons_zero, List.set_cons_succ, ne_eq]
  refine ⟨fun h => ?_, fun h => ⟨fun h2 => ?_, fun h2 => ?_⟩⟩
  · rw [if_neg (by omega)]
  · rw [if_neg (by omega)]
  · rw [if_pos (by omega)])
/-- bounds of numbers, from what the engine keeps -/
theorem ebd {a j : Nat} {lo hi : Int} (h : eH (185, s, T, I, J, R)) (ha : a < nO) (hj : j < (tT.getD a (0, 0)).2) (hb : bI a j = (lo, hi)) : lo ≤ I a j ∧ I a j ≤ hi := by
  have := eB (eH5_of h) ha hj
  rw [hb] at this
  exact this
end
/-! share, store, head, now, seed -/
section
variable {L s d : Nat} {X : Nat → Int}
theorem pr_store (hL : L ≤ 3072) (hX : ∀ j, rg32 (X j)) (hd : 40 ≤ d) {cmp : Bool} : pr L X s LKP d 13 131 0 false cmp := by
  refine pr_mk (cx := cn0) (cm := cn134) (nx := 0) (nm := 0) hL hX (cn_all 0 (by decide) cn0 rfl) (cn_all 134 (by decide) cn134 rfl) rfl hd (fun as g hl hr hH hs hP => ?_)
  obtain rfl : as = [] := List.eq_nil_of_length_eq_zero hl
  obtain ⟨c, s, T, I, J, R⟩ := g
  have hc : c = 185 := hH.1
  subst hc
  have hh := hp_of (eH5_of hH)
  have hP : LK I := hP
  obtain ⟨l0, l1, l2, l3, l4, l5, l6, l7, l8, l9, l10, l11, l12, l13, l14, l15⟩ := hP
  have b1 : 0 ≤ I 0 1 ∧ I 0 1 ≤ 6 := ebd hH (by decide) (by decide) (by decide)
  have e1 : I 0 1 = I 152 1 := l1
  have w1 : w32 (I 0 1 + 1) = I 0 1 + 1 := w32_eq (by omega) (by omega)
  have w2 : w32 (I 0 1 + 1 - 1) = I 0 1 := (w32_eq (by omega) (by omega)).trans (by omega)
  show wpc codeT mX d 13 [.inr (.inr (some 0))] _ _
  simp only [e13, s13_0, s13_1, s13_2, s13_3, s13_4, s13_5, s13_6, s13_7, s13_8, s13_9, s13_10, s13_11, s13_12, s13_13, s13_14, s13_15, s13_16, Option.toList_some, Option.toList_none, List.cons_append, List.nil_append, Nat.le_refl, true_and, and_true, true_or, or_true, false_or, or_false, true_implies, false_implies, implies_true, not_true_eq_false, not_false_eq_true, eq_self, Nat.reduceLT, Nat.reduceLeDiff, Nat.reduceEqDiff, Nat.reduceAdd, Nat.reduceSub, Int.reduceLT, Int.reduceLE, Int.reduceEq, Int.reduceNeg, Int.reduceNe, Int.reduceAdd, Int.reduceSub, Int.reduceMul, Int.reduceToNat, Int.toNat_zero, Int.toNat_one, Int.toNat_natCast, am_cats, am_cat, am_st1, am_st2, am_clr, up2_na, up2_nj, up2_same, List.getElem?_cons_zero, List.getElem?_cons_succ, List.set_cons_zero, List.set_cons_succ, ne_eq, tk_0 hh, w1, w2]
  refine ⟨fun h6 _ hH1 m1 s1 => ⟨_, rfl, ?_⟩, fun h6 _ hH1 m1 s1 => ⟨_, rfl, ?_⟩⟩
  · have h7 : ¬ I 0 1 = 6 := by omega
    show wpc codeT mX d 131 [.inr (.inr (some 152))] (185, s, T, up2 I 0 1 (I 0 1 + 1), J, R) _
    simp only [e131, s131_0, s131_1, s131_2, s131_3, s131_4, s131_5, s131_6, s131_7, s131_8, s131_9, s131_10, s131_11, s131_12, s131_13, s131_14, s131_15, s131_16, Option.toList_some, Option.toList_none, List.cons_append, List.nil_append, Nat.le_refl, true_and, and_true, true_or, or_true, false_or, or_false, true_implies, false_implies, implies_true, not_true_eq_false, not_false_eq_true, eq_self, Nat.reduceLT, Nat.reduceLeDiff, Nat.reduceEqDiff, Nat.reduceAdd, Nat.reduceSub, Int.reduceLT, Int.reduceLE, Int.reduceEq, Int.reduceNeg, Int.reduceNe, Int.reduceAdd, Int.reduceSub, Int.reduceMul, Int.reduceToNat, Int.toNat_zero, Int.toNat_one, Int.toNat_natCast, am_cats, am_cat, am_st1, am_st2, am_clr, up2_na, up2_nj, up2_same, List.getElem?_cons_zero, List.getElem?_cons_succ, List.set_cons_zero, List.set_cons_succ, ne_eq, tk_152 hh, ← e1, h7, w1, w2]
    intro _ hH2 m2
    refine ⟨_, rfl, fun _ => rfl, ?_⟩
    have hk : ∀ t k : Nat, t < 8 → k < 6 → I 3 3 ≤ (t : Int) → I 0 1 + 1 ≤ (k : Int) → I (5 + t) k = 0 := fun t k h1 h2 h3 h4 => l11.2 t k h1 h2 h3 (by omega)
    refine ⟨rdS_2 (twn_S 0 0 152 0) (by decide +kernel : (disj cn0.2.2.2.1 _ && disj cn134.2.2.2.1 _) = true) m1 m2 l0, ?_, rdS_2 (twn_S 0 2 152 2) (by decide +kernel : (disj cn0.2.2.2.1 _ && disj cn134.2.2.2.1 _) = true) m1 m2 l2, rdS_2 (twn_S 0 3 152 5) (by decide +kernel : (disj cn0.2.2.2.1 _ && disj cn134.2.2.2.1 _) = true) m1 m2 l3, rdS_2 (twn_S 0 4 152 6) (by decide +kernel : (disj cn0.2.2.2.1 _ && disj cn134.2.2.2.1 _) = true) m1 m2 l4, rdS_2 (twn_S 3 3 152 3) (by decide +kernel : (disj cn0.2.2.2.1 _ && disj cn134.2.2.2.1 _) = true) m1 m2 l5, rdS_2 (twn_S 17 3 152 4) (by decide +kernel : (disj cn0.2.2.2.1 _ && disj cn134.2.2.2.1 _) = true) m1 m2 l6, rdS_2 (twn_S 102 3 152 46) (by decide +kernel : (disj cn0.2.2.2.1 _ && disj cn134.2.2.2.1 _) = true) m1 m2 l7, rdS_2 (twn_S 1 1 152 17) (by decide +kernel : (disj cn0.2.2.2.1 _ && disj cn134.2.2.2.1 _) = true) m1 m2 l8, rdS_2 (lkY_S) (by decide +kernel : (disj cn0.2.2.2.1 _ && disj cn134.2.2.2.1 _) = true) m1 m2 l9, rdS_2 (lkS_S) (by decide +kernel : (disj cn0.2.2.2.1 _ && disj cn134.2.2.2.1 _) = true) m1 m2 l10, ?_, rdS_2 (lkB_S) (by decide +kernel : (disj cn0.2.2.2.1 _ && disj cn134.2.2.2.1 _) = true) m1 m2 l12, rdS_2 (lkO_S) (by decide +kernel : (disj cn0.2.2.2.1 _ && disj cn134.2.2.2.1 _) = true) m1 m2 l13, rdS_2 (lkC_S) (by decide +kernel : (disj cn0.2.2.2.1 _ && disj cn134.2.2.2.1 _) = true) m1 m2 l14, rdS_2 (lkQ_S) (by decide +kernel : (disj cn0.2.2.2.1 _ && disj cn134.2.2.2.1 _) = true) m1 m2 l15⟩
    · rfl
    · refine ⟨fun t h8 ht => ?_, fun t k h1 h2 h3 h4 => ?_⟩
      · obtain ⟨x1, x2, x3, x4, x5, x6, x7, x8, x9, x10⟩ := l11.1 t h8 ht
        refine ⟨x1, x2, x3, x4, x5, x6, x7, x8, x9, fun k hk => ?_⟩
        obtain ⟨y1, y2, y3, y4⟩ := x10 k hk
        have n1 : up2 (up2 I 0 1 (I 0 1 + 1)) 152 1 (I 0 1 + 1) (5 + t) k = I (5 + t) k := by rw [up2_na (by omega), up2_na (by omega)]
        show up2 (up2 I 0 1 (I 0 1 + 1)) 152 1 (I 0 1 + 1) (5 + t) k = I 154 (6 * t + k) ∧ 0 ≤ up2 (up2 I 0 1 (I 0 1 + 1)) 152 1 (I 0 1 + 1) (5 + t) k ∧ up2 (up2 I 0 1 (I 0 1 + 1)) 152 1 (I 0 1 + 1) (5 + t) k ≤ 9 ∧ (0 < up2 (up2 I 0 1 (I 0 1 + 1)) 152 1 (I 0 1 + 1) (5 + t) k → (k : Int) < I 0 1 + 1)
        rw [n1]
        exact ⟨y1, y2, y3, fun z => by have := y4 z; omega⟩
      · have n1 : up2 (up2 I 0 1 (I 0 1 + 1)) 152 1 (I 0 1 + 1) (5 + t) k = I (5 + t) k := by rw [up2_na (by omega), up2_na (by omega)]
        show up2 (up2 I 0 1 (I 0 1 + 1)) 152 1 (I 0 1 + 1) (5 + t) k = 0
        rw [n1]
        exact hk t k h1 h2 h3 h4
  · have h7 : I 0 1 = 6 := by omega
    show wpc codeT mX d 131 [.inr (.inr (some 152))] (185, s, T, I, J, R) _
    simp only [e131, s131_0, s131_1, s131_2, s131_3, s131_4, s131_5, s131_6, s131_7, s131_8, s131_9, s131_10, s131_11, s131_12, s131_13, s131_14, s131_15, s131_16, Option.toList_some, Option.toList_none, List.cons_append, List.nil_append, Nat.le_refl, true_and, and_true, true_or, or_true, false_or, or_false, true_implies, false_implies, implies_true, not_true_eq_false, not_false_eq_true, eq_self, Nat.reduceLT, Nat.reduceLeDiff, Nat.reduceEqDiff, Nat.reduceAdd, Nat.reduceSub, Int.reduceLT, Int.reduceLE, Int.reduceEq, Int.reduceNeg, Int.reduceNe, Int.reduceAdd, Int.reduceSub, Int.reduceMul, Int.reduceToNat, Int.toNat_zero, Int.toNat_one, Int.toNat_natCast, am_cats, am_cat, am_st1, am_st2, am_clr, up2_na, up2_nj, up2_same, List.getElem?_cons_zero, List.getElem?_cons_succ, List.set_cons_zero, List.set_cons_succ, ne_eq, tk_152 hh, ← e1, h7]
    intro _ hH2 m2
    exact ⟨_, rfl, fun _ => rfl, l0, l1, l2, l3, l4, l5, l6, l7, l8, l9, l10, l11, l12, l13, l14, l15⟩
theorem pr_head (hL : L ≤ 3072) (hX : ∀ j, rg32 (X j)) (hd : 40 ≤ d) {cmp : Bool} : pr L X s LKP d 14 132 0 false cmp := by
  refine pr_mk (cx := cn1) (cm := cn135) (nx := 0) (nm := 0) hL hX (cn_all 1 (by decide) cn1 rfl) (cn_all 135 (by decide) cn135 rfl) rfl hd (fun as g hl hr hH hs hP => ?_)
  obtain rfl : as = [] := List.eq_nil_of_length_eq_zero hl
  obtain ⟨c, s, T, I, J, R⟩ := g
  have hc : c = 185 := hH.1
  subst hc
  have hh := hp_of (eH5_of hH)
  have hP : LK I := hP
  obtain ⟨l0, l1, l2, l3, l4, l5, l6, l7, l8, l9, l10, l11, l12, l13, l14, l15⟩ := hP
  have b1 : 0 ≤ I 0 2 ∧ I 0 2 ≤ 6 := ebd hH (by decide) (by decide) (by decide)
  have e1 : I 0 2 = I 152 2 := l2
  have w1 : w32 (I 0 2 + 1) = I 0 2 + 1 := w32_eq (by omega) (by omega)
  have w2 : w32 (I 0 2 + 1 - 1) = I 0 2 := (w32_eq (by omega) (by omega)).trans (by omega)
  show wpc codeT mX d 14 [.inr (.inr (some 0))] _ _
  simp only [e14, s14_0, s14_1, s14_2, s14_3, s14_4, s14_5, s14_6, s14_7, s14_8, s14_9, s14_10, s14_11, s14_12, s14_13, s14_14, s14_15, s14_16, Option.toList_some, Option.toList_none, List.cons_append, List.nil_append, Nat.le_refl, true_and, and_true, true_or, or_true, false_or, or_false, true_implies, false_implies, implies_true, not_true_eq_false, not_false_eq_true, eq_self, Nat.reduceLT, Nat.reduceLeDiff, Nat.reduceEqDiff, Nat.reduceAdd, Nat.reduceSub, Int.reduceLT, Int.reduceLE, Int.reduceEq, Int.reduceNeg, Int.reduceNe, Int.reduceAdd, Int.reduceSub, Int.reduceMul, Int.reduceToNat, Int.toNat_zero, Int.toNat_one, Int.toNat_natCast, am_cats, am_cat, am_st1, am_st2, am_clr, up2_na, up2_nj, up2_same, List.getElem?_cons_zero, List.getElem?_cons_succ, List.set_cons_zero, List.set_cons_succ, ne_eq, tk_0 hh, w1, w2]
  refine ⟨fun h6 _ hH1 m1 s1 => ⟨_, rfl, ?_⟩, fun h6 _ hH1 m1 s1 => ⟨_, rfl, ?_⟩⟩
  · have h7 : ¬ I 0 2 = 6 := by omega
    show wpc codeT mX d 132 [.inr (.inr (some 152))] (185, s, T, up2 I 0 2 (I 0 2 + 1), J, R) _
    simp only [e132, s132_0, s132_1, s132_2, s132_3, s132_4, s132_5, s132_6, s132_7, s132_8, s132_9, s132_10, s132_11, s132_12, s132_13, s132_14, s132_15, s132_16, Option.toList_some, Option.toList_none, List.cons_append, List.nil_append, Nat.le_refl, true_and, and_true, true_or, or_true, false_or, or_false, true_implies, false_implies, implies_true, not_true_eq_false, not_false_eq_true, eq_self, Nat.reduceLT, Nat.reduceLeDiff, Nat.reduceEqDiff, Nat.reduceAdd, Nat.reduceSub, Int.reduceLT, Int.reduceLE, Int.reduceEq, Int.reduceNeg, Int.reduceNe, Int.reduceAdd, Int.reduceSub, Int.reduceMul, Int.reduceToNat, Int.toNat_zero, Int.toNat_one, Int.toNat_natCast, am_cats, am_cat, am_st1, am_st2, am_clr, up2_na, up2_nj, up2_same, List.getElem?_cons_zero, List.getElem?_cons_succ, List.set_cons_zero, List.set_cons_succ, ne_eq, tk_152 hh, ← e1, h7, w1, w2]
    intro _ hH2 m2
    refine ⟨_, rfl, fun _ => rfl, ?_⟩
    refine ⟨rdS_2 (twn_S 0 0 152 0) (by decide +kernel : (disj cn1.2.2.2.1 _ && disj cn135.2.2.2.1 _) = true) m1 m2 l0, rdS_2 (twn_S 0 1 152 1) (by decide +kernel : (disj cn1.2.2.2.1 _ && disj cn135.2.2.2.1 _) = true) m1 m2 l1, ?_, rdS_2 (twn_S 0 3 152 5) (by decide +kernel : (disj cn1.2.2.2.1 _ && disj cn135.2.2.2.1 _) = true) m1 m2 l3, rdS_2 (twn_S 0 4 152 6) (by decide +kernel : (disj cn1.2.2.2.1 _ && disj cn135.2.2.2.1 _) = true) m1 m2 l4, rdS_2 (twn_S 3 3 152 3) (by decide +kernel : (disj cn1.2.2.2.1 _ && disj cn135.2.2.2.1 _) = true) m1 m2 l5, rdS_2 (twn_S 17 3 152 4) (by decide +kernel : (disj cn1.2.2.2.1 _ && disj cn135.2.2.2.1 _) = true) m1 m2 l6, rdS_2 (twn_S 102 3 152 46) (by decide +kernel : (disj cn1.2.2.2.1 _ && disj cn135.2.2.2.1 _) = true) m1 m2 l7, rdS_2 (twn_S 1 1 152 17) (by decide +kernel : (disj cn1.2.2.2.1 _ && disj cn135.2.2.2.1 _) = true) m1 m2 l8, rdS_2 (lkY_S) (by decide +kernel : (disj cn1.2.2.2.1 _ && disj cn135.2.2.2.1 _) = true) m1 m2 l9, rdS_2 (lkS_S) (by decide +kernel : (disj cn1.2.2.2.1 _ && disj cn135.2.2.2.1 _) = true) m1 m2 l10, rdS_2 (lkT_S) (by decide +kernel : (disj cn1.2.2.2.1 _ && disj cn135.2.2.2.1 _) = true) m1 m2 l11, rdS_2 (lkB_S) (by decide +kernel : (disj cn1.2.2.2.1 _ && disj cn135.2.2.2.1 _) = true) m1 m2 l12, rdS_2 (lkO_S) (by decide +kernel : (disj cn1.2.2.2.1 _ && disj cn135.2.2.2.1 _) = true) m1 m2 l13, rdS_2 (lkC_S) (by decide +kernel : (disj cn1.2.2.2.1 _ && disj cn135.2.2.2.1 _) = true) m1 m2 l14, rdS_2 (lkQ_S) (by decide +kernel : (disj cn1.2.2.2.1 _ && disj cn135.2.2.2.1 _) = true) m1 m2 l15⟩
    rfl
  · have h7 : I 0 2 = 6 := by omega
    show wpc codeT mX d 132 [.inr (.inr (some 152))] (185, s, T, I, J, R) _
    simp only [e132, s132_0, s132_1, s132_2, s132_3, s132_4, s132_5, s132_6, s132_7, s132_8, s132_9, s132_10, s132_11, s132_12, s132_13, s132_14, s132_15, s132_16, Option.toList_some, Option.toList_none, List.cons_append, List.nil_append, Nat.le_refl, true_and, and_true, true_or, or_true, false_or, or_false, true_implies, false_implies, implies_true, not_true_eq_false, not_false_eq_true, eq_self, Nat.reduceLT, Nat.reduceLeDiff, Nat.reduceEqDiff, Nat.reduceAdd, Nat.reduceSub, Int.reduceLT, Int.reduceLE, Int.reduceEq, Int.reduceNeg, Int.reduceNe, Int.reduceAdd, Int.reduceSub, Int.reduceMul, Int.reduceToNat, Int.toNat_zero, Int.toNat_one, Int.toNat_natCast, am_cats, am_cat, am_st1, am_st2, am_clr, up2_na, up2_nj, up2_same, List.getElem?_cons_zero, List.getElem?_cons_succ, List.set_cons_zero, List.set_cons_succ, ne_eq, tk_152 hh, ← e1, h7]
    intro _ hH2 m2
    exact ⟨_, rfl, fun _ => rfl, l0, l1, l2, l3, l4, l5, l6, l7, l8, l9, l10, l11, l12, l13, l14, l15⟩
theorem pr_now (hL : L ≤ 3072) (hX : ∀ j, rg32 (X j)) (hd : 40 ≤ d) {cmp : Bool} : pr L X s LKP d 21 138 1 false cmp := by
  refine pr_mk (cx := cn5) (cm := cn138) (nx := 0) (nm := 0) hL hX (cn_all 5 (by decide) cn5 rfl) (cn_all 138 (by decide) cn138 rfl) rfl hd (fun as g hl hr hH hs hP => ?_)
  obtain ⟨a, rfl⟩ := len1 hl
  obtain ⟨c, s, T, I, J, R⟩ := g
  obtain ⟨d, rfl⟩ : ∃ e, d = e + 1 := ⟨d - 1, by omega⟩
  have hc : c = 185 := hH.1
  subst hc
  have hh := hp_of (eH5_of hH)
  have hP : LK I := hP
  obtain ⟨l0, l1, l2, l3, l4, l5, l6, l7, l8, l9, l10, l11, l12, l13, l14, l15⟩ := hP
  have e1 : I 0 0 = I 152 0 := l0
  show wpc codeT mX (d + 1) 21 [.inr (.inr (some 0)), .inl a] _ _
  simp only [e21, s21_0, s21_1, s21_2, s21_3, s21_4, s21_5, s21_6, s21_7, s21_8, s21_9, s21_10, s21_11, s21_12, Option.toList_some, Option.toList_none, List.cons_append, List.nil_append, Nat.le_refl, true_and, and_true, true_or, or_true, false_or, or_false, true_implies, false_implies, implies_true, not_true_eq_false, not_false_eq_true, eq_self, Nat.reduceLT, Nat.reduceLeDiff, Nat.reduceEqDiff, Nat.reduceAdd, Nat.reduceSub, Int.reduceLT, Int.reduceLE, Int.reduceEq, Int.reduceNeg, Int.reduceNe, Int.reduceAdd, Int.reduceSub, Int.reduceMul, Int.reduceToNat, Int.toNat_zero, Int.toNat_one, Int.toNat_natCast, am_cats, am_cat, am_st1, am_st2, am_clr, up2_na, up2_nj, up2_same, List.getElem?_cons_zero, List.getElem?_cons_succ, List.set_cons_zero, List.set_cons_succ, ne_eq, tk_0 hh, k18, i10]
  refine ⟨fun h6 _ hH1 m1 s1 => ⟨_, rfl, ?_⟩, fun h6 _ hH1 m1 s1 => ⟨_, rfl, ?_⟩⟩
  · show wpc codeT mX (d + 1) 138 [.inr (.inr (some 152)), .inl a] (185, s, T, I, J, R) _
    simp only [e138, s138_0, s138_1, s138_2, s138_3, s138_4, s138_5, s138_6, s138_7, s138_8, s138_9, s138_10, s138_11, s138_12, Option.toList_some, Option.toList_none, List.cons_append, List.nil_append, Nat.le_refl, true_and, and_true, true_or, or_true, false_or, or_false, true_implies, false_implies, implies_true, not_true_eq_false, not_false_eq_true, eq_self, Nat.reduceLT, Nat.reduceLeDiff, Nat.reduceEqDiff, Nat.reduceAdd, Nat.reduceSub, Int.reduceLT, Int.reduceLE, Int.reduceEq, Int.reduceNeg, Int.reduceNe, Int.reduceAdd, Int.reduceSub, Int.reduceMul, Int.reduceToNat, Int.toNat_zero, Int.toNat_one, Int.toNat_natCast, am_cats, am_cat, am_st1, am_st2, am_clr, up2_na, up2_nj, up2_same, List.getElem?_cons_zero, List.getElem?_cons_succ, List.set_cons_zero, List.set_cons_succ, ne_eq, tk_152 hh, ← e1, h6, k136, i10]
    intro _ hH2 m2
    exact ⟨_, rfl, fun _ => rfl, l0, l1, l2, l3, l4, l5, l6, l7, l8, l9, l10, l11, l12, l13, l14, l15⟩
  · show wpc codeT mX (d + 1) 138 [.inr (.inr (some 152)), .inl a] (185, s, T, up2 I 0 0 a, J, R) _
    have h6 : I 0 0 ≤ a ∧ a ≤ 299 := Classical.not_not.mp h6
    simp only [e138, s138_0, s138_1, s138_2, s138_3, s138_4, s138_5, s138_6, s138_7, s138_8, s138_9, s138_10, s138_11, s138_12, Option.toList_some, Option.toList_none, List.cons_append, List.nil_append, Nat.le_refl, true_and, and_true, true_or, or_true, false_or, or_false, true_implies, false_implies, implies_true, not_true_eq_false, not_false_eq_true, eq_self, Nat.reduceLT, Nat.reduceLeDiff, Nat.reduceEqDiff, Nat.reduceAdd, Nat.reduceSub, Int.reduceLT, Int.reduceLE, Int.reduceEq, Int.reduceNeg, Int.reduceNe, Int.reduceAdd, Int.reduceSub, Int.reduceMul, Int.reduceToNat, Int.toNat_zero, Int.toNat_one, Int.toNat_natCast, am_cats, am_cat, am_st1, am_st2, am_clr, up2_na, up2_nj, up2_same, List.getElem?_cons_zero, List.getElem?_cons_succ, List.set_cons_zero, List.set_cons_succ, ne_eq, tk_152 hh, ← e1, h6, k136, i10]
    intro _ hH2 m2
    refine ⟨_, rfl, fun _ => rfl, ?_⟩
    refine ⟨?_, rdS_2 (twn_S 0 1 152 1) (by decide +kernel : (disj cn5.2.2.2.1 _ && disj cn138.2.2.2.1 _) = true) m1 m2 l1, rdS_2 (twn_S 0 2 152 2) (by decide +kernel : (disj cn5.2.2.2.1 _ && disj cn138.2.2.2.1 _) = true) m1 m2 l2, rdS_2 (twn_S 0 3 152 5) (by decide +kernel : (disj cn5.2.2.2.1 _ && disj cn138.2.2.2.1 _) = true) m1 m2 l3, rdS_2 (twn_S 0 4 152 6) (by decide +kernel : (disj cn5.2.2.2.1 _ && disj cn138.2.2.2.1 _) = true) m1 m2 l4, rdS_2 (twn_S 3 3 152 3) (by decide +kernel : (disj cn5.2.2.2.1 _ && disj cn138.2.2.2.1 _) = true) m1 m2 l5, rdS_2 (twn_S 17 3 152 4) (by decide +kernel : (disj cn5.2.2.2.1 _ && disj cn138.2.2.2.1 _) = true) m1 m2 l6, rdS_2 (twn_S 102 3 152 46) (by decide +kernel : (disj cn5.2.2.2.1 _ && disj cn138.2.2.2.1 _) = true) m1 m2 l7, rdS_2 (twn_S 1 1 152 17) (by decide +kernel : (disj cn5.2.2.2.1 _ && disj cn138.2.2.2.1 _) = true) m1 m2 l8, rdS_2 (lkY_S) (by decide +kernel : (disj cn5.2.2.2.1 _ && disj cn138.2.2.2.1 _) = true) m1 m2 l9, rdS_2 (lkS_S) (by decide +kernel : (disj cn5.2.2.2.1 _ && disj cn138.2.2.2.1 _) = true) m1 m2 l10, rdS_2 (lkT_S) (by decide +kernel : (disj cn5.2.2.2.1 _ && disj cn138.2.2.2.1 _) = true) m1 m2 l11, rdS_2 (lkB_S) (by decide +kernel : (disj cn5.2.2.2.1 _ && disj cn138.2.2.2.1 _) = true) m1 m2 l12, rdS_2 (lkO_S) (by decide +kernel : (disj cn5.2.2.2.1 _ && disj cn138.2.2.2.1 _) = true) m1 m2 l13, rdS_2 (lkC_S) (by decide +kernel : (disj cn5.2.2.2.1 _ && disj cn138.2.2.2.1 _) = true) m1 m2 l14, rdS_2 (lkQ_S) (by decide +kernel : (disj cn5.2.2.2.1 _ && disj cn138.2.2.2.1 _) = true) m1 m2 l15⟩
    rfl
theorem pr_seed (hL : L ≤ 3072) (hX : ∀ j, rg32 (X j)) (hd : 40 ≤ d) {cmp : Bool} : pr L X s LKP d 22 139 1 false cmp := by
  refine pr_mk (cx := cn6) (cm := cn139) (nx := 0) (nm := 0) hL hX (cn_all 6 (by decide) cn6 rfl) (cn_all 139 (by decide) cn139 rfl) rfl hd (fun as g hl hr hH hs hP => ?_)
  obtain ⟨a, rfl⟩ := len1 hl
  obtain ⟨c, s, T, I, J, R⟩ := g
  obtain ⟨d, rfl⟩ : ∃ e, d = e + 1 := ⟨d - 1, by omega⟩
  have hc : c = 185 := hH.1
  subst hc
  have hh := hp_of (eH5_of hH)
  have hP : LK I := hP
  obtain ⟨l0, l1, l2, l3, l4, l5, l6, l7, l8, l9, l10, l11, l12, l13, l14, l15⟩ := hP
  show wpc codeT mX (d + 1) 22 [.inr (.inr (some 0)), .inl a] _ _
  simp only [e22, s22_0, s22_1, s22_2, s22_3, s22_4, s22_5, s22_6, s22_7, s22_8, s22_9, s22_10, s22_11, s22_12, s22_13, s22_14, Option.toList_some, Option.toList_none, List.cons_append, List.nil_append, Nat.le_refl, true_and, and_true, true_or, or_true, false_or, or_false, true_implies, false_implies, implies_true, not_true_eq_false, not_false_eq_true, eq_self, Nat.reduceLT, Nat.reduceLeDiff, Nat.reduceEqDiff, Nat.reduceAdd, Nat.reduceSub, Int.reduceLT, Int.reduceLE, Int.reduceEq, Int.reduceNeg, Int.reduceNe, Int.reduceAdd, Int.reduceSub, Int.reduceMul, Int.reduceToNat, Int.toNat_zero, Int.toNat_one, Int.toNat_natCast, am_cats, am_cat, am_st1, am_st2, am_clr, up2_na, up2_nj, up2_same, List.getElem?_cons_zero, List.getElem?_cons_succ, List.set_cons_zero, List.set_cons_succ, ne_eq, tk_0 hh, k18, i10]
  refine ⟨fun h6 _ hH1 m1 s1 => ⟨_, rfl, ?_⟩, fun h6 _ hH1 m1 s1 => ⟨_, rfl, ?_⟩⟩
  · show wpc codeT mX (d + 1) 139 [.inr (.inr (some 152)), .inl a] (185, s, T, I, J, R) _
    simp only [e139, s139_0, s139_1, s139_2, s139_3, s139_4, s139_5, s139_6, s139_7, s139_8, s139_9, s139_10, s139_11, s139_12, s139_13, s139_14, Option.toList_some, Option.toList_none, List.cons_append, List.nil_append, Nat.le_refl, true_and, and_true, true_or, or_true, false_or, or_false, true_implies, false_implies, implies_true, not_true_eq_false, not_false_eq_true, eq_self, Nat.reduceLT, Nat.reduceLeDiff, Nat.reduceEqDiff, Nat.reduceAdd, Nat.reduceSub, Int.reduceLT, Int.reduceLE, Int.reduceEq, Int.reduceNeg, Int.reduceNe, Int.reduceAdd, Int.reduceSub, Int.reduceMul, Int.reduceToNat, Int.toNat_zero, Int.toNat_one, Int.toNat_natCast, am_cats, am_cat, am_st1, am_st2, am_clr, up2_na, up2_nj, up2_same, List.getElem?_cons_zero, List.getElem?_cons_succ, List.set_cons_zero, List.set_cons_succ, ne_eq, tk_152 hh, h6, k136, i10]
    intro _ hH2 m2
    exact ⟨_, rfl, fun _ => rfl, l0, l1, l2, l3, l4, l5, l6, l7, l8, l9, l10, l11, l12, l13, l14, l15⟩
  · show wpc codeT mX (d + 1) 139 [.inr (.inr (some 152)), .inl a] (185, s, T, up2 (up2 I 0 3 a) 0 4 a, J, R) _
    have h6 : 0 ≤ a ∧ a ≤ 65535 := Classical.not_not.mp h6
    simp only [e139, s139_0, s139_1, s139_2, s139_3, s139_4, s139_5, s139_6, s139_7, s139_8, s139_9, s139_10, s139_11, s139_12, s139_13, s139_14, Option.toList_some, Option.toList_none, List.cons_append, List.nil_append, Nat.le_refl, true_and, and_true, true_or, or_true, false_or, or_false, true_implies, false_implies, implies_true, not_true_eq_false, not_false_eq_true, eq_self, Nat.reduceLT, Nat.reduceLeDiff, Nat.reduceEqDiff, Nat.reduceAdd, Nat.reduceSub, Int.reduceLT, Int.reduceLE, Int.reduceEq, Int.reduceNeg, Int.reduceNe, Int.reduceAdd, Int.reduceSub, Int.reduceMul, Int.reduceToNat, Int.toNat_zero, Int.toNat_one, Int.toNat_natCast, am_cats, am_cat, am_st1, am_st2, am_clr, up2_na, up2_nj, up2_same, List.getElem?_cons_zero, List.getElem?_cons_succ, List.set_cons_zero, List.set_cons_succ, ne_eq, tk_152 hh, h6, k136, i10]
    intro _ hH2 m2
    refine ⟨_, rfl, fun _ => rfl, ?_⟩
    refine ⟨rdS_2 (twn_S 0 0 152 0) (by decide +kernel : (disj cn6.2.2.2.1 _ && disj cn139.2.2.2.1 _) = true) m1 m2 l0, rdS_2 (twn_S 0 1 152 1) (by decide +kernel : (disj cn6.2.2.2.1 _ && disj cn139.2.2.2.1 _) = true) m1 m2 l1, rdS_2 (twn_S 0 2 152 2) (by decide +kernel : (disj cn6.2.2.2.1 _ && disj cn139.2.2.2.1 _) = true) m1 m2 l2, ?_, ?_, rdS_2 (twn_S 3 3 152 3) (by decide +kernel : (disj cn6.2.2.2.1 _ && disj cn139.2.2.2.1 _) = true) m1 m2 l5, rdS_2 (twn_S 17 3 152 4) (by decide +kernel : (disj cn6.2.2.2.1 _ && disj cn139.2.2.2.1 _) = true) m1 m2 l6, rdS_2 (twn_S 102 3 152 46) (by decide +kernel : (disj cn6.2.2.2.1 _ && disj cn139.2.2.2.1 _) = true) m1 m2 l7, rdS_2 (twn_S 1 1 152 17) (by decide +kernel : (disj cn6.2.2.2.1 _ && disj cn139.2.2.2.1 _) = true) m1 m2 l8, rdS_2 (lkY_S) (by decide +kernel : (disj cn6.2.2.2.1 _ && disj cn139.2.2.2.1 _) = true) m1 m2 l9, rdS_2 (lkS_S) (by decide +kernel : (disj cn6.2.2.2.1 _ && disj cn139.2.2.2.1 _) = true) m1 m2 l10, rdS_2 (lkT_S) (by decide +kernel : (disj cn6.2.2.2.1 _ && disj cn139.2.2.2.1 _) = true) m1 m2 l11, rdS_2 (lkB_S) (by decide +kernel : (disj cn6.2.2.2.1 _ && disj cn139.2.2.2.1 _) = true) m1 m2 l12, rdS_2 (lkO_S) (by decide +kernel : (disj cn6.2.2.2.1 _ && disj cn139.2.2.2.1 _) = true) m1 m2 l13, rdS_2 (lkC_S) (by decide +kernel : (disj cn6.2.2.2.1 _ && disj cn139.2.2.2.1 _) = true) m1 m2 l14, rdS_2 (lkQ_S) (by decide +kernel : (disj cn6.2.2.2.1 _ && disj cn139.2.2.2.1 _) = true) m1 m2 l15⟩
    · rfl
    · rfl
theorem w32_c {z : Int} {n : Nat} (h : z = n) (h2 : n ≤ 2000000000) : w32 z = (n : Int) := by subst h; exact w32_eq (by omega) (by omega)
theorem up2_at {α : Type} {f : Nat → Nat → α} {a j x y : Nat} {v : α} : up2 f a j v x y = if x = a ∧ y = j then v else f x y := rfl
theorem pr_share (hL : L ≤ 3072) (hX : ∀ j, rg32 (X j)) (hd : 40 ≤ d) {cmp : Bool} : pr L X s LKP d 15 133 3 false cmp := by
  refine pr_mk (cx := cn2) (cm := cn136) (nx := 0) (nm := 0) hL hX (cn_all 2 (by decide) cn2 rfl) (cn_all 136 (by decide) cn136 rfl) rfl hd (fun as g hl hr hH hs hP => ?_)
  obtain ⟨a, b, z, rfl⟩ := len3 hl
  obtain ⟨c, s, T, I, J, R⟩ := g
  obtain ⟨d, rfl⟩ : ∃ e, d = e + 1 := ⟨d - 1, by omega⟩
  have hc : c = 185 := hH.1
  subst hc
  have hh := hp_of (eH5_of hH)
  have hP : LK I := hP
  obtain ⟨l0, l1, l2, l3, l4, l5, l6, l7, l8, l9, l10, l11, l12, l13, l14, l15⟩ := hP
  have e1 : I 0 1 = I 152 1 := l1
  have e2 : I 0 2 = I 152 2 := l2
  have b1 : 0 ≤ I 0 1 ∧ I 0 1 ≤ 6 := ebd hH (by decide) (by decide) (by decide)
  have b2 : 0 ≤ I 0 2 ∧ I 0 2 ≤ 6 := ebd hH (by decide) (by decide) (by decide)
  show wpc codeT mX (d + 1) 15 [.inr (.inr (some 0)), .inl a, .inl b, .inl z] _ _
  by_cases hg : (0 ≤ a ∧ a < I 0 2) ∧ (0 ≤ b ∧ b < I 0 1) ∧ 0 ≤ z ∧ z ≤ 100
  · obtain ⟨g1, g2, g3⟩ := hg
    obtain ⟨h, rfl⟩ : ∃ n : Nat, a = n := ⟨a.toNat, by omega⟩
    obtain ⟨k, rfl⟩ : ∃ n : Nat, b = n := ⟨b.toNat, by omega⟩
    have h6 : h < 6 := by omega
    have k6 : k < 6 := by omega
    have u1 : 0 ≤ (h : Int) ∧ (h : Int) < ((6 : Nat) : Int) := by omega
    have u2 : 0 ≤ (k : Int) ∧ (k : Int) < ((6 : Nat) : Int) := by omega
    have u3 : 88 + h < 185 ∧ (152 : Nat) ≠ 88 + h := by omega
    have u4 : 0 ≤ ((6 * h + k : Nat) : Int) ∧ ((6 * h + k : Nat) : Int) < ((36 : Nat) : Int) := by omega
    have y1 : 0 ≤ (h : Int) ∧ (h : Int) < I 152 2 := by omega
    have y2 : 0 ≤ (k : Int) ∧ (k : Int) < I 152 1 := by omega
    have o1 : 6 * (h : Int) = ((6 * h : Nat) : Int) := by omega
    have o2 : 6 * h ≤ 2000000000 := by omega
    have o3 : ((6 * h : Nat) : Int) + (k : Int) = ((6 * h + k : Nat) : Int) := by omega
    have o4 : 6 * h + k ≤ 2000000000 := by omega
    have nw : ∀ h' k' : Nat, h' < 6 → k' < 6 → up2 (up2 I (88 + h) k z) 153 (6 * h + k) z (88 + h') k' = up2 (up2 I (88 + h) k z) 153 (6 * h + k) z 153 (6 * h' + k') := by
      intro h' k' hh' hk'
      have := l10 h' k' hh' hk'
      rw [up2_na (by omega), up2_at, up2_at]
      by_cases he : h' = h ∧ k' = k
      · rw [if_pos (by omega), if_pos (by omega)]
      · rw [if_neg (by omega), if_neg (by omega), up2_na (by omega)]
        exact this
    have v1 := w32_c o1 o2
    have v2 := w32_c o3 o4
    simp only [e15, s15_0, s15_1, s15_2, s15_3, s15_4, s15_5, s15_6, s15_7, s15_8, s15_9, s15_10, s15_11, s15_12, s15_13, s15_14, s15_15, s15_16, s15_17, s15_18, s15_19, s15_20, s15_21, s15_22, s15_23, Option.toList_some, Option.toList_none, List.cons_append, List.nil_append, Nat.le_refl, true_and, and_true, true_or, or_true, false_or, or_false, true_implies, false_implies, implies_true, not_true_eq_false, not_false_eq_true, eq_self, Nat.reduceLT, Nat.reduceLeDiff, Nat.reduceEqDiff, Nat.reduceAdd, Nat.reduceSub, Int.reduceLT, Int.reduceLE, Int.reduceEq, Int.reduceNeg, Int.reduceNe, Int.reduceAdd, Int.reduceSub, Int.reduceMul, Int.reduceToNat, Int.toNat_zero, Int.toNat_one, Int.toNat_natCast, am_cats, am_cat, am_st1, am_st2, am_clr, up2_na, up2_nj, up2_same, List.getElem?_cons_zero, List.getElem?_cons_succ, List.set_cons_zero, List.set_cons_succ, ne_eq, tk_0 hh, rk_0_13 hh, tk_87 hh, gk_87 hh h6, tg_88 hh h6, k16 hh, k17 hh, k18, i10, g1, g2, g3, u1, u2, u3]
    intro _ hH1 m1 s1
    refine ⟨_, rfl, ?_⟩
    show wpc codeT mX (d + 1) 133 [.inr (.inr (some 152)), .inl (h : Int), .inl (k : Int), .inl z] (185, s, T, up2 I (88 + h) k z, J, R) _
    simp only [e133, s133_0, s133_1, s133_2, s133_3, s133_4, s133_5, s133_6, s133_7, s133_8, s133_9, s133_10, s133_11, s133_12, s133_13, s133_14, s133_15, s133_16, s133_17, s133_18, s133_19, s133_20, s133_21, s133_22, s133_23, s133_24, s133_25, Option.toList_some, Option.toList_none, List.cons_append, List.nil_append, Nat.le_refl, true_and, and_true, true_or, or_true, false_or, or_false, true_implies, false_implies, implies_true, not_true_eq_false, not_false_eq_true, eq_self, Nat.reduceLT, Nat.reduceLeDiff, Nat.reduceEqDiff, Nat.reduceAdd, Nat.reduceSub, Int.reduceLT, Int.reduceLE, Int.reduceEq, Int.reduceNeg, Int.reduceNe, Int.reduceAdd, Int.reduceSub, Int.reduceMul, Int.reduceToNat, Int.toNat_zero, Int.toNat_one, Int.toNat_natCast, am_cats, am_cat, am_st1, am_st2, am_clr, up2_na, up2_nj, up2_same, List.getElem?_cons_zero, List.getElem?_cons_succ, List.set_cons_zero, List.set_cons_succ, ne_eq, tk_152 hh, rk_152_7 hh, tk_153 hh, k134 hh, k135 hh, k136, i10, y1, y2, g3, u3, u4, v1, v2]
    intro _ hH2 m2
    refine ⟨_, rfl, fun _ => rfl, ?_⟩
    refine ⟨rdS_2 (twn_S 0 0 152 0) (by decide +kernel : (disj cn2.2.2.2.1 _ && disj cn136.2.2.2.1 _) = true) m1 m2 l0, rdS_2 (twn_S 0 1 152 1) (by decide +kernel : (disj cn2.2.2.2.1 _ && disj cn136.2.2.2.1 _) = true) m1 m2 l1, rdS_2 (twn_S 0 2 152 2) (by decide +kernel : (disj cn2.2.2.2.1 _ && disj cn136.2.2.2.1 _) = true) m1 m2 l2, rdS_2 (twn_S 0 3 152 5) (by decide +kernel : (disj cn2.2.2.2.1 _ && disj cn136.2.2.2.1 _) = true) m1 m2 l3, rdS_2 (twn_S 0 4 152 6) (by decide +kernel : (disj cn2.2.2.2.1 _ && disj cn136.2.2.2.1 _) = true) m1 m2 l4, rdS_2 (twn_S 3 3 152 3) (by decide +kernel : (disj cn2.2.2.2.1 _ && disj cn136.2.2.2.1 _) = true) m1 m2 l5, rdS_2 (twn_S 17 3 152 4) (by decide +kernel : (disj cn2.2.2.2.1 _ && disj cn136.2.2.2.1 _) = true) m1 m2 l6, rdS_2 (twn_S 102 3 152 46) (by decide +kernel : (disj cn2.2.2.2.1 _ && disj cn136.2.2.2.1 _) = true) m1 m2 l7, rdS_2 (twn_S 1 1 152 17) (by decide +kernel : (disj cn2.2.2.2.1 _ && disj cn136.2.2.2.1 _) = true) m1 m2 l8, rdS_2 (lkY_S) (by decide +kernel : (disj cn2.2.2.2.1 _ && disj cn136.2.2.2.1 _) = true) m1 m2 l9, ?_, rdS_2 (lkT_S) (by decide +kernel : (disj cn2.2.2.2.1 _ && disj cn136.2.2.2.1 _) = true) m1 m2 l11, rdS_2 (lkB_S) (by decide +kernel : (disj cn2.2.2.2.1 _ && disj cn136.2.2.2.1 _) = true) m1 m2 l12, rdS_2 (lkO_S) (by decide +kernel : (disj cn2.2.2.2.1 _ && disj cn136.2.2.2.1 _) = true) m1 m2 l13, rdS_2 (lkC_S) (by decide +kernel : (disj cn2.2.2.2.1 _ && disj cn136.2.2.2.1 _) = true) m1 m2 l14, rdS_2 (lkQ_S) (by decide +kernel : (disj cn2.2.2.2.1 _ && disj cn136.2.2.2.1 _) = true) m1 m2 l15⟩
    exact nw
  · have hg2 : ¬ ((0 ≤ a ∧ a < I 152 2) ∧ (0 ≤ b ∧ b < I 152 1) ∧ 0 ≤ z ∧ z ≤ 100) := by rw [← e1, ← e2]; exact hg
    have fin : ∀ Q : Option AV → AH → Prop, Q (some (.inl 0)) (185, s, T, I, J, R) → wpc codeT mX (d + 1) 133 [.inr (.inr (some 152)), .inl a, .inl b, .inl z] (185, s, T, I, J, R) Q := by
      intro Q hQ
      simp only [s133_0, s133_1, s133_2, s133_3, s133_4, s133_5, s133_6, s133_7, s133_8, s133_9, s133_10, s133_11, s133_12, s133_13, s133_14, e133, Option.toList_some, Option.toList_none, List.cons_append, List.nil_append, Nat.le_refl, true_and, and_true, true_or, or_true, false_or, or_false, true_implies, false_implies, implies_true, not_true_eq_false, not_false_eq_true, eq_self, Nat.reduceLT, Nat.reduceLeDiff, Nat.reduceEqDiff, Nat.reduceAdd, Nat.reduceSub, Int.reduceLT, Int.reduceLE, Int.reduceEq, Int.reduceNeg, Int.reduceNe, Int.reduceAdd, Int.reduceSub, Int.reduceMul, Int.reduceToNat, Int.toNat_zero, Int.toNat_one, Int.toNat_natCast, am_cats, am_cat, am_st1, am_st2, am_clr, up2_na, up2_nj, up2_same, List.getElem?_cons_zero, List.getElem?_cons_succ, List.set_cons_zero, List.set_cons_succ, ne_eq, tk_152 hh, k134 hh, k135 hh, k136, i10, Classical.not_not]
      exact ⟨fun _ => hQ, fun q1 => ⟨fun _ => hQ, fun q2 => ⟨fun _ => hQ, fun q3 => absurd ⟨q1, q2, q3⟩ hg2⟩⟩⟩
    have go : ∀ Q : Option AV → AH → Prop, Q (some (.inl 0)) (185, s, T, I, J, R) → wpc codeT mX (d + 1) 15 [.inr (.inr (some 0)), .inl a, .inl b, .inl z] (185, s, T, I, J, R) Q := by
      intro Q hQ
      simp only [s15_0, s15_1, s15_2, s15_3, s15_4, s15_5, s15_6, s15_7, s15_8, s15_9, s15_10, s15_11, s15_12, s15_13, s15_14, e15, Option.toList_some, Option.toList_none, List.cons_append, List.nil_append, Nat.le_refl, true_and, and_true, true_or, or_true, false_or, or_false, true_implies, false_implies, implies_true, not_true_eq_false, not_false_eq_true, eq_self, Nat.reduceLT, Nat.reduceLeDiff, Nat.reduceEqDiff, Nat.reduceAdd, Nat.reduceSub, Int.reduceLT, Int.reduceLE, Int.reduceEq, Int.reduceNeg, Int.reduceNe, Int.reduceAdd, Int.reduceSub, Int.reduceMul, Int.reduceToNat, Int.toNat_zero, Int.toNat_one, Int.toNat_natCast, am_cats, am_cat, am_st1, am_st2, am_clr, up2_na, up2_nj, up2_same, List.getElem?_cons_zero, List.getElem?_cons_succ, List.set_cons_zero, List.set_cons_succ, ne_eq, tk_0 hh, k16 hh, k17 hh, k18, i10, Classical.not_not]
      exact ⟨fun _ => hQ, fun q1 => ⟨fun _ => hQ, fun q2 => ⟨fun _ => hQ, fun q3 => absurd ⟨q1, q2, q3⟩ hg⟩⟩⟩
    refine go _ (fun _ hH1 m1 s1 => ⟨0, rfl, fin _ (fun _ hH2 m2 => ⟨0, rfl, fun _ => rfl, l0, l1, l2, l3, l4, l5, l6, l7, l8, l9, l10, l11, l12, l13, l14, l15⟩)⟩)
end
