/-! the law's two readers, 22: gives, lasts answer alike -/
theorem frW_sh {I I' : Nat → Nat → Int} (h : frW I I') {a j : Nat} (ha : a < 6) : I' (88 + a) j = I (88 + a) j := h _ _ (by omega) (by omega) (by omega) (fun q' hq' => by have := (show ∀ q, q ∈ lawIds → q = 81 ∨ 116 ≤ q by decide) q' hq'; exact ⟨by omega, fun z => by omega⟩)
theorem flI_F {I I2 : Nat → Nat → Int} {h t n : Nat} {day : Int} (fr : frW I I2) : ∀ v, v < 9 → v ≠ 5 → v ≠ 6 → flI I2 h t n day 174 v = ltF (mny I h t n) (lsF I h t n) (snF I h t n) (alF I h n) (I 156 t) t day v := by
  have fc : ∀ x j, 157 ≤ x → x ≤ 161 → I2 x j = I x j := fun x j h1 h2 => frW_hi fr (by omega) (by omega) (by omega)
  intro v h9 h5 h6
  rw [flI_v v h9 h5 h6, mny_of (I := I) n (fun i _ => ⟨fc 157 i (by decide) (by decide), fc 158 i (by decide) (by decide)⟩), lsF_of (I := I) n (fun i _ => ⟨fc 157 i (by decide) (by decide), fc 158 i (by decide) (by decide), fc 159 i (by decide) (by decide)⟩), snF_of (I := I) n (fun i _ => ⟨fc 157 i (by decide) (by decide), fc 158 i (by decide) (by decide)⟩), alF_of (I := I) n (fun i _ => fc 157 i (by decide) (by decide)), frW_hi fr (by decide) (by decide) (by decide)]
section
variable {L s d : Nat} {X : Nat → Int}
set_option maxHeartbeats 1000000 in
theorem px_gives (hL : L ≤ 3072) (hX : ∀ j, rg32 (X j)) (hd : 40 ≤ d) : prx L X s LAL LKP d 50 163 3 false true := by
  refine px_ans (cx := cn79) (cm := cn143) (nx := 0) (nm := 0) hL hX (cn_all 79 (by decide) cn79 rfl) (cn_all 143 (by decide) cn143 rfl) rfl hd (by decide +kernel) (fun g h => h.1) (fun as s T I J R hl hr hH hP => ?_)
  obtain ⟨a, b, z, rfl⟩ := len3 hl
  obtain ⟨e, rfl⟩ : ∃ e, d = e + 5 := ⟨d - 5, by omega⟩
  have hh := hp_of (eH5_of hH)
  have b1 : 0 ≤ I 0 1 ∧ I 0 1 ≤ 6 := ebd hH (by decide) (by decide) (by decide)
  have b2 : 0 ≤ I 0 2 ∧ I 0 2 ≤ 6 := ebd hH (by decide) (by decide) (by decide)
  have b3 : 0 ≤ I 3 3 ∧ I 3 3 ≤ 8 := ebd hH (by decide) (by decide) (by decide)
  have b4 : 0 ≤ I 17 3 ∧ I 17 3 ≤ 200 := ebd hH (by decide) (by decide) (by decide)
  obtain ⟨n, hn⟩ : ∃ n : Nat, I 17 3 = n := ⟨(I 17 3).toNat, by omega⟩
  have n2 : n ≤ 200 := by omega
  have hK : LK I := hP.1
  obtain ⟨l0, l1, l2, -, -, l5, l6, -, -, -, l10, l11, -⟩ := hK
  have l0 : I 0 0 = I 152 0 := l0
  have l1 : I 0 1 = I 152 1 := l1
  have l2 : I 0 2 = I 152 2 := l2
  have l5 : I 3 3 = I 152 3 := l5
  have l6 : I 17 3 = I 152 4 := l6
  have hN : I 152 4 = (n : Int) := l6.symm.trans hn
  have hPP : lkP I := hP.2.1.1.2.2
  show ∃ a' : Int, wpc codeT mX (e + 5) 50 [.inr (.inr (some 0)), .inl a, .inl b, .inl z] (185, s, T, I, J, R) (fun v g1 => v = some (ansV false a') ∧ (eH g1 → eM cn79.2.2.2.1 (185, s, T, I, J, R) g1 → wpc codeT mX (e + 5) 163 [.inr (.inr (some 152)), .inl a, .inl b, .inl z] g1 (fun v2 _ => v2 = some (ansV false a'))))
  by_cases g1 : 0 ≤ a ∧ a < I 0 2
  · have g1' : 0 ≤ a ∧ a < I 152 2 := by omega
    by_cases g2 : 0 ≤ b ∧ b < I 3 3
    · have g2' : 0 ≤ b ∧ b < I 152 3 := by omega
      by_cases g3 : 0 ≤ z ∧ z < I 0 1
      · have g3' : 0 ≤ z ∧ z < I 152 1 := by omega
        obtain ⟨h, rfl⟩ : ∃ k : Nat, a = (k : Int) := ⟨a.toNat, by omega⟩
        obtain ⟨t, rfl⟩ : ∃ k : Nat, b = (k : Int) := ⟨b.toNat, by omega⟩
        obtain ⟨k, rfl⟩ : ∃ k : Nat, z = (k : Int) := ⟨z.toNat, by omega⟩
        have h6 : h < 6 := by omega
        have t8 : t < 8 := by omega
        have k6 : k < 6 := by omega
        obtain ⟨ta, tb, -, -, tc, td, -, -, -, tk⟩ := l11.1 t t8 g2.2
        have eu : I (5 + t) k = I 154 (6 * t + k) := (tk k k6).1
        have es : I (88 + h) k = I 153 (6 * h + k) := l10 h k h6 k6
        have u1 : 0 ≤ (h : Int) ∧ (h : Int) < ((6 : Nat) : Int) := by omega
        have u2 : 0 ≤ (t : Int) ∧ (t : Int) < ((8 : Nat) : Int) := by omega
        have u3 : 0 ≤ (k : Int) ∧ (k : Int) < ((6 : Nat) : Int) := by omega
        have u4 : 5 + t < 185 := by omega
        have z1 : (6 : Int) * (t : Int) = ((6 * t : Nat) : Int) := by omega
        have z2 : ((6 * t : Nat) : Int) + (k : Int) = ((6 * t + k : Nat) : Int) := by omega
        have u5 : 0 ≤ ((6 * t + k : Nat) : Int) ∧ ((6 * t + k : Nat) : Int) < ((48 : Nat) : Int) := by omega
        have w1 := w32_c z1 (by omega)
        have w2 := w32_c z2 (by clear w1; omega)
        by_cases g4 : I (5 + t) k = 0
        · have g4' : I 154 (6 * t + k) = 0 := eu.symm.trans g4
          refine ⟨-1, ?_⟩
          simp only [s50_0, s50_1, s50_2, s50_3, s50_4, s50_5, s50_6, s50_7, s50_8, s50_9, s50_10, s50_11, s50_12, s50_13, s50_14, s50_15, s50_16, s50_17, s50_18, s50_19, s50_20, s50_21, e50, Option.toList_some, Option.toList_none, List.cons_append, List.nil_append, Nat.le_refl, true_and, and_true, true_or, or_true, false_or, or_false, true_implies, false_implies, implies_true, not_true_eq_false, not_false_eq_true, eq_self, Nat.reduceLT, Nat.reduceLeDiff, Nat.reduceEqDiff, Nat.reduceAdd, Nat.reduceSub, Int.reduceLT, Int.reduceLE, Int.reduceEq, Int.reduceNeg, Int.reduceNe, Int.reduceAdd, Int.reduceSub, Int.reduceMul, Int.reduceToNat, Int.toNat_zero, Int.toNat_one, Int.toNat_natCast, am_cats, am_cat, am_st1, am_st2, am_clr, up2_na, up2_nj, up2_same, List.getElem?_cons_zero, List.getElem?_cons_succ, List.set_cons_zero, List.set_cons_succ, ne_eq, tk_0 hh, tk_3 hh, tk_4 hh, tg_5 hh t8, rk_0_6 hh, rk_3_0 hh, gk_4 hh t8, k16 hh, k17 hh, k51 hh, i10, g1, g2, g3, g4, u1, u2, u3, u4]
          refine ⟨rfl, fun _ _ => ?_⟩
          simp only [s163_0, s163_1, s163_2, s163_3, s163_4, s163_5, s163_6, s163_7, s163_8, s163_9, s163_10, s163_11, s163_12, s163_13, s163_14, s163_15, s163_16, s163_17, s163_18, s163_19, s163_20, s163_21, s163_22, e163, Option.toList_some, Option.toList_none, List.cons_append, List.nil_append, Nat.le_refl, true_and, and_true, true_or, or_true, false_or, or_false, true_implies, false_implies, implies_true, not_true_eq_false, not_false_eq_true, eq_self, Nat.reduceLT, Nat.reduceLeDiff, Nat.reduceEqDiff, Nat.reduceAdd, Nat.reduceSub, Int.reduceLT, Int.reduceLE, Int.reduceEq, Int.reduceNeg, Int.reduceNe, Int.reduceAdd, Int.reduceSub, Int.reduceMul, Int.reduceToNat, Int.toNat_zero, Int.toNat_one, Int.toNat_natCast, am_cats, am_cat, am_st1, am_st2, am_clr, up2_na, up2_nj, up2_same, List.getElem?_cons_zero, List.getElem?_cons_succ, List.set_cons_zero, List.set_cons_succ, ne_eq, tk_152 hh, tk_154 hh, rk_152_8 hh, k134 hh, k164 hh, k135 hh, i10, g1', g2', g3', g4', u5, w1, w2]
          rfl
        · have g4' : ¬ I 154 (6 * t + k) = 0 := fun q => g4 (eu.trans q)
          obtain ⟨F, hF⟩ : ∃ F, F = ltF (mny I h t n) (lsF I h t n) (snF I h t n) (alF I h n) (I 14 t) t (I 0 0) := ⟨_, rfl⟩
          obtain ⟨v, hv, -⟩ := lwG_ex hP.2.2 k6 (ftK F (I (5 + t) k) (I (88 + h) k))
          have hv : lwG I R k (ftK F (I (5 + t) k) (I (88 + h) k)) v := hv
          refine ⟨gvF v (I (88 + h) k), ?_⟩
          simp only [s50_0, s50_1, s50_2, s50_3, s50_4, s50_5, s50_6, s50_7, s50_8, s50_9, s50_10, s50_11, s50_12, s50_13, s50_14, s50_15, s50_16, s50_17, s50_18, s50_19, s50_20, s50_21, s50_22, s50_23, s50_24, s50_25, s50_26, s50_27, s50_28, s50_29, s50_30, e50, Option.toList_some, Option.toList_none, List.cons_append, List.nil_append, Nat.le_refl, true_and, and_true, true_or, or_true, false_or, or_false, true_implies, false_implies, implies_true, not_true_eq_false, not_false_eq_true, eq_self, Nat.reduceLT, Nat.reduceLeDiff, Nat.reduceEqDiff, Nat.reduceAdd, Nat.reduceSub, Int.reduceLT, Int.reduceLE, Int.reduceEq, Int.reduceNeg, Int.reduceNe, Int.reduceAdd, Int.reduceSub, Int.reduceMul, Int.reduceToNat, Int.toNat_zero, Int.toNat_one, Int.toNat_natCast, am_cats, am_cat, am_st1, am_st2, am_clr, up2_na, up2_nj, up2_same, List.getElem?_cons_zero, List.getElem?_cons_succ, List.set_cons_zero, List.set_cons_succ, ne_eq, tk_0 hh, tk_3 hh, tk_4 hh, tk_17 hh, tk_31 hh, tg_5 hh t8, rk_0_6 hh, rk_0_7 hh, rk_3_0 hh, rk_17_2 hh, gk_4 hh t8, k16 hh, k17 hh, k51 hh, i10, g1, g2, g3, g4, u1, u2, u3, u4]
          refine x52 (d := e + 3) hh (Or.inl rfl) h6 t8 ⟨⟨Nat.le_refl _, Nat.le_refl _⟩, ?_⟩
          simp only [s50_31, s50_32, s50_33, s50_34, s50_35, Option.toList_some, Option.toList_none, List.cons_append, List.nil_append, Nat.le_refl, true_and, and_true, true_or, or_true, false_or, or_false, true_implies, false_implies, implies_true, not_true_eq_false, not_false_eq_true, eq_self, Nat.reduceLT, Nat.reduceLeDiff, Nat.reduceEqDiff, Nat.reduceAdd, Nat.reduceSub, Int.reduceLT, Int.reduceLE, Int.reduceEq, Int.reduceNeg, Int.reduceNe, Int.reduceAdd, Int.reduceSub, Int.reduceMul, Int.reduceToNat, Int.toNat_zero, Int.toNat_one, Int.toNat_natCast, am_cats, am_cat, am_st1, am_st2, am_clr, up2_na, up2_nj, up2_same, List.getElem?_cons_zero, List.getElem?_cons_succ, List.set_cons_zero, List.set_cons_succ, ne_eq, tk_0 hh]
          refine x57 (d := e) (F := F) hh h6 t8 k6 (frW_lo tdI_fr (by omega)) (frW_sh tdI_fr h6) (fun w h9 h5 hh6 => by rw [hF]; exact tdI_v n2 h6 t8 (hPP n hn) w h9 h5 hh6) (lwG_fr tdI_fr hv) (fun I2 f2 _ => ⟨⟨Nat.le_refl _, Nat.le_refl _⟩, ?_⟩)
          have fI : frW I I2 := frW_tr tdI_fr f2
          simp only [s50_36, Option.toList_some, Option.toList_none, List.cons_append, List.nil_append, Nat.le_refl, true_and, and_true, true_or, or_true, false_or, or_false, true_implies, false_implies, implies_true, not_true_eq_false, not_false_eq_true, eq_self, Nat.reduceLT, Nat.reduceLeDiff, Nat.reduceEqDiff, Nat.reduceAdd, Nat.reduceSub, Int.reduceLT, Int.reduceLE, Int.reduceEq, Int.reduceNeg, Int.reduceNe, Int.reduceAdd, Int.reduceSub, Int.reduceMul, Int.reduceToNat, Int.toNat_zero, Int.toNat_one, Int.toNat_natCast, am_cats, am_cat, am_st1, am_st2, am_clr, up2_na, up2_nj, up2_same, List.getElem?_cons_zero, List.getElem?_cons_succ, List.set_cons_zero, List.set_cons_succ, ne_eq]
          refine ⟨rfl, fun _ _ => ?_⟩
          have f0 : I2 152 0 = I 152 0 := frW_hi fI (by decide) (by decide) (by decide)
          have f1 : I2 152 1 = I 152 1 := frW_hi fI (by decide) (by decide) (by decide)
          have f2 : I2 152 2 = I 152 2 := frW_hi fI (by decide) (by decide) (by decide)
          have f3 : I2 152 3 = I 152 3 := frW_hi fI (by decide) (by decide) (by decide)
          have f4 : I2 152 4 = n := (frW_hi fI (by decide) (by decide) (by decide)).trans hN
          have f5 : I2 154 (6 * t + k) = I (5 + t) k := (frW_hi fI (by decide) (by decide) (by decide)).trans eu.symm
          have f6 : I2 153 (6 * h + k) = I (88 + h) k := (frW_hi fI (by decide) (by decide) (by decide)).trans es.symm
          simp only [s163_0, s163_1, s163_2, s163_3, s163_4, s163_5, s163_6, s163_7, s163_8, s163_9, s163_10, s163_11, s163_12, s163_13, s163_14, s163_15, s163_16, s163_17, s163_18, s163_19, s163_20, s163_21, s163_22, s163_23, s163_24, s163_25, s163_26, s163_27, s163_28, s163_29, s163_30, e163, Option.toList_some, Option.toList_none, List.cons_append, List.nil_append, Nat.le_refl, true_and, and_true, true_or, or_true, false_or, or_false, true_implies, false_implies, implies_true, not_true_eq_false, not_false_eq_true, eq_self, Nat.reduceLT, Nat.reduceLeDiff, Nat.reduceEqDiff, Nat.reduceAdd, Nat.reduceSub, Int.reduceLT, Int.reduceLE, Int.reduceEq, Int.reduceNeg, Int.reduceNe, Int.reduceAdd, Int.reduceSub, Int.reduceMul, Int.reduceToNat, Int.toNat_zero, Int.toNat_one, Int.toNat_natCast, am_cats, am_cat, am_st1, am_st2, am_clr, up2_na, up2_nj, up2_same, List.getElem?_cons_zero, List.getElem?_cons_succ, List.set_cons_zero, List.set_cons_succ, ne_eq, tk_152 hh, tk_154 hh, rk_152_8 hh, k134 hh, k164 hh, k135 hh, i10, f1, f2, f3, f4, f5, g1', g2', g3', g4, u5, w1, w2]
          refine x165 (d := e + 4) hh t8 n2 ⟨⟨Nat.le_refl _, Nat.le_refl _⟩, ?_⟩
          simp only [s163_31, s163_32, s163_33, s163_34, s163_35, Option.toList_some, Option.toList_none, List.cons_append, List.nil_append, Nat.le_refl, true_and, and_true, true_or, or_true, false_or, or_false, true_implies, false_implies, implies_true, not_true_eq_false, not_false_eq_true, eq_self, Nat.reduceLT, Nat.reduceLeDiff, Nat.reduceEqDiff, Nat.reduceAdd, Nat.reduceSub, Int.reduceLT, Int.reduceLE, Int.reduceEq, Int.reduceNeg, Int.reduceNe, Int.reduceAdd, Int.reduceSub, Int.reduceMul, Int.reduceToNat, Int.toNat_zero, Int.toNat_one, Int.toNat_natCast, am_cats, am_cat, am_st1, am_st2, am_clr, up2_na, up2_nj, up2_same, List.getElem?_cons_zero, List.getElem?_cons_succ, List.set_cons_zero, List.set_cons_succ, ne_eq, tk_152 hh]
          refine x166 (d := e + 1) (F := F) hh h6 t8 k6 ((frW_hi flI_fr (by decide) (by decide) (by decide)).trans f5) ((frW_hi flI_fr (by decide) (by decide) (by decide)).trans f6) (fun w h9 h5 hh6 => by rw [flI_F fI w h9 h5 hh6, hF, f0, ← l0, tb]) (lwG_fr (frW_tr fI flI_fr) hv) (fun I3 f3 _ => ⟨⟨Nat.le_refl _, Nat.le_refl _⟩, ?_⟩)
          simp only [s163_36, Option.toList_some, Option.toList_none, List.cons_append, List.nil_append, Nat.le_refl, true_and, and_true, true_or, or_true, false_or, or_false, true_implies, false_implies, implies_true, not_true_eq_false, not_false_eq_true, eq_self, Nat.reduceLT, Nat.reduceLeDiff, Nat.reduceEqDiff, Nat.reduceAdd, Nat.reduceSub, Int.reduceLT, Int.reduceLE, Int.reduceEq, Int.reduceNeg, Int.reduceNe, Int.reduceAdd, Int.reduceSub, Int.reduceMul, Int.reduceToNat, Int.toNat_zero, Int.toNat_one, Int.toNat_natCast, am_cats, am_cat, am_st1, am_st2, am_clr, up2_na, up2_nj, up2_same, List.getElem?_cons_zero, List.getElem?_cons_succ, List.set_cons_zero, List.set_cons_succ, ne_eq]
          rfl
      · have g3' : ¬ (0 ≤ z ∧ z < I 152 1) := by omega
        refine ⟨-1, ?_⟩
        simp only [s50_0, s50_1, s50_2, s50_3, s50_4, s50_5, s50_6, s50_7, s50_8, s50_9, s50_10, s50_11, s50_20, s50_21, e50, Option.toList_some, Option.toList_none, List.cons_append, List.nil_append, Nat.le_refl, true_and, and_true, true_or, or_true, false_or, or_false, true_implies, false_implies, implies_true, not_true_eq_false, not_false_eq_true, eq_self, Nat.reduceLT, Nat.reduceLeDiff, Nat.reduceEqDiff, Nat.reduceAdd, Nat.reduceSub, Int.reduceLT, Int.reduceLE, Int.reduceEq, Int.reduceNeg, Int.reduceNe, Int.reduceAdd, Int.reduceSub, Int.reduceMul, Int.reduceToNat, Int.toNat_zero, Int.toNat_one, Int.toNat_natCast, am_cats, am_cat, am_st1, am_st2, am_clr, up2_na, up2_nj, up2_same, List.getElem?_cons_zero, List.getElem?_cons_succ, List.set_cons_zero, List.set_cons_succ, ne_eq, tk_0 hh, k16 hh, k17 hh, k51 hh, i10, g1, g2, g3]
        refine ⟨rfl, fun _ _ => ?_⟩
        simp only [s163_0, s163_1, s163_2, s163_3, s163_4, s163_5, s163_6, s163_7, s163_8, s163_9, s163_10, s163_11, s163_21, s163_22, e163, Option.toList_some, Option.toList_none, List.cons_append, List.nil_append, Nat.le_refl, true_and, and_true, true_or, or_true, false_or, or_false, true_implies, false_implies, implies_true, not_true_eq_false, not_false_eq_true, eq_self, Nat.reduceLT, Nat.reduceLeDiff, Nat.reduceEqDiff, Nat.reduceAdd, Nat.reduceSub, Int.reduceLT, Int.reduceLE, Int.reduceEq, Int.reduceNeg, Int.reduceNe, Int.reduceAdd, Int.reduceSub, Int.reduceMul, Int.reduceToNat, Int.toNat_zero, Int.toNat_one, Int.toNat_natCast, am_cats, am_cat, am_st1, am_st2, am_clr, up2_na, up2_nj, up2_same, List.getElem?_cons_zero, List.getElem?_cons_succ, List.set_cons_zero, List.set_cons_succ, ne_eq, tk_152 hh, k134 hh, k164 hh, k135 hh, i10, g1', g2', g3']
        rfl
    · have g2' : ¬ (0 ≤ b ∧ b < I 152 3) := by omega
      refine ⟨-1, ?_⟩
      simp only [s50_0, s50_1, s50_2, s50_3, s50_4, s50_5, s50_6, s50_7, s50_8, s50_9, s50_10, s50_11, s50_20, s50_21, e50, Option.toList_some, Option.toList_none, List.cons_append, List.nil_append, Nat.le_refl, true_and, and_true, true_or, or_true, false_or, or_false, true_implies, false_implies, implies_true, not_true_eq_false, not_false_eq_true, eq_self, Nat.reduceLT, Nat.reduceLeDiff, Nat.reduceEqDiff, Nat.reduceAdd, Nat.reduceSub, Int.reduceLT, Int.reduceLE, Int.reduceEq, Int.reduceNeg, Int.reduceNe, Int.reduceAdd, Int.reduceSub, Int.reduceMul, Int.reduceToNat, Int.toNat_zero, Int.toNat_one, Int.toNat_natCast, am_cats, am_cat, am_st1, am_st2, am_clr, up2_na, up2_nj, up2_same, List.getElem?_cons_zero, List.getElem?_cons_succ, List.set_cons_zero, List.set_cons_succ, ne_eq, tk_0 hh, k16 hh, k51 hh, i10, g1, g2]
      refine ⟨rfl, fun _ _ => ?_⟩
      simp only [s163_0, s163_1, s163_2, s163_3, s163_4, s163_5, s163_6, s163_7, s163_8, s163_9, s163_10, s163_11, s163_21, s163_22, e163, Option.toList_some, Option.toList_none, List.cons_append, List.nil_append, Nat.le_refl, true_and, and_true, true_or, or_true, false_or, or_false, true_implies, false_implies, implies_true, not_true_eq_false, not_false_eq_true, eq_self, Nat.reduceLT, Nat.reduceLeDiff, Nat.reduceEqDiff, Nat.reduceAdd, Nat.reduceSub, Int.reduceLT, Int.reduceLE, Int.reduceEq, Int.reduceNeg, Int.reduceNe, Int.reduceAdd, Int.reduceSub, Int.reduceMul, Int.reduceToNat, Int.toNat_zero, Int.toNat_one, Int.toNat_natCast, am_cats, am_cat, am_st1, am_st2, am_clr, up2_na, up2_nj, up2_same, List.getElem?_cons_zero, List.getElem?_cons_succ, List.set_cons_zero, List.set_cons_succ, ne_eq, tk_152 hh, k134 hh, k164 hh, i10, g1', g2']
      rfl
  · have g1' : ¬ (0 ≤ a ∧ a < I 152 2) := by omega
    refine ⟨-1, ?_⟩
    simp only [s50_0, s50_1, s50_2, s50_3, s50_4, s50_5, s50_6, s50_7, s50_8, s50_9, s50_10, s50_11, s50_20, s50_21, e50, Option.toList_some, Option.toList_none, List.cons_append, List.nil_append, Nat.le_refl, true_and, and_true, true_or, or_true, false_or, or_false, true_implies, false_implies, implies_true, not_true_eq_false, not_false_eq_true, eq_self, Nat.reduceLT, Nat.reduceLeDiff, Nat.reduceEqDiff, Nat.reduceAdd, Nat.reduceSub, Int.reduceLT, Int.reduceLE, Int.reduceEq, Int.reduceNeg, Int.reduceNe, Int.reduceAdd, Int.reduceSub, Int.reduceMul, Int.reduceToNat, Int.toNat_zero, Int.toNat_one, Int.toNat_natCast, am_cats, am_cat, am_st1, am_st2, am_clr, up2_na, up2_nj, up2_same, List.getElem?_cons_zero, List.getElem?_cons_succ, List.set_cons_zero, List.set_cons_succ, ne_eq, tk_0 hh, k16 hh, i10, g1]
    refine ⟨rfl, fun _ _ => ?_⟩
    simp only [s163_0, s163_1, s163_2, s163_3, s163_4, s163_5, s163_6, s163_7, s163_8, s163_9, s163_10, s163_11, s163_21, s163_22, e163, Option.toList_some, Option.toList_none, List.cons_append, List.nil_append, Nat.le_refl, true_and, and_true, true_or, or_true, false_or, or_false, true_implies, false_implies, implies_true, not_true_eq_false, not_false_eq_true, eq_self, Nat.reduceLT, Nat.reduceLeDiff, Nat.reduceEqDiff, Nat.reduceAdd, Nat.reduceSub, Int.reduceLT, Int.reduceLE, Int.reduceEq, Int.reduceNeg, Int.reduceNe, Int.reduceAdd, Int.reduceSub, Int.reduceMul, Int.reduceToNat, Int.toNat_zero, Int.toNat_one, Int.toNat_natCast, am_cats, am_cat, am_st1, am_st2, am_clr, up2_na, up2_nj, up2_same, List.getElem?_cons_zero, List.getElem?_cons_succ, List.set_cons_zero, List.set_cons_succ, ne_eq, tk_152 hh, k134 hh, i10, g1']
    rfl
end
/-- how long something lasts: the letters of the b-th question; the answer -/
def fbL (hard t day : Int) (b v : Nat) : Int := if v = 0 then 1 else if v = 1 then 0 else if v = 2 then (b : Int) else if v = 3 then ((b + 1 : Nat) : Int) else if v = 4 then hard else if v = 7 then t else if v = 8 then day else 0
def laF (G : Nat → Int) (much : Int) : Nat → Nat → Int
  | 0, _ => 100
  | r + 1, b => if G b < much then (if b = 0 then -2 else (b : Int) - 1) else laF G much r (b + 1)
theorem v9c {v : Nat} (h9 : v < 9) (h5 : v ≠ 5) (h6 : v ≠ 6) : v = 0 ∨ v = 1 ∨ v = 2 ∨ v = 3 ∨ v = 4 ∨ v = 7 ∨ v = 8 := by omega
theorem fb4 {I : Nat → Nat → Int} {a b : Nat} {hard t day : Int} (h4 : I a 4 = hard) (h7 : I a 7 = t) (h8 : I a 8 = day) : ∀ v, v < 9 → v ≠ 5 → v ≠ 6 → up2 (up2 (up2 (up2 I a 0 1) a 1 0) a 2 (b : Int)) a 3 ((b + 1 : Nat) : Int) a v = fbL hard t day b v := by
  intro v h9 h5 h6
  rcases v9c h9 h5 h6 with rfl | rfl | rfl | rfl | rfl | rfl | rfl
  · rw [up2_nj (by decide), up2_nj (by decide), up2_nj (by decide), up2_v]
    rfl
  · rw [up2_nj (by decide), up2_nj (by decide), up2_v]
    rfl
  · rw [up2_nj (by decide), up2_v]
    rfl
  · rw [up2_v]
    rfl
  · rw [up2_nj (by decide), up2_nj (by decide), up2_nj (by decide), up2_nj (by decide)]
    exact h4
  · rw [up2_nj (by decide), up2_nj (by decide), up2_nj (by decide), up2_nj (by decide)]
    exact h7
  · rw [up2_nj (by decide), up2_nj (by decide), up2_nj (by decide), up2_nj (by decide)]
    exact h8
theorem fb2 {I : Nat → Nat → Int} {a b : Nat} {hard t day : Int} (h0 : I a 0 = 1) (h1 : I a 1 = 0) (h4 : I a 4 = hard) (h7 : I a 7 = t) (h8 : I a 8 = day) : ∀ v, v < 9 → v ≠ 5 → v ≠ 6 → up2 (up2 I a 2 (b : Int)) a 3 ((b + 1 : Nat) : Int) a v = fbL hard t day b v := by
  intro v h9 h5 h6
  rcases v9c h9 h5 h6 with rfl | rfl | rfl | rfl | rfl | rfl | rfl
  · rw [up2_nj (by decide), up2_nj (by decide)]
    exact h0
  · rw [up2_nj (by decide), up2_nj (by decide)]
    exact h1
  · rw [up2_nj (by decide), up2_v]
    rfl
  · rw [up2_v]
    rfl
  · rw [up2_nj (by decide), up2_nj (by decide)]
    exact h4
  · rw [up2_nj (by decide), up2_nj (by decide)]
    exact h7
  · rw [up2_nj (by decide), up2_nj (by decide)]
    exact h8
theorem frW_78 {I : Nat → Nat → Int} {j : Nat} {v : Int} : frW I (up2 I 78 j v) := fun a j h1 _ _ _ => up2_na h1
theorem frW_174 {I : Nat → Nat → Int} {j : Nat} {v : Int} : frW I (up2 I 174 j v) := fun a j _ _ h1 _ => up2_na h1
section
variable {s d h t k : Nat} {T : Nat → Nat × Nat} {I J : Nat → Nat → Int} {R : Nat → Nat → Option Nat} {Q : Option AV → AH → Prop}
set_option maxHeartbeats 1000000 in
theorem la_x (hh : hp T R) (h6 : h < 6) (t8 : t < 8) (k6 : k < 6) {hard day u sh much : Int} {V : Nat → Int} (hu : I (5 + t) k = u) (hs : I (88 + h) k = sh) (hg : ∀ b, lwG I R k (ftK (fbL hard t day b) u sh) (V b)) : ∀ (r b : Nat), b + r = 101 → (∀ I2, frW I I2 → Q (some (.inl (laF (fun b => gvF (V b) sh) much r b))) (185, s, T, I2, J, R)) → ∀ I1 : Nat → Nat → Int, frW I I1 → I1 78 4 = hard → I1 78 7 = t → I1 78 8 = day → wp codeT mX (d + 5) 113 42 [some (.inr (.inr (some 0))), some (.inl (h : Int)), some (.inl (t : Int)), some (.inl (k : Int)), some (.inl much), some (.inl (b : Int))] [] (185, s, T, I1, J, R) Q := by
  intro r
  induction r with
  | zero =>
    intro b hb hQ I1 hf h4 h7 h8
    have u1 : (100 : Int) < (b : Int) := by omega
    have fin := hQ I1 hf
    refine s113_42.mpr ?_
    simp only [s113_43, s113_44, s113_71, s113_72, Option.toList_some, Option.toList_none, List.cons_append, List.nil_append, Nat.le_refl, true_and, and_true, true_or, or_true, false_or, or_false, true_implies, false_implies, implies_true, not_true_eq_false, not_false_eq_true, eq_self, Nat.reduceLT, Nat.reduceLeDiff, Nat.reduceEqDiff, Nat.reduceAdd, Nat.reduceSub, Int.reduceLT, Int.reduceLE, Int.reduceEq, Int.reduceNeg, Int.reduceNe, Int.reduceAdd, Int.reduceSub, Int.reduceMul, Int.reduceToNat, Int.toNat_zero, Int.toNat_one, Int.toNat_natCast, am_cats, am_cat, am_st1, am_st2, am_clr, up2_na, up2_nj, up2_same, List.getElem?_cons_zero, List.getElem?_cons_succ, List.set_cons_zero, List.set_cons_succ, ne_eq, u1]
    exact fin
  | succ r ih =>
    intro b hb hQ I1 hf h4 h7 h8
    have u1 : ¬ (100 : Int) < (b : Int) := by omega
    have b2 : b ≤ 1080 := by omega
    rw [laF] at hQ
    have go : wpc codeT mX (d + 4) 57 [.inr (.inr (some 0)), .inl (h : Int), .inl (t : Int), .inl (k : Int)] (185, s, T, up2 (up2 (up2 (up2 I1 78 0 1) 78 1 0) 78 2 (b : Int)) 78 3 ((b + 1 : Nat) : Int), J, R) (fun v h1 => (185 ≤ h1.1 ∧ s ≤ h1.2.1) ∧ wp codeT mX (d + 5) 113 59 [some (.inr (.inr (some 0))), some (.inl (h : Int)), some (.inl (t : Int)), some (.inl (k : Int)), some (.inl much), some (.inl (b : Int))] (v.toList ++ []) h1 Q) := by
      have f4 : frW I (up2 (up2 (up2 (up2 I1 78 0 1) 78 1 0) 78 2 (b : Int)) 78 3 ((b + 1 : Nat) : Int)) := frW_tr (frW_tr (frW_tr (frW_tr hf frW_78) frW_78) frW_78) frW_78
      refine x57 (d := d) (F := fbL hard t day b) hh h6 t8 k6 ((frW_lo f4 (by omega)).trans hu) ((frW_sh f4 h6).trans hs) (fb4 h4 h7 h8) (lwG_fr f4 (hg b)) (fun I2 f2 hF => ⟨⟨Nat.le_refl _, Nat.le_refl _⟩, ?_⟩)
      have fI := frW_tr f4 f2
      have hQ := hQ
      by_cases z : gvF (V b) sh < much
      · have fin := hQ I2 fI
        rw [if_pos z] at fin
        by_cases b0 : b = 0
        · subst b0
          simp only [s113_59, s113_60, s113_61, s113_62, s113_63, s113_64, s113_68, Option.toList_some, Option.toList_none, List.cons_append, List.nil_append, Nat.le_refl, true_and, and_true, true_or, or_true, false_or, or_false, true_implies, false_implies, implies_true, not_true_eq_false, not_false_eq_true, eq_self, Nat.reduceLT, Nat.reduceLeDiff, Nat.reduceEqDiff, Nat.reduceAdd, Nat.reduceSub, Int.reduceLT, Int.reduceLE, Int.reduceEq, Int.reduceNeg, Int.reduceNe, Int.reduceAdd, Int.reduceSub, Int.reduceMul, Int.reduceToNat, Int.toNat_zero, Int.toNat_one, Int.toNat_natCast, am_cats, am_cat, am_st1, am_st2, am_clr, up2_na, up2_nj, up2_same, List.getElem?_cons_zero, List.getElem?_cons_succ, List.set_cons_zero, List.set_cons_succ, ne_eq, z, Int.natCast_zero]
          exact fin
        · rw [if_neg b0] at fin
          have u2 : ¬ (b : Int) = 0 := by omega
          have w1 : w32 ((b : Int) - 1) = (b : Int) - 1 := w32_eq (by omega) (by omega)
          simp only [s113_59, s113_60, s113_61, s113_62, s113_65, s113_66, s113_67, s113_68, Option.toList_some, Option.toList_none, List.cons_append, List.nil_append, Nat.le_refl, true_and, and_true, true_or, or_true, false_or, or_false, true_implies, false_implies, implies_true, not_true_eq_false, not_false_eq_true, eq_self, Nat.reduceLT, Nat.reduceLeDiff, Nat.reduceEqDiff, Nat.reduceAdd, Nat.reduceSub, Int.reduceLT, Int.reduceLE, Int.reduceEq, Int.reduceNeg, Int.reduceNe, Int.reduceAdd, Int.reduceSub, Int.reduceMul, Int.reduceToNat, Int.toNat_zero, Int.toNat_one, Int.toNat_natCast, am_cats, am_cat, am_st1, am_st2, am_clr, up2_na, up2_nj, up2_same, List.getElem?_cons_zero, List.getElem?_cons_succ, List.set_cons_zero, List.set_cons_succ, ne_eq, z, u2, w1]
          exact fin
      · have nx := ih (b + 1) (by omega) (fun I3 f3 => by
          have := hQ I3 f3
          rw [if_neg z] at this
          exact this) I2 fI (hF 4 (by decide) (by decide) (by decide)) (hF 7 (by decide) (by decide) (by decide)) (hF 8 (by decide) (by decide) (by decide))
        simp only [s113_59, s113_60, s113_69, s113_70, Option.toList_some, Option.toList_none, List.cons_append, List.nil_append, Nat.le_refl, true_and, and_true, true_or, or_true, false_or, or_false, true_implies, false_implies, implies_true, not_true_eq_false, not_false_eq_true, eq_self, Nat.reduceLT, Nat.reduceLeDiff, Nat.reduceEqDiff, Nat.reduceAdd, Nat.reduceSub, Int.reduceLT, Int.reduceLE, Int.reduceEq, Int.reduceNeg, Int.reduceNe, Int.reduceAdd, Int.reduceSub, Int.reduceMul, Int.reduceToNat, Int.toNat_zero, Int.toNat_one, Int.toNat_natCast, am_cats, am_cat, am_st1, am_st2, am_clr, up2_na, up2_nj, up2_same, List.getElem?_cons_zero, List.getElem?_cons_succ, List.set_cons_zero, List.set_cons_succ, ne_eq, z, w32_s b2]
        exact nx
    refine s113_42.mpr ?_
    simp only [s113_43, s113_44, s113_45, s113_46, s113_47, s113_48, s113_49, s113_50, s113_51, s113_52, s113_53, s113_54, s113_55, s113_56, s113_57, s113_58, e56, s56_0, s56_1, s56_2, s56_3, s56_4, s56_5, s56_6, s56_7, s56_8, s56_9, s56_10, s56_11, s56_12, s56_13, s56_14, s56_15, s56_16, s56_17, s56_18, s56_19, s56_20, Option.toList_some, Option.toList_none, List.cons_append, List.nil_append, Nat.le_refl, true_and, and_true, true_or, or_true, false_or, or_false, true_implies, false_implies, implies_true, not_true_eq_false, not_false_eq_true, eq_self, Nat.reduceLT, Nat.reduceLeDiff, Nat.reduceEqDiff, Nat.reduceAdd, Nat.reduceSub, Int.reduceLT, Int.reduceLE, Int.reduceEq, Int.reduceNeg, Int.reduceNe, Int.reduceAdd, Int.reduceSub, Int.reduceMul, Int.reduceToNat, Int.toNat_zero, Int.toNat_one, Int.toNat_natCast, am_cats, am_cat, am_st1, am_st2, am_clr, up2_na, up2_nj, up2_same, List.getElem?_cons_zero, List.getElem?_cons_succ, List.set_cons_zero, List.set_cons_succ, ne_eq, i9, tk_0 hh, tk_77 hh, tk_78 hh, rk_0_9 hh, rk_77_0 hh, u1, w32_s b2]
    exact go
set_option maxHeartbeats 1000000 in
theorem la_m (hh : hp T R) (h6 : h < 6) (t8 : t < 8) (k6 : k < 6) {hard day u sh much : Int} {V : Nat → Int} (hu : I 154 (6 * t + k) = u) (hs : I 153 (6 * h + k) = sh) (hg : ∀ b, lwG I R k (ftK (fbL hard t day b) u sh) (V b)) : ∀ (r b : Nat), b + r = 101 → (∀ I2, frW I I2 → Q (some (.inl (laF (fun b => gvF (V b) sh) much r b))) (185, s, T, I2, J, R)) → ∀ I1 : Nat → Nat → Int, frW I I1 → I1 174 0 = 1 → I1 174 1 = 0 → I1 174 4 = hard → I1 174 7 = t → I1 174 8 = day → wp codeT mX (d + 4) 200 59 [some (.inr (.inr (some 152))), some (.inl (h : Int)), some (.inl (t : Int)), some (.inl (k : Int)), some (.inl much), some (.inl (b : Int))] [] (185, s, T, I1, J, R) Q := by
  intro r
  induction r with
  | zero =>
    intro b hb hQ I1 hf h0 h1 h4 h7 h8
    have u1 : (100 : Int) < (b : Int) := by omega
    have fin := hQ I1 hf
    refine s200_59.mpr ?_
    simp only [s200_60, s200_61, s200_91, s200_92, Option.toList_some, Option.toList_none, List.cons_append, List.nil_append, Nat.le_refl, true_and, and_true, true_or, or_true, false_or, or_false, true_implies, false_implies, implies_true, not_true_eq_false, not_false_eq_true, eq_self, Nat.reduceLT, Nat.reduceLeDiff, Nat.reduceEqDiff, Nat.reduceAdd, Nat.reduceSub, Int.reduceLT, Int.reduceLE, Int.reduceEq, Int.reduceNeg, Int.reduceNe, Int.reduceAdd, Int.reduceSub, Int.reduceMul, Int.reduceToNat, Int.toNat_zero, Int.toNat_one, Int.toNat_natCast, am_cats, am_cat, am_st1, am_st2, am_clr, up2_na, up2_nj, up2_same, List.getElem?_cons_zero, List.getElem?_cons_succ, List.set_cons_zero, List.set_cons_succ, ne_eq, u1]
    exact fin
  | succ r ih =>
    intro b hb hQ I1 hf h0 h1 h4 h7 h8
    have u1 : ¬ (100 : Int) < (b : Int) := by omega
    have b2 : b ≤ 1080 := by omega
    rw [laF] at hQ
    have go : wpc codeT mX (d + 3) 166 [.inr (.inr (some 152)), .inl (h : Int), .inl (t : Int), .inl (k : Int)] (185, s, T, up2 (up2 I1 174 2 (b : Int)) 174 3 ((b + 1 : Nat) : Int), J, R) (fun v h1 => (185 ≤ h1.1 ∧ s ≤ h1.2.1) ∧ wp codeT mX (d + 4) 200 79 [some (.inr (.inr (some 152))), some (.inl (h : Int)), some (.inl (t : Int)), some (.inl (k : Int)), some (.inl much), some (.inl (b : Int))] (v.toList ++ []) h1 Q) := by
      have f4 : frW I (up2 (up2 I1 174 2 (b : Int)) 174 3 ((b + 1 : Nat) : Int)) := frW_tr (frW_tr hf frW_174) frW_174
      refine x166 (d := d) (F := fbL hard t day b) hh h6 t8 k6 ((frW_hi f4 (by decide) (by decide) (by decide)).trans hu) ((frW_hi f4 (by decide) (by decide) (by decide)).trans hs) (fb2 h0 h1 h4 h7 h8) (lwG_fr f4 (hg b)) (fun I2 f2 hF => ⟨⟨Nat.le_refl _, Nat.le_refl _⟩, ?_⟩)
      have fI := frW_tr f4 f2
      have hQ := hQ
      by_cases z : gvF (V b) sh < much
      · have fin := hQ I2 fI
        rw [if_pos z] at fin
        by_cases b0 : b = 0
        · subst b0
          simp only [s200_79, s200_80, s200_81, s200_82, s200_83, s200_84, s200_88, Option.toList_some, Option.toList_none, List.cons_append, List.nil_append, Nat.le_refl, true_and, and_true, true_or, or_true, false_or, or_false, true_implies, false_implies, implies_true, not_true_eq_false, not_false_eq_true, eq_self, Nat.reduceLT, Nat.reduceLeDiff, Nat.reduceEqDiff, Nat.reduceAdd, Nat.reduceSub, Int.reduceLT, Int.reduceLE, Int.reduceEq, Int.reduceNeg, Int.reduceNe, Int.reduceAdd, Int.reduceSub, Int.reduceMul, Int.reduceToNat, Int.toNat_zero, Int.toNat_one, Int.toNat_natCast, am_cats, am_cat, am_st1, am_st2, am_clr, up2_na, up2_nj, up2_same, List.getElem?_cons_zero, List.getElem?_cons_succ, List.set_cons_zero, List.set_cons_succ, ne_eq, z, Int.natCast_zero]
          exact fin
        · rw [if_neg b0] at fin
          have u2 : ¬ (b : Int) = 0 := by omega
          have w1 : w32 ((b : Int) - 1) = (b : Int) - 1 := w32_eq (by omega) (by omega)
          simp only [s200_79, s200_80, s200_81, s200_82, s200_85, s200_86, s200_87, s200_88, Option.toList_some, Option.toList_none, List.cons_append, List.nil_append, Nat.le_refl, true_and, and_true, true_or, or_true, false_or, or_false, true_implies, false_implies, implies_true, not_true_eq_false, not_false_eq_true, eq_self, Nat.reduceLT, Nat.reduceLeDiff, Nat.reduceEqDiff, Nat.reduceAdd, Nat.reduceSub, Int.reduceLT, Int.reduceLE, Int.reduceEq, Int.reduceNeg, Int.reduceNe, Int.reduceAdd, Int.reduceSub, Int.reduceMul, Int.reduceToNat, Int.toNat_zero, Int.toNat_one, Int.toNat_natCast, am_cats, am_cat, am_st1, am_st2, am_clr, up2_na, up2_nj, up2_same, List.getElem?_cons_zero, List.getElem?_cons_succ, List.set_cons_zero, List.set_cons_succ, ne_eq, z, u2, w1]
          exact fin
      · have nx := ih (b + 1) (by omega) (fun I3 f3 => by
          have := hQ I3 f3
          rw [if_neg z] at this
          exact this) I2 fI (hF 0 (by decide) (by decide) (by decide)) (hF 1 (by decide) (by decide) (by decide)) (hF 4 (by decide) (by decide) (by decide)) (hF 7 (by decide) (by decide) (by decide)) (hF 8 (by decide) (by decide) (by decide))
        simp only [s200_79, s200_80, s200_89, s200_90, Option.toList_some, Option.toList_none, List.cons_append, List.nil_append, Nat.le_refl, true_and, and_true, true_or, or_true, false_or, or_false, true_implies, false_implies, implies_true, not_true_eq_false, not_false_eq_true, eq_self, Nat.reduceLT, Nat.reduceLeDiff, Nat.reduceEqDiff, Nat.reduceAdd, Nat.reduceSub, Int.reduceLT, Int.reduceLE, Int.reduceEq, Int.reduceNeg, Int.reduceNe, Int.reduceAdd, Int.reduceSub, Int.reduceMul, Int.reduceToNat, Int.toNat_zero, Int.toNat_one, Int.toNat_natCast, am_cats, am_cat, am_st1, am_st2, am_clr, up2_na, up2_nj, up2_same, List.getElem?_cons_zero, List.getElem?_cons_succ, List.set_cons_zero, List.set_cons_succ, ne_eq, z, w32_s b2]
        exact nx
    refine s200_59.mpr ?_
    simp only [s200_60, s200_61, s200_62, s200_63, s200_64, s200_65, s200_66, s200_67, s200_68, s200_69, s200_70, s200_71, s200_72, s200_73, s200_74, s200_75, s200_76, s200_77, s200_78, Option.toList_some, Option.toList_none, List.cons_append, List.nil_append, Nat.le_refl, true_and, and_true, true_or, or_true, false_or, or_false, true_implies, false_implies, implies_true, not_true_eq_false, not_false_eq_true, eq_self, Nat.reduceLT, Nat.reduceLeDiff, Nat.reduceEqDiff, Nat.reduceAdd, Nat.reduceSub, Int.reduceLT, Int.reduceLE, Int.reduceEq, Int.reduceNeg, Int.reduceNe, Int.reduceAdd, Int.reduceSub, Int.reduceMul, Int.reduceToNat, Int.toNat_zero, Int.toNat_one, Int.toNat_natCast, am_cats, am_cat, am_st1, am_st2, am_clr, up2_na, up2_nj, up2_same, List.getElem?_cons_zero, List.getElem?_cons_succ, List.set_cons_zero, List.set_cons_succ, ne_eq, i9, tk_152 hh, tk_174 hh, rk_152_37 hh, u1, w32_s b2]
    exact go
end
section
variable {L s d : Nat} {X : Nat → Int}
set_option maxHeartbeats 1000000 in
theorem px_lasts (hL : L ≤ 3072) (hX : ∀ j, rg32 (X j)) (hd : 40 ≤ d) : prx L X s LAL LKP d 113 200 4 false true := by
  refine px_ans (cx := cn120) (cm := cn167) (nx := 1) (nm := 1) hL hX (cn_all 120 (by decide) cn120 rfl) (cn_all 167 (by decide) cn167 rfl) rfl hd (by decide +kernel) (fun g h => h.1) (fun as s T I J R hl hr hH hP => ?_)
  obtain ⟨a, b, z, y, rfl⟩ := len4 hl
  obtain ⟨e, rfl⟩ : ∃ e, d = e + 5 := ⟨d - 5, by omega⟩
  have hh := hp_of (eH5_of hH)
  have b1 : 0 ≤ I 0 1 ∧ I 0 1 ≤ 6 := ebd hH (by decide) (by decide) (by decide)
  have b2 : 0 ≤ I 0 2 ∧ I 0 2 ≤ 6 := ebd hH (by decide) (by decide) (by decide)
  have b3 : 0 ≤ I 3 3 ∧ I 3 3 ≤ 8 := ebd hH (by decide) (by decide) (by decide)
  have hK : LK I := hP.1
  obtain ⟨l0, l1, l2, -, -, l5, l6, -, -, -, l10, l11, -⟩ := hK
  have l0 : I 0 0 = I 152 0 := l0
  have l1 : I 0 1 = I 152 1 := l1
  have l2 : I 0 2 = I 152 2 := l2
  have l5 : I 3 3 = I 152 3 := l5
  show ∃ a' : Int, wpc codeT mX (e + 5) 113 [.inr (.inr (some 0)), .inl a, .inl b, .inl z, .inl y] (185, s, T, I, J, R) (fun v g1 => v = some (ansV false a') ∧ (eH g1 → eM cn120.2.2.2.1 (185, s, T, I, J, R) g1 → wpc codeT mX (e + 5) 200 [.inr (.inr (some 152)), .inl a, .inl b, .inl z, .inl y] g1 (fun v2 _ => v2 = some (ansV false a'))))
  by_cases g1 : 0 ≤ a ∧ a < I 0 2
  · have g1' : 0 ≤ a ∧ a < I 152 2 := by omega
    by_cases g2 : 0 ≤ b ∧ b < I 3 3
    · have g2' : 0 ≤ b ∧ b < I 152 3 := by omega
      by_cases g3 : 0 ≤ z ∧ z < I 0 1
      · have g3' : 0 ≤ z ∧ z < I 152 1 := by omega
        obtain ⟨h, rfl⟩ : ∃ k : Nat, a = (k : Int) := ⟨a.toNat, by omega⟩
        obtain ⟨t, rfl⟩ : ∃ k : Nat, b = (k : Int) := ⟨b.toNat, by omega⟩
        obtain ⟨k, rfl⟩ : ∃ k : Nat, z = (k : Int) := ⟨z.toNat, by omega⟩
        have h6 : h < 6 := by omega
        have t8 : t < 8 := by omega
        have k6 : k < 6 := by omega
        obtain ⟨ta, tb, -, -, tc, td, -, -, -, tk⟩ := l11.1 t t8 g2.2
        have eu : I (5 + t) k = I 154 (6 * t + k) := (tk k k6).1
        have es : I (88 + h) k = I 153 (6 * h + k) := l10 h k h6 k6
        have u1 : 0 ≤ (h : Int) ∧ (h : Int) < ((6 : Nat) : Int) := by omega
        have u2 : 0 ≤ (t : Int) ∧ (t : Int) < ((8 : Nat) : Int) := by omega
        have u3 : 0 ≤ (k : Int) ∧ (k : Int) < ((6 : Nat) : Int) := by omega
        have u4 : 5 + t < 185 := by omega
        have z1 : (6 : Int) * (t : Int) = ((6 * t : Nat) : Int) := by omega
        have z2 : ((6 * t : Nat) : Int) + (k : Int) = ((6 * t + k : Nat) : Int) := by omega
        have u5 : 0 ≤ ((6 * t + k : Nat) : Int) ∧ ((6 * t + k : Nat) : Int) < ((48 : Nat) : Int) := by omega
        have w1 := w32_c z1 (by omega)
        have w2 := w32_c z2 (by clear w1; omega)
        by_cases g5 : 1 ≤ y ∧ y ≤ 100
        · by_cases g4 : I (5 + t) k = 0
          · have g4' : I 154 (6 * t + k) = 0 := eu.symm.trans g4
            refine ⟨-1, ?_⟩
            simp only [s113_0, s113_1, s113_2, s113_3, s113_4, s113_5, s113_6, s113_7, s113_8, s113_9, s113_10, s113_11, s113_12, s113_13, s113_14, s113_15, s113_16, s113_17, s113_18, s113_19, s113_20, s113_21, s113_22, s113_23, s113_24, s113_25, s113_26, s113_27, s113_28, e113, Option.toList_some, Option.toList_none, List.cons_append, List.nil_append, Nat.le_refl, true_and, and_true, true_or, or_true, false_or, or_false, true_implies, false_implies, implies_true, not_true_eq_false, not_false_eq_true, eq_self, Nat.reduceLT, Nat.reduceLeDiff, Nat.reduceEqDiff, Nat.reduceAdd, Nat.reduceSub, Int.reduceLT, Int.reduceLE, Int.reduceEq, Int.reduceNeg, Int.reduceNe, Int.reduceAdd, Int.reduceSub, Int.reduceMul, Int.reduceToNat, Int.toNat_zero, Int.toNat_one, Int.toNat_natCast, am_cats, am_cat, am_st1, am_st2, am_clr, up2_na, up2_nj, up2_same, List.getElem?_cons_zero, List.getElem?_cons_succ, List.set_cons_zero, List.set_cons_succ, ne_eq, tk_0 hh, tk_3 hh, tk_4 hh, tg_5 hh t8, rk_0_6 hh, rk_3_0 hh, gk_4 hh t8, k16 hh, k17 hh, k18, k51 hh, i10, g1, g2, g3, g4, g5, u1, u2, u3, u4]
            refine ⟨rfl, fun _ _ => ?_⟩
            simp only [s200_0, s200_1, s200_2, s200_3, s200_4, s200_5, s200_6, s200_7, s200_8, s200_9, s200_10, s200_11, s200_12, s200_13, s200_14, s200_15, s200_16, s200_17, s200_18, s200_19, s200_20, s200_21, s200_22, s200_23, s200_24, s200_25, s200_26, s200_27, e200, Option.toList_some, Option.toList_none, List.cons_append, List.nil_append, Nat.le_refl, true_and, and_true, true_or, or_true, false_or, or_false, true_implies, false_implies, implies_true, not_true_eq_false, not_false_eq_true, eq_self, Nat.reduceLT, Nat.reduceLeDiff, Nat.reduceEqDiff, Nat.reduceAdd, Nat.reduceSub, Int.reduceLT, Int.reduceLE, Int.reduceEq, Int.reduceNeg, Int.reduceNe, Int.reduceAdd, Int.reduceSub, Int.reduceMul, Int.reduceToNat, Int.toNat_zero, Int.toNat_one, Int.toNat_natCast, am_cats, am_cat, am_st1, am_st2, am_clr, up2_na, up2_nj, up2_same, List.getElem?_cons_zero, List.getElem?_cons_succ, List.set_cons_zero, List.set_cons_succ, ne_eq, tk_152 hh, tk_154 hh, rk_152_8 hh, k134 hh, k164 hh, k135 hh, k136, i10, g1', g2', g3', g4', u5, w1, w2]
            rfl
          · have g4' : ¬ I 154 (6 * t + k) = 0 := fun q => g4 (eu.trans q)
            have ex : ∀ b : Nat, ∃ v, lwG I R k (ftK (fbL (I 14 t) t (I 0 0) b) (I (5 + t) k) (I (88 + h) k)) v := fun b => by
              obtain ⟨v, hv, -⟩ := lwG_ex hP.2.2 k6 (ftK (fbL (I 14 t) t (I 0 0) b) (I (5 + t) k) (I (88 + h) k))
              exact ⟨v, hv⟩
            obtain ⟨V, hV⟩ : ∃ V : Nat → Int, ∀ b, lwG I R k (ftK (fbL (I 14 t) t (I 0 0) b) (I (5 + t) k) (I (88 + h) k)) (V b) := ⟨fun b => (ex b).choose, fun b => (ex b).choose_spec⟩
            refine ⟨laF (fun b => gvF (V b) (I (88 + h) k)) y 101 0, ?_⟩
            have f3 : frW I (up2 (up2 (up2 I 78 4 (I 14 t)) 78 7 (t : Int)) 78 8 (I 0 0)) := frW_tr (frW_tr frW_78 frW_78) frW_78
            have go := la_x (d := e) (s := s) (J := J) (much := y) (Q := fun v g1 => v = some (ansV false (laF (fun b => gvF (V b) (I (88 + h) k)) y 101 0)) ∧ (eH g1 → eM cn120.2.2.2.1 (185, s, T, I, J, R) g1 → wpc codeT mX (e + 5) 200 [.inr (.inr (some 152)), .inl (h : Int), .inl (t : Int), .inl (k : Int), .inl y] g1 (fun v2 _ => v2 = some (ansV false (laF (fun b => gvF (V b) (I (88 + h) k)) y 101 0))))) hh h6 t8 k6 rfl rfl hV 101 0 rfl (fun I2 f2 => ⟨rfl, fun _ _ => by
              have f0 : I2 152 0 = I 0 0 := (frW_hi f2 (by decide) (by decide) (by decide)).trans l0.symm
              have f1 : I2 152 1 = I 152 1 := frW_hi f2 (by decide) (by decide) (by decide)
              have f2' : I2 152 2 = I 152 2 := frW_hi f2 (by decide) (by decide) (by decide)
              have f3 : I2 152 3 = I 152 3 := frW_hi f2 (by decide) (by decide) (by decide)
              have f5 : I2 154 (6 * t + k) = I (5 + t) k := (frW_hi f2 (by decide) (by decide) (by decide)).trans eu.symm
              have f6 : I2 153 (6 * h + k) = I (88 + h) k := (frW_hi f2 (by decide) (by decide) (by decide)).trans es.symm
              have f7 : I2 156 t = I 14 t := (frW_hi f2 (by decide) (by decide) (by decide)).trans tb.symm
              have go := la_m (d := e + 1) (s := s) (J := J) (I := I2) (much := y) (Q := fun v2 _ => v2 = some (ansV false (laF (fun b => gvF (V b) (I (88 + h) k)) y 101 0))) hh h6 t8 k6 f5 f6 (fun b => lwG_fr f2 (hV b)) 101 0 rfl (fun I3 f3 => rfl) (up2 (up2 (up2 (up2 (up2 I2 174 0 1) 174 1 0) 174 4 (I 14 t)) 174 7 (t : Int)) 174 8 (I 0 0)) (frW_tr (frW_tr (frW_tr (frW_tr frW_174 frW_174) frW_174) frW_174) frW_174) (by rw [up2_nj (by decide), up2_nj (by decide), up2_nj (by decide), up2_nj (by decide), up2_v]) (by rw [up2_nj (by decide), up2_nj (by decide), up2_nj (by decide), up2_v]) (by rw [up2_nj (by decide), up2_nj (by decide), up2_v]) (by rw [up2_nj (by decide), up2_v]) up2_v
              simp only [s200_0, s200_1, s200_2, s200_3, s200_4, s200_5, s200_6, s200_7, s200_8, s200_9, s200_10, s200_11, s200_12, s200_13, s200_14, s200_15, s200_16, s200_17, s200_18, s200_19, s200_20, s200_21, s200_22, s200_23, s200_24, s200_25, s200_26, s200_27, s200_28, s200_29, s200_30, s200_31, s200_32, s200_33, s200_34, s200_35, s200_36, s200_37, s200_38, s200_39, s200_40, s200_41, s200_42, s200_43, s200_44, s200_45, s200_46, s200_47, s200_48, s200_49, s200_50, s200_51, s200_52, s200_53, s200_54, s200_55, s200_56, s200_57, s200_58, e200, Option.toList_some, Option.toList_none, List.cons_append, List.nil_append, Nat.le_refl, true_and, and_true, true_or, or_true, false_or, or_false, true_implies, false_implies, implies_true, not_true_eq_false, not_false_eq_true, eq_self, Nat.reduceLT, Nat.reduceLeDiff, Nat.reduceEqDiff, Nat.reduceAdd, Nat.reduceSub, Int.reduceLT, Int.reduceLE, Int.reduceEq, Int.reduceNeg, Int.reduceNe, Int.reduceAdd, Int.reduceSub, Int.reduceMul, Int.reduceToNat, Int.toNat_zero, Int.toNat_one, Int.toNat_natCast, am_cats, am_cat, am_st1, am_st2, am_clr, up2_na, up2_nj, up2_same, List.getElem?_cons_zero, List.getElem?_cons_succ, List.set_cons_zero, List.set_cons_succ, ne_eq, i9, tk_152 hh, tk_154 hh, tk_156 hh, tk_174 hh, rk_152_8 hh, rk_152_10 hh, rk_152_37 hh, k134 hh, k164 hh, k135 hh, k136, i10, f0, f1, f2', f3, f5, f7, g1', g2', g3', g4, g5, u2, u5, w1, w2]
              exact go⟩) _ f3 (by rw [up2_nj (by decide), up2_nj (by decide), up2_v]) (by rw [up2_nj (by decide), up2_v]) up2_v
            simp only [s113_0, s113_1, s113_2, s113_3, s113_4, s113_5, s113_6, s113_7, s113_8, s113_9, s113_10, s113_11, s113_12, s113_13, s113_14, s113_15, s113_16, s113_17, s113_18, s113_19, s113_20, s113_21, s113_22, s113_23, s113_24, s113_25, s113_26, s113_27, s113_28, s113_29, s113_30, s113_31, s113_32, s113_33, s113_34, s113_35, s113_36, s113_37, s113_38, s113_39, s113_40, s113_41, e53, s53_0, s53_1, s53_2, s53_3, s53_4, s53_5, s53_6, s53_7, s53_8, s53_9, s53_10, s53_11, s53_12, s53_13, s53_14, s53_15, e113, Option.toList_some, Option.toList_none, List.cons_append, List.nil_append, Nat.le_refl, true_and, and_true, true_or, or_true, false_or, or_false, true_implies, false_implies, implies_true, not_true_eq_false, not_false_eq_true, eq_self, Nat.reduceLT, Nat.reduceLeDiff, Nat.reduceEqDiff, Nat.reduceAdd, Nat.reduceSub, Int.reduceLT, Int.reduceLE, Int.reduceEq, Int.reduceNeg, Int.reduceNe, Int.reduceAdd, Int.reduceSub, Int.reduceMul, Int.reduceToNat, Int.toNat_zero, Int.toNat_one, Int.toNat_natCast, am_cats, am_cat, am_st1, am_st2, am_clr, up2_na, up2_nj, up2_same, List.getElem?_cons_zero, List.getElem?_cons_succ, List.set_cons_zero, List.set_cons_succ, ne_eq, i9, tk_0 hh, tk_3 hh, tk_4 hh, tk_14 hh, tk_77 hh, tk_78 hh, tg_5 hh t8, rk_0_6 hh, rk_0_9 hh, rk_3_0 hh, rk_3_2 hh, rk_77_0 hh, gk_4 hh t8, k16 hh, k17 hh, k18, k51 hh, i10, g1, g2, g3, g4, g5, u1, u2, u3, u4]
            exact go
        · refine ⟨-1, ?_⟩
          simp only [s113_0, s113_1, s113_2, s113_3, s113_4, s113_5, s113_6, s113_7, s113_8, s113_9, s113_10, s113_11, s113_12, s113_13, s113_14, s113_15, s113_16, s113_17, s113_18, e113, Option.toList_some, Option.toList_none, List.cons_append, List.nil_append, Nat.le_refl, true_and, and_true, true_or, or_true, false_or, or_false, true_implies, false_implies, implies_true, not_true_eq_false, not_false_eq_true, eq_self, Nat.reduceLT, Nat.reduceLeDiff, Nat.reduceEqDiff, Nat.reduceAdd, Nat.reduceSub, Int.reduceLT, Int.reduceLE, Int.reduceEq, Int.reduceNeg, Int.reduceNe, Int.reduceAdd, Int.reduceSub, Int.reduceMul, Int.reduceToNat, Int.toNat_zero, Int.toNat_one, Int.toNat_natCast, am_cats, am_cat, am_st1, am_st2, am_clr, up2_na, up2_nj, up2_same, List.getElem?_cons_zero, List.getElem?_cons_succ, List.set_cons_zero, List.set_cons_succ, ne_eq, tk_0 hh, k16 hh, k17 hh, k18, k51 hh, i10, g1, g2, g3, g5]
          refine ⟨rfl, fun _ _ => ?_⟩
          simp only [s200_0, s200_1, s200_2, s200_3, s200_4, s200_5, s200_6, s200_7, s200_8, s200_9, s200_10, s200_11, s200_12, s200_13, s200_14, s200_15, s200_16, s200_17, s200_18, s200_19, s200_20, s200_21, s200_22, s200_23, s200_24, s200_25, s200_26, s200_27, e200, Option.toList_some, Option.toList_none, List.cons_append, List.nil_append, Nat.le_refl, true_and, and_true, true_or, or_true, false_or, or_false, true_implies, false_implies, implies_true, not_true_eq_false, not_false_eq_true, eq_self, Nat.reduceLT, Nat.reduceLeDiff, Nat.reduceEqDiff, Nat.reduceAdd, Nat.reduceSub, Int.reduceLT, Int.reduceLE, Int.reduceEq, Int.reduceNeg, Int.reduceNe, Int.reduceAdd, Int.reduceSub, Int.reduceMul, Int.reduceToNat, Int.toNat_zero, Int.toNat_one, Int.toNat_natCast, am_cats, am_cat, am_st1, am_st2, am_clr, up2_na, up2_nj, up2_same, List.getElem?_cons_zero, List.getElem?_cons_succ, List.set_cons_zero, List.set_cons_succ, ne_eq, tk_152 hh, tk_154 hh, rk_152_8 hh, k134 hh, k164 hh, k135 hh, k136, i10, g1', g2', g3', g5, u5, w1, w2]
          exact ⟨fun _ => rfl, fun _ => rfl⟩
      · have g3' : ¬ (0 ≤ z ∧ z < I 152 1) := by omega
        refine ⟨-1, ?_⟩
        simp only [s113_0, s113_1, s113_2, s113_3, s113_4, s113_5, s113_6, s113_7, s113_8, s113_9, s113_10, s113_11, s113_12, s113_13, s113_14, s113_15, s113_16, s113_17, s113_18, e113, Option.toList_some, Option.toList_none, List.cons_append, List.nil_append, Nat.le_refl, true_and, and_true, true_or, or_true, false_or, or_false, true_implies, false_implies, implies_true, not_true_eq_false, not_false_eq_true, eq_self, Nat.reduceLT, Nat.reduceLeDiff, Nat.reduceEqDiff, Nat.reduceAdd, Nat.reduceSub, Int.reduceLT, Int.reduceLE, Int.reduceEq, Int.reduceNeg, Int.reduceNe, Int.reduceAdd, Int.reduceSub, Int.reduceMul, Int.reduceToNat, Int.toNat_zero, Int.toNat_one, Int.toNat_natCast, am_cats, am_cat, am_st1, am_st2, am_clr, up2_na, up2_nj, up2_same, List.getElem?_cons_zero, List.getElem?_cons_succ, List.set_cons_zero, List.set_cons_succ, ne_eq, tk_0 hh, k16 hh, k17 hh, k51 hh, i10, g1, g2, g3]
        refine ⟨rfl, fun _ _ => ?_⟩
        simp only [s200_0, s200_1, s200_2, s200_3, s200_4, s200_5, s200_6, s200_7, s200_8, s200_9, s200_10, s200_11, s200_26, s200_27, e200, Option.toList_some, Option.toList_none, List.cons_append, List.nil_append, Nat.le_refl, true_and, and_true, true_or, or_true, false_or, or_false, true_implies, false_implies, implies_true, not_true_eq_false, not_false_eq_true, eq_self, Nat.reduceLT, Nat.reduceLeDiff, Nat.reduceEqDiff, Nat.reduceAdd, Nat.reduceSub, Int.reduceLT, Int.reduceLE, Int.reduceEq, Int.reduceNeg, Int.reduceNe, Int.reduceAdd, Int.reduceSub, Int.reduceMul, Int.reduceToNat, Int.toNat_zero, Int.toNat_one, Int.toNat_natCast, am_cats, am_cat, am_st1, am_st2, am_clr, up2_na, up2_nj, up2_same, List.getElem?_cons_zero, List.getElem?_cons_succ, List.set_cons_zero, List.set_cons_succ, ne_eq, tk_152 hh, k134 hh, k164 hh, k135 hh, i10, g1', g2', g3']
        rfl
    · have g2' : ¬ (0 ≤ b ∧ b < I 152 3) := by omega
      refine ⟨-1, ?_⟩
      simp only [s113_0, s113_1, s113_2, s113_3, s113_4, s113_5, s113_6, s113_7, s113_8, s113_9, s113_10, s113_11, s113_12, s113_13, s113_14, s113_15, s113_16, s113_17, s113_18, e113, Option.toList_some, Option.toList_none, List.cons_append, List.nil_append, Nat.le_refl, true_and, and_true, true_or, or_true, false_or, or_false, true_implies, false_implies, implies_true, not_true_eq_false, not_false_eq_true, eq_self, Nat.reduceLT, Nat.reduceLeDiff, Nat.reduceEqDiff, Nat.reduceAdd, Nat.reduceSub, Int.reduceLT, Int.reduceLE, Int.reduceEq, Int.reduceNeg, Int.reduceNe, Int.reduceAdd, Int.reduceSub, Int.reduceMul, Int.reduceToNat, Int.toNat_zero, Int.toNat_one, Int.toNat_natCast, am_cats, am_cat, am_st1, am_st2, am_clr, up2_na, up2_nj, up2_same, List.getElem?_cons_zero, List.getElem?_cons_succ, List.set_cons_zero, List.set_cons_succ, ne_eq, tk_0 hh, k16 hh, k51 hh, i10, g1, g2]
      refine ⟨rfl, fun _ _ => ?_⟩
      simp only [s200_0, s200_1, s200_2, s200_3, s200_4, s200_5, s200_6, s200_7, s200_8, s200_9, s200_10, s200_11, s200_26, s200_27, e200, Option.toList_some, Option.toList_none, List.cons_append, List.nil_append, Nat.le_refl, true_and, and_true, true_or, or_true, false_or, or_false, true_implies, false_implies, implies_true, not_true_eq_false, not_false_eq_true, eq_self, Nat.reduceLT, Nat.reduceLeDiff, Nat.reduceEqDiff, Nat.reduceAdd, Nat.reduceSub, Int.reduceLT, Int.reduceLE, Int.reduceEq, Int.reduceNeg, Int.reduceNe, Int.reduceAdd, Int.reduceSub, Int.reduceMul, Int.reduceToNat, Int.toNat_zero, Int.toNat_one, Int.toNat_natCast, am_cats, am_cat, am_st1, am_st2, am_clr, up2_na, up2_nj, up2_same, List.getElem?_cons_zero, List.getElem?_cons_succ, List.set_cons_zero, List.set_cons_succ, ne_eq, tk_152 hh, k134 hh, k164 hh, i10, g1', g2']
      rfl
  · have g1' : ¬ (0 ≤ a ∧ a < I 152 2) := by omega
    refine ⟨-1, ?_⟩
    simp only [s113_0, s113_1, s113_2, s113_3, s113_4, s113_5, s113_6, s113_7, s113_8, s113_9, s113_10, s113_11, s113_12, s113_13, s113_14, s113_15, s113_16, s113_17, s113_18, e113, Option.toList_some, Option.toList_none, List.cons_append, List.nil_append, Nat.le_refl, true_and, and_true, true_or, or_true, false_or, or_false, true_implies, false_implies, implies_true, not_true_eq_false, not_false_eq_true, eq_self, Nat.reduceLT, Nat.reduceLeDiff, Nat.reduceEqDiff, Nat.reduceAdd, Nat.reduceSub, Int.reduceLT, Int.reduceLE, Int.reduceEq, Int.reduceNeg, Int.reduceNe, Int.reduceAdd, Int.reduceSub, Int.reduceMul, Int.reduceToNat, Int.toNat_zero, Int.toNat_one, Int.toNat_natCast, am_cats, am_cat, am_st1, am_st2, am_clr, up2_na, up2_nj, up2_same, List.getElem?_cons_zero, List.getElem?_cons_succ, List.set_cons_zero, List.set_cons_succ, ne_eq, tk_0 hh, k16 hh, i10, g1]
    refine ⟨rfl, fun _ _ => ?_⟩
    simp only [s200_0, s200_1, s200_2, s200_3, s200_4, s200_5, s200_6, s200_7, s200_8, s200_9, s200_10, s200_11, s200_26, s200_27, e200, Option.toList_some, Option.toList_none, List.cons_append, List.nil_append, Nat.le_refl, true_and, and_true, true_or, or_true, false_or, or_false, true_implies, false_implies, implies_true, not_true_eq_false, not_false_eq_true, eq_self, Nat.reduceLT, Nat.reduceLeDiff, Nat.reduceEqDiff, Nat.reduceAdd, Nat.reduceSub, Int.reduceLT, Int.reduceLE, Int.reduceEq, Int.reduceNeg, Int.reduceNe, Int.reduceAdd, Int.reduceSub, Int.reduceMul, Int.reduceToNat, Int.toNat_zero, Int.toNat_one, Int.toNat_natCast, am_cats, am_cat, am_st1, am_st2, am_clr, up2_na, up2_nj, up2_same, List.getElem?_cons_zero, List.getElem?_cons_succ, List.set_cons_zero, List.set_cons_succ, ne_eq, tk_152 hh, k134 hh, i10, g1']
    rfl
end
