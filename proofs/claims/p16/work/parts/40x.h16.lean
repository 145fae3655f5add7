/-! by hand, 16: the law's reader: readsCondition -/
section
variable {d s : Nat} {T : Nat → Nat × Nat} {I J : Nat → Nat → Int} {R : Nat → Nat → Option Nat} {Q : Option AV → AH → Prop} {L : Nat} {fa sm : Int} {F H G X0 : Nat → Int} {f pb : Nat}
set_option maxHeartbeats 2000000 in
theorem rc_loop (hm : mdl T R) (hL : I 152 19 = (L : Int)) (hL2 : L ≤ 160) (hfa : rg fa) (hsm : 0 ≤ sm ∧ sm ≤ 12) (hF : YB F) (hH : YB H) (hG : YB G) (h1 : ∀ (n' p' : Nat) (X' W' : Nat → Int) (op' nm' : Int), CS L X0 f 0 1 X' W' n' 0 p' → pb ≤ p' → rg op' → rg nm' → Q (some (.inl 1)) (185, s, T, pI I (p' : Int) fa op' ((f + n' : Nat) : Int) 0 sm nm' X' W' F H G, J, R)) (h0 : ∀ g, bdH s T I J R (some (.inl 0)) g → Q (some (.inl 0)) g) : ∀ (r : Nat), (∀ (p n k : Nat) (X W : Nat → Int) (op nm : Int), p + r = L → pb ≤ p → CS L X0 f 0 1 X W n (k + 1) p → rg op → rg nm → wp codeT mX (d + 6) 157 47 [some (.inr (.inr (some 152)))] [] (185, s, T, pI I (p : Int) fa op ((f + n : Nat) : Int) ((k + 1 : Nat) : Int) sm nm X W F H G, J, R) Q) ∧ (∀ (p n k : Nat) (X W : Nat → Int) (op nm : Int), p + r = L → pb ≤ p → CS L X0 f 0 0 X W n (k + 1) p → rg op → rg nm → wp codeT mX (d + 6) 157 22 [some (.inr (.inr (some 152)))] [] (185, s, T, pI I (p : Int) fa op ((f + n : Nat) : Int) ((k + 1 : Nat) : Int) sm nm X W F H G, J, R) Q) := by
  have t152 : T 152 = (12, 53) := hm.1 152 (by decide)
  have t163 : T 163 = (100, 180) := hm.1 163 (by decide)
  have t164 : T 164 = (100, 180) := hm.1 164 (by decide)
  have r1 : R 152 26 = some 163 := hm.2 26 163 (by decide +kernel) (by decide)
  have r2 : R 152 27 = some 164 := hm.2 27 164 (by decide +kernel) (by decide)
  intro r
  induction r using Nat.strongRecOn with
  | _ r ih =>
    have hB : ∀ (p n k : Nat) (X W : Nat → Int) (op nm : Int), p + r = L → pb ≤ p → CS L X0 f 0 1 X W n (k + 1) p → rg op → rg nm → wp codeT mX (d + 6) 157 47 [some (.inr (.inr (some 152)))] [] (185, s, T, pI I (p : Int) fa op ((f + n : Nat) : Int) ((k + 1 : Nat) : Int) sm nm X W F H G, J, R) Q := by
      intro p n k X W op nm hr0 hpb hS hop hnm
      have hp : p ≤ L := by omega
      have kh := k_here (J := J) (s := s) hm hL hL2 hp
      have hpL : ∀ c, hr I L p = c → c ≠ -1 → p < L := fun c z1 z2 => hr_lt z1 z2
      generalize hr I L p = c at *
      have hpL : c ≠ -1 → p < L := hpL c rfl
      have ⟨a1, a2, a3, a4, a5, a6, a7, a8, a9, a10, a11, a12⟩ := hS
      have g0 : ∀ fa, rg fa → Q (some (.inl 0)) (185, s, T, pI I (p : Int) fa op ((f + n : Nat) : Int) ((k + 1 : Nat) : Int) sm nm X W F H G, J, R) := fun fa' hfa' => h0 _ (bd_i (by omega) hfa' hop (by omega) (by omega) hsm hnm a11 a12 hF hH hG)
      have pn : p ≤ 1080 := by omega
      refine s157_47.mpr ?_
      by_cases c41 : c = 41
      · subst c41
        have hpL := hpL (by decide)
        have ihB := fun n k X W op => (ih (r - 1) (by omega)).1 (p + 1) n k X W op nm (by omega) (by omega)
        simp only [s157_48, s157_49, s157_50, s157_51, s157_52, s157_53, e160, Option.toList_some, Option.toList_none, List.cons_append, List.nil_append, Nat.le_refl, true_and, and_true, true_or, or_true, false_or, or_false, true_implies, false_implies, implies_true, not_true_eq_false, not_false_eq_true, eq_self, Nat.reduceLT, Nat.reduceLeDiff, Nat.reduceEqDiff, Nat.reduceAdd, Nat.reduceSub, Int.reduceLT, Int.reduceLE, Int.reduceEq, Int.reduceNeg, Int.reduceNe, Int.reduceAdd, Int.reduceSub, Int.reduceMul, Int.reduceToNat, Int.toNat_zero, Int.toNat_one, Int.toNat_natCast, am_cats, am_cat, am_st1, am_st2, am_clr, up2_na, up2_nj, up2_same, List.getElem?_cons_zero, List.getElem?_cons_succ, List.set_cons_zero, List.set_cons_succ, ne_eq, t152, kh]
        refine w_lands (d := d + 4) hm hL2 (Or.inr rfl) k X none hS ?_
        intro k' X' z1 z2 z3
        have z4 := CS_mono (e2 := 0) (p2 := p + 1) (CS_pop z1 ⟨z2, z3 rfl⟩) (by omega) (by omega) (by omega)
        have kn : k' ≤ 1080 := by
          have := z1.2.2.2.1
          omega
        refine ⟨⟨Nat.le_refl _, Nat.le_refl _⟩, ?_⟩
        have w1 := w32_s pn
        have w2 := w32_d kn
        by_cases k0 : k' = 0
        · subst k0
          have := h1 n (p + 1) X' W (w32 (op - 1)) nm z4 (Nat.le_succ_of_le hpb) (w32_lo _) hnm
          simp only [s157_54, s157_55, s157_56, s157_57, s157_58, s157_59, s157_60, s157_61, s157_62, s157_63, s157_64, s157_65, s157_66, s157_67, s157_68, s157_69, s157_70, s157_71, s157_72, s157_73, s157_74, s157_75, s157_76, Option.toList_some, Option.toList_none, List.cons_append, List.nil_append, Nat.le_refl, true_and, and_true, true_or, or_true, false_or, or_false, true_implies, false_implies, implies_true, not_true_eq_false, not_false_eq_true, eq_self, Nat.reduceLT, Nat.reduceLeDiff, Nat.reduceEqDiff, Nat.reduceAdd, Nat.reduceSub, Int.reduceLT, Int.reduceLE, Int.reduceEq, Int.reduceNeg, Int.reduceNe, Int.reduceAdd, Int.reduceSub, Int.reduceMul, Int.reduceToNat, Int.toNat_zero, Int.toNat_one, Int.toNat_natCast, am_cats, am_cat, am_st1, am_st2, am_clr, up2_na, up2_nj, up2_same, List.getElem?_cons_zero, List.getElem?_cons_succ, List.set_cons_zero, List.set_cons_succ, ne_eq, t152, pI_18, pI_21, pI_23, pu_18, pu_21, pu_23, w1, w2, Int.natCast_zero]
          exact this
        · obtain ⟨v, rfl⟩ : ∃ v, k' = v + 1 := ⟨k' - 1, (Nat.succ_pred k0).symm⟩
          have k0 : ¬ ((v + 1 : Nat) : Int) = 0 := fun z => k0 (Int.ofNat.inj z)
          have en := w_ends (d := d + 4) (s := s) (T := T) (J := J) (R := R) (I := I) (fa := fa) (sm := sm) (nm := nm) (F := F) (H := H) (G := G) (Q := fun v h1 => (185 ≤ h1.1 ∧ s ≤ h1.2.1) ∧ wp codeT mX (d + 6) 157 79 [some (.inr (.inr (some 152)))] (v.toList ++ []) h1 Q) hm hL2 v n X' (w32 (op - 1)) z4 (w32_lo _) (fun n' k' X' op' y1 y2 => ⟨⟨Nat.le_refl _, Nat.le_refl _⟩, by
            have := ihB n' k' X' W op' y1 y2 hnm
            simp only [s157_79, Option.toList_some, Option.toList_none, List.cons_append, List.nil_append, Nat.le_refl, true_and, and_true, true_or, or_true, false_or, or_false, true_implies, false_implies, implies_true, not_true_eq_false, not_false_eq_true, eq_self, Nat.reduceLT, Nat.reduceLeDiff, Nat.reduceEqDiff, Nat.reduceAdd, Nat.reduceSub, Int.reduceLT, Int.reduceLE, Int.reduceEq, Int.reduceNeg, Int.reduceNe, Int.reduceAdd, Int.reduceSub, Int.reduceMul, Int.reduceToNat, Int.toNat_zero, Int.toNat_one, Int.toNat_natCast, am_cats, am_cat, am_st1, am_st2, am_clr, up2_na, up2_nj, up2_same, List.getElem?_cons_zero, List.getElem?_cons_succ, List.set_cons_zero, List.set_cons_succ, ne_eq]
            exact this⟩)
          simp only [s157_54, s157_55, s157_56, s157_57, s157_58, s157_59, s157_60, s157_61, s157_62, s157_63, s157_64, s157_65, s157_66, s157_67, s157_68, s157_69, s157_70, s157_71, s157_72, s157_73, s157_74, s157_77, s157_78, e159, Option.toList_some, Option.toList_none, List.cons_append, List.nil_append, Nat.le_refl, true_and, and_true, true_or, or_true, false_or, or_false, true_implies, false_implies, implies_true, not_true_eq_false, not_false_eq_true, eq_self, Nat.reduceLT, Nat.reduceLeDiff, Nat.reduceEqDiff, Nat.reduceAdd, Nat.reduceSub, Int.reduceLT, Int.reduceLE, Int.reduceEq, Int.reduceNeg, Int.reduceNe, Int.reduceAdd, Int.reduceSub, Int.reduceMul, Int.reduceToNat, Int.toNat_zero, Int.toNat_one, Int.toNat_natCast, am_cats, am_cat, am_st1, am_st2, am_clr, up2_na, up2_nj, up2_same, List.getElem?_cons_zero, List.getElem?_cons_succ, List.set_cons_zero, List.set_cons_succ, ne_eq, t152, pI_18, pI_21, pI_23, pu_18, pu_21, pu_23, w1, w2, k0]
          exact en
      · have key : ∀ (o b : Int) , (o = 11 ∨ o = 12) → (b = 0 ∨ b = 1) → c = (if o = 11 then 38 else 124) → c ≠ -1 → wpc codeT mX (d + 5) 160 [.inr (.inr (some 152)), .inl b] (185, s, T, pI I (p : Int) fa op ((f + n : Nat) : Int) ((k + 1 : Nat) : Int) sm nm X W F H G, J, R) (fun v h1 => (185 ≤ h1.1 ∧ s ≤ h1.2.1) ∧ wp codeT mX (d + 6) 157 103 [some (.inr (.inr (some 152)))] (v.toList ++ []) h1 Q) := by
          intro o b ho hb hco hc
          have hpL := hpL hc
          have ihA := fun n k X W op => (ih (r - 1) (by omega)).2 (p + 1) n k X W op nm (by omega) (by omega)
          refine e160.mpr (w_lands (d := d + 4) hm hL2 hb k X none hS ?_)
          intro k' X' z1 z2 z3
          have ⟨b1, b2, b3, b4, b5, b6, b7, b8, b9, b10, b11, b12⟩ := z1
          obtain ⟨oc, ov⟩ := cOp_c (o := o) (v := ((f + n : Nat) : Int)) (by omega) (by omega) (by omega)
          obtain ⟨oc2, -⟩ := cOp_c (o := o) (v := 0) (by omega) (by decide) (by decide)
          have z4 := CS_jump z1 ho ⟨oc, ov⟩ oc2 (by omega) (by omega) (by omega) hpL
          have go := ihA (n + 1) (k' + 1) _ _ op z4 hop hnm
          have kn : k' + 1 ≤ 1080 := by omega
          have fn : f + n ≤ 1080 := by omega
          have b1 : 0 ≤ ((f + n : Nat) : Int) ∧ ((f + n : Nat) : Int) < ((180 : Nat) : Int) := by omega
          have b2 : 0 ≤ ((k' + 1 : Nat) : Int) ∧ ((k' + 1 : Nat) : Int) < ((180 : Nat) : Int) := by omega
          have q1 : -2147483648 ≤ 1048576 * o ∧ 1048576 * o ≤ 2147483647 := by omega
          have q2 : -2147483648 ≤ 1048576 * o + ((f + n : Nat) : Int) ∧ 1048576 * o + ((f + n : Nat) : Int) ≤ 2147483647 := by omega
          have q3 : -2147483648 ≤ 1048576 * o + 0 ∧ 1048576 * o + 0 ≤ 2147483647 := by omega
          refine ⟨⟨Nat.le_refl _, Nat.le_refl _⟩, ?_⟩
          have w1 := w32_s pn
          have w2 := w32_s kn
          have w3 := w32_s fn
          have e1 := w32_eq q1.1 q1.2
          have e2 := w32_eq q2.1 q2.2
          have e3 := w32_eq q3.1 q3.2
          clear b7 b8 b9 z2 z3 a1 a2 a3 a4 a5 a6 a7 a8 a9 a10 a11 a12
          rcases ho with rfl | rfl
          · rw [if_pos rfl] at hco
            subst hco
            simp only [s157_103, s157_104, s157_105, s157_106, s157_107, s157_108, s157_109, s157_111, s157_112, e161, s161_0, s161_1, s161_2, s161_3, s161_4, s161_5, s161_6, s161_7, s161_8, s161_9, s161_10, s161_11, s161_12, s161_13, s161_14, s161_15, s161_16, s161_17, s161_18, s161_19, s161_20, s161_21, s161_22, s161_23, s161_24, s161_25, s161_26, s161_27, e151, s151_0, s151_1, s151_2, s151_3, s151_4, s151_5, s151_6, s151_7, s151_8, s151_9, s151_10, s151_11, s151_12, s151_13, s151_14, s151_15, s151_16, Option.toList_some, Option.toList_none, List.cons_append, List.nil_append, Nat.le_refl, true_and, and_true, true_or, or_true, false_or, or_false, true_implies, false_implies, implies_true, not_true_eq_false, not_false_eq_true, eq_self, Nat.reduceLT, Nat.reduceLeDiff, Nat.reduceEqDiff, Nat.reduceAdd, Nat.reduceSub, Int.reduceLT, Int.reduceLE, Int.reduceEq, Int.reduceNeg, Int.reduceNe, Int.reduceAdd, Int.reduceSub, Int.reduceMul, Int.reduceToNat, Int.toNat_zero, Int.toNat_one, Int.toNat_natCast, am_cats, am_cat, am_st1, am_st2, am_clr, up2_na, up2_nj, up2_same, List.getElem?_cons_zero, List.getElem?_cons_succ, List.set_cons_zero, List.set_cons_succ, ne_eq, t152, t163, t164, r1, r2, kh, pI_18, pI_22, pI_23, pu_18, pu_22, pu_23, pu_163, pu_164, b1, b2, w1, w2, w3, w32_eq, Int.reduceMul, Int.reduceAdd] at e1 e2 e3 go ⊢
            rw [e2]
            exact go
          · rw [if_neg (by decide)] at hco
            subst hco
            simp only [s157_103, s157_104, s157_105, s157_106, s157_107, s157_110, s157_111, s157_112, e161, s161_0, s161_1, s161_2, s161_3, s161_4, s161_5, s161_6, s161_7, s161_8, s161_9, s161_10, s161_11, s161_12, s161_13, s161_14, s161_15, s161_16, s161_17, s161_18, s161_19, s161_20, s161_21, s161_22, s161_23, s161_24, s161_25, s161_26, s161_27, e151, s151_0, s151_1, s151_2, s151_3, s151_4, s151_5, s151_6, s151_7, s151_8, s151_9, s151_10, s151_11, s151_12, s151_13, s151_14, s151_15, s151_16, Option.toList_some, Option.toList_none, List.cons_append, List.nil_append, Nat.le_refl, true_and, and_true, true_or, or_true, false_or, or_false, true_implies, false_implies, implies_true, not_true_eq_false, not_false_eq_true, eq_self, Nat.reduceLT, Nat.reduceLeDiff, Nat.reduceEqDiff, Nat.reduceAdd, Nat.reduceSub, Int.reduceLT, Int.reduceLE, Int.reduceEq, Int.reduceNeg, Int.reduceNe, Int.reduceAdd, Int.reduceSub, Int.reduceMul, Int.reduceToNat, Int.toNat_zero, Int.toNat_one, Int.toNat_natCast, am_cats, am_cat, am_st1, am_st2, am_clr, up2_na, up2_nj, up2_same, List.getElem?_cons_zero, List.getElem?_cons_succ, List.set_cons_zero, List.set_cons_succ, ne_eq, t152, t163, t164, r1, r2, kh, pI_18, pI_22, pI_23, pu_18, pu_22, pu_23, pu_163, pu_164, b1, b2, w1, w2, w3, w32_eq, Int.reduceMul, Int.reduceAdd] at e1 e2 e3 go ⊢
            rw [e2]
            exact go
        by_cases c38 : c = 38
        · subst c38
          have := key 11 0 (Or.inl rfl) (Or.inl rfl) rfl (by decide)
          simp only [s157_48, s157_49, s157_50, s157_80, s157_81, s157_82, s157_83, s157_94, s157_95, s157_96, s157_97, s157_98, s157_101, s157_102, Option.toList_some, Option.toList_none, List.cons_append, List.nil_append, Nat.le_refl, true_and, and_true, true_or, or_true, false_or, or_false, true_implies, false_implies, implies_true, not_true_eq_false, not_false_eq_true, eq_self, Nat.reduceLT, Nat.reduceLeDiff, Nat.reduceEqDiff, Nat.reduceAdd, Nat.reduceSub, Int.reduceLT, Int.reduceLE, Int.reduceEq, Int.reduceNeg, Int.reduceNe, Int.reduceAdd, Int.reduceSub, Int.reduceMul, Int.reduceToNat, Int.toNat_zero, Int.toNat_one, Int.toNat_natCast, am_cats, am_cat, am_st1, am_st2, am_clr, up2_na, up2_nj, up2_same, List.getElem?_cons_zero, List.getElem?_cons_succ, List.set_cons_zero, List.set_cons_succ, ne_eq, t152, kh]
          exact this
        · by_cases c124 : c = 124
          · subst c124
            have := key 12 1 (Or.inr rfl) (Or.inr rfl) rfl (by decide)
            simp only [s157_48, s157_49, s157_50, s157_80, s157_81, s157_82, s157_83, s157_84, s157_85, s157_86, s157_87, s157_94, s157_95, s157_96, s157_97, s157_98, s157_99, s157_100, s157_102, Option.toList_some, Option.toList_none, List.cons_append, List.nil_append, Nat.le_refl, true_and, and_true, true_or, or_true, false_or, or_false, true_implies, false_implies, implies_true, not_true_eq_false, not_false_eq_true, eq_self, Nat.reduceLT, Nat.reduceLeDiff, Nat.reduceEqDiff, Nat.reduceAdd, Nat.reduceSub, Int.reduceLT, Int.reduceLE, Int.reduceEq, Int.reduceNeg, Int.reduceNe, Int.reduceAdd, Int.reduceSub, Int.reduceMul, Int.reduceToNat, Int.toNat_zero, Int.toNat_one, Int.toNat_natCast, am_cats, am_cat, am_st1, am_st2, am_clr, up2_na, up2_nj, up2_same, List.getElem?_cons_zero, List.getElem?_cons_succ, List.set_cons_zero, List.set_cons_succ, ne_eq, t152, kh]
            exact this
          · simp only [s157_48, s157_49, s157_50, s157_80, s157_81, s157_82, s157_83, s157_84, s157_85, s157_86, s157_87, s157_88, s157_89, s157_90, s157_91, s157_92, s157_93, e145, s145_0, s145_1, s145_2, s145_3, s145_4, s145_5, s145_6, s145_7, s145_8, Option.toList_some, Option.toList_none, List.cons_append, List.nil_append, Nat.le_refl, true_and, and_true, true_or, or_true, false_or, or_false, true_implies, false_implies, implies_true, not_true_eq_false, not_false_eq_true, eq_self, Nat.reduceLT, Nat.reduceLeDiff, Nat.reduceEqDiff, Nat.reduceAdd, Nat.reduceSub, Int.reduceLT, Int.reduceLE, Int.reduceEq, Int.reduceNeg, Int.reduceNe, Int.reduceAdd, Int.reduceSub, Int.reduceMul, Int.reduceToNat, Int.toNat_zero, Int.toNat_one, Int.toNat_natCast, am_cats, am_cat, am_st1, am_st2, am_clr, up2_na, up2_nj, up2_same, List.getElem?_cons_zero, List.getElem?_cons_succ, List.set_cons_zero, List.set_cons_succ, ne_eq, t152, kh, c41, c38, c124, pI_18, pu_20]
            exact g0 _ (w32_lo _)
    refine ⟨hB, ?_⟩
    intro p n k X W op nm hr0 hpb hS hop hnm
    have hp : p ≤ L := by omega
    have kh := k_here (J := J) (s := s) hm hL hL2 hp
    have hpL : ∀ c, hr I L p = c → c ≠ -1 → p < L := fun c z1 z2 => hr_lt z1 z2
    generalize hr I L p = c at *
    have hpL : c ≠ -1 → p < L := hpL c rfl
    have ⟨a1, a2, a3, a4, a5, a6, a7, a8, a9, a10, a11, a12⟩ := hS
    have g0 : ∀ fa, rg fa → Q (some (.inl 0)) (185, s, T, pI I (p : Int) fa op ((f + n : Nat) : Int) ((k + 1 : Nat) : Int) sm nm X W F H G, J, R) := fun fa' hfa' => h0 _ (bd_i (by omega) hfa' hop (by omega) (by omega) hsm hnm a11 a12 hF hH hG)
    have pn : p ≤ 1080 := by omega
    have kn : k + 1 ≤ 1080 := by omega
    have b2 : 0 ≤ ((k + 1 : Nat) : Int) ∧ ((k + 1 : Nat) : Int) < ((180 : Nat) : Int) := by omega
    have opn : ∀ o : Int, (o = 10 ∨ o = 13) → c ≠ -1 → wpc codeT mX (d + 5) 148 [.inr (.inr (some 152)), .inl o] (185, s, T, pI I (p : Int) fa op ((f + n : Nat) : Int) ((k + 1 : Nat) : Int) sm nm X W F H G, J, R) (fun v h1 => (185 ≤ h1.1 ∧ s ≤ h1.2.1) ∧ wp codeT mX (d + 6) 157 39 [some (.inr (.inr (some 152)))] (v.toList ++ []) h1 Q) := by
      intro o ho hc
      have hpL := hpL hc
      by_cases o6 : op = 6
      · subst o6
        have g := g0 _ (w32_lo (w32 (-1000 * 5) - (p : Int)))
        simp only [e148, s148_0, s148_1, s148_2, s148_3, s148_4, s148_5, s148_6, s148_7, s148_8, s148_9, s148_10, s148_11, s148_12, s148_13, s148_14, s148_15, s148_16, s148_17, s148_18, s148_19, s148_20, s148_21, s148_22, s148_23, s148_24, s148_25, s148_26, s148_27, s148_28, s148_29, s148_30, s148_31, s148_32, s148_33, s148_34, s148_35, s148_36, s148_37, e145, s145_0, s145_1, s145_2, s145_3, s145_4, s145_5, s145_6, s145_7, s145_8, s157_39, s157_40, s157_41, Option.toList_some, Option.toList_none, List.cons_append, List.nil_append, Nat.le_refl, true_and, and_true, true_or, or_true, false_or, or_false, true_implies, false_implies, implies_true, not_true_eq_false, not_false_eq_true, eq_self, Nat.reduceLT, Nat.reduceLeDiff, Nat.reduceEqDiff, Nat.reduceAdd, Nat.reduceSub, Int.reduceLT, Int.reduceLE, Int.reduceEq, Int.reduceNeg, Int.reduceNe, Int.reduceAdd, Int.reduceSub, Int.reduceMul, Int.reduceToNat, Int.toNat_zero, Int.toNat_one, Int.toNat_natCast, am_cats, am_cat, am_st1, am_st2, am_clr, up2_na, up2_nj, up2_same, List.getElem?_cons_zero, List.getElem?_cons_succ, List.set_cons_zero, List.set_cons_succ, ne_eq, t152, pI_18, pI_21, pu_20] at g ⊢
        exact g
      · have z : CS L X0 f 0 0 X (sx W (k + 1) (1048576 * o)) n (k + 1 + 1) (p + 1) := by
          rcases ho with rfl | rfl
          · exact CS_push hS (Or.inl (by decide)) (fun y => absurd y (by omega)) (by decide) hpL
          · exact CS_push hS (Or.inr (by decide)) (fun y => absurd y (by omega)) (by decide) hpL
        have go := (ih (r - 1) (by omega)).2 (p + 1) n (k + 1) X _ (w32 (op + 1)) nm (by omega) (by omega) z (w32_lo _) hnm
        have q1 : -2147483648 ≤ 1048576 * o ∧ 1048576 * o ≤ 2147483647 := by omega
        have w1 := w32_s pn
        have w2 := w32_s kn
        have e1 := w32_eq q1.1 q1.2
        simp only [e148, s148_0, s148_1, s148_2, s148_3, s148_4, s148_5, s148_6, s148_7, s148_8, s148_9, s148_10, s148_11, s148_12, s148_13, s148_14, s148_15, s148_16, s148_17, s148_18, s148_19, s148_20, s148_21, s148_22, s148_23, s148_24, s148_25, s148_26, s148_27, s148_28, s148_29, s148_30, s148_31, s148_32, s148_33, s148_34, s148_35, s148_36, s148_37, s157_39, Option.toList_some, Option.toList_none, List.cons_append, List.nil_append, Nat.le_refl, true_and, and_true, true_or, or_true, false_or, or_false, true_implies, false_implies, implies_true, not_true_eq_false, not_false_eq_true, eq_self, Nat.reduceLT, Nat.reduceLeDiff, Nat.reduceEqDiff, Nat.reduceAdd, Nat.reduceSub, Int.reduceLT, Int.reduceLE, Int.reduceEq, Int.reduceNeg, Int.reduceNe, Int.reduceAdd, Int.reduceSub, Int.reduceMul, Int.reduceToNat, Int.toNat_zero, Int.toNat_one, Int.toNat_natCast, am_cats, am_cat, am_st1, am_st2, am_clr, up2_na, up2_nj, up2_same, List.getElem?_cons_zero, List.getElem?_cons_succ, List.set_cons_zero, List.set_cons_succ, ne_eq, t152, t164, r2, pI_18, pI_21, pI_23, pu_18, pu_21, pu_23, pu_164, o6, b2, w1, w2, e1]
        exact go
    refine s157_22.mpr ?_
    by_cases c33 : c = 33
    · subst c33
      have := opn 10 (Or.inl rfl) (by decide)
      simp only [s157_23, s157_24, s157_25, s157_30, s157_31, s157_32, s157_33, s157_34, s157_35, s157_36, s157_38, Option.toList_some, Option.toList_none, List.cons_append, List.nil_append, Nat.le_refl, true_and, and_true, true_or, or_true, false_or, or_false, true_implies, false_implies, implies_true, not_true_eq_false, not_false_eq_true, eq_self, Nat.reduceLT, Nat.reduceLeDiff, Nat.reduceEqDiff, Nat.reduceAdd, Nat.reduceSub, Int.reduceLT, Int.reduceLE, Int.reduceEq, Int.reduceNeg, Int.reduceNe, Int.reduceAdd, Int.reduceSub, Int.reduceMul, Int.reduceToNat, Int.toNat_zero, Int.toNat_one, Int.toNat_natCast, am_cats, am_cat, am_st1, am_st2, am_clr, up2_na, up2_nj, up2_same, List.getElem?_cons_zero, List.getElem?_cons_succ, List.set_cons_zero, List.set_cons_succ, ne_eq, t152, kh]
      exact this
    · by_cases c40 : c = 40
      · subst c40
        have := opn 13 (Or.inr rfl) (by decide)
        simp only [s157_23, s157_24, s157_25, s157_26, s157_27, s157_28, s157_29, s157_30, s157_31, s157_32, s157_33, s157_34, s157_37, s157_38, Option.toList_some, Option.toList_none, List.cons_append, List.nil_append, Nat.le_refl, true_and, and_true, true_or, or_true, false_or, or_false, true_implies, false_implies, implies_true, not_true_eq_false, not_false_eq_true, eq_self, Nat.reduceLT, Nat.reduceLeDiff, Nat.reduceEqDiff, Nat.reduceAdd, Nat.reduceSub, Int.reduceLT, Int.reduceLE, Int.reduceEq, Int.reduceNeg, Int.reduceNe, Int.reduceAdd, Int.reduceSub, Int.reduceMul, Int.reduceToNat, Int.toNat_zero, Int.toNat_one, Int.toNat_natCast, am_cats, am_cat, am_st1, am_st2, am_clr, up2_na, up2_nj, up2_same, List.getElem?_cons_zero, List.getElem?_cons_succ, List.set_cons_zero, List.set_cons_succ, ne_eq, t152, kh]
        exact this
      · simp only [s157_23, s157_24, s157_25, s157_26, s157_27, s157_28, s157_29, s157_42, s157_43, Option.toList_some, Option.toList_none, List.cons_append, List.nil_append, Nat.le_refl, true_and, and_true, true_or, or_true, false_or, or_false, true_implies, false_implies, implies_true, not_true_eq_false, not_false_eq_true, eq_self, Nat.reduceLT, Nat.reduceLeDiff, Nat.reduceEqDiff, Nat.reduceAdd, Nat.reduceSub, Int.reduceLT, Int.reduceLE, Int.reduceEq, Int.reduceNeg, Int.reduceNe, Int.reduceAdd, Int.reduceSub, Int.reduceMul, Int.reduceToNat, Int.toNat_zero, Int.toNat_one, Int.toNat_natCast, am_cats, am_cat, am_st1, am_st2, am_clr, up2_na, up2_nj, up2_same, List.getElem?_cons_zero, List.getElem?_cons_succ, List.set_cons_zero, List.set_cons_succ, ne_eq, t152, kh, c33, c40]
        refine w_compared (d := d) hm hL hL2 hfa hsm hF hH hG hop hnm hS ?_ ?_
        · intro n' k' p' X' W' op' nm' z1 z2 z3 z4
          have hp' : p' ≤ L := z1.2.2.2.2.1
          have go : wp codeT mX (d + 6) 157 47 [some (.inr (.inr (some 152)))] [] (185, s, T, pI I (p' : Int) fa op' ((f + n' : Nat) : Int) ((k' + 1 : Nat) : Int) sm nm' X' W' F H G, J, R) Q := by
            by_cases e : p' = p
            · subst e
              exact hB p' n' k' X' W' op' nm' hr0 hpb z1 z3 z4
            · exact (ih (L - p') (by omega)).1 p' n' k' X' W' op' nm' (by omega) (by omega) z1 z3 z4
          refine ⟨⟨Nat.le_refl _, Nat.le_refl _⟩, ?_⟩
          simp only [s157_44, Option.toList_some, Option.toList_none, List.cons_append, List.nil_append, Nat.le_refl, true_and, and_true, true_or, or_true, false_or, or_false, true_implies, false_implies, implies_true, not_true_eq_false, not_false_eq_true, eq_self, Nat.reduceLT, Nat.reduceLeDiff, Nat.reduceEqDiff, Nat.reduceAdd, Nat.reduceSub, Int.reduceLT, Int.reduceLE, Int.reduceEq, Int.reduceNeg, Int.reduceNe, Int.reduceAdd, Int.reduceSub, Int.reduceMul, Int.reduceToNat, Int.toNat_zero, Int.toNat_one, Int.toNat_natCast, am_cats, am_cat, am_st1, am_st2, am_clr, up2_na, up2_nj, up2_same, List.getElem?_cons_zero, List.getElem?_cons_succ, List.set_cons_zero, List.set_cons_succ, ne_eq]
          exact go
        · intro g hg
          obtain ⟨I2, rfl⟩ := bd_ge hg
          have := h0 _ hg
          refine ⟨⟨Nat.le_refl _, Nat.le_refl _⟩, ?_⟩
          simp only [s157_44, s157_45, s157_46, Option.toList_some, Option.toList_none, List.cons_append, List.nil_append, Nat.le_refl, true_and, and_true, true_or, or_true, false_or, or_false, true_implies, false_implies, implies_true, not_true_eq_false, not_false_eq_true, eq_self, Nat.reduceLT, Nat.reduceLeDiff, Nat.reduceEqDiff, Nat.reduceAdd, Nat.reduceSub, Int.reduceLT, Int.reduceLE, Int.reduceEq, Int.reduceNeg, Int.reduceNe, Int.reduceAdd, Int.reduceSub, Int.reduceMul, Int.reduceToNat, Int.toNat_zero, Int.toNat_one, Int.toNat_natCast, am_cats, am_cat, am_st1, am_st2, am_clr, up2_na, up2_nj, up2_same, List.getElem?_cons_zero, List.getElem?_cons_succ, List.set_cons_zero, List.set_cons_succ, ne_eq]
          exact this
theorem w_condition {X W : Nat → Int} {op w nm : Int} {p : Nat} (hm : mdl T R) (hL : I 152 19 = (L : Int)) (hL2 : L ≤ 160) (hp : p ≤ L) (hfp : f ≤ p) (hX : XB X) (hW : XB W) (hop : rg op) (hnm : rg nm) (hw : 0 ≤ w ∧ w ≤ 180) (hfa : rg fa) (hsm : 0 ≤ sm ∧ sm ≤ 12) (hF : YB F) (hH : YB H) (hG : YB G) (h1 : ∀ (n' p' : Nat) (X' W' : Nat → Int) (op' nm' : Int), CS L X f 0 1 X' W' n' 0 p' → p ≤ p' → rg op' → rg nm' → Q (some (.inl 1)) (185, s, T, pI I (p' : Int) fa op' ((f + n' : Nat) : Int) 0 sm nm' X' W' F H G, J, R)) (h0 : ∀ g, bdH s T I J R (some (.inl 0)) g → Q (some (.inl 0)) g) : wpc codeT mX (d + 6) 157 [.inr (.inr (some 152))] (185, s, T, pI I (p : Int) fa op (f : Int) w sm nm X W F H G, J, R) Q := by
  have t152 : T 152 = (12, 53) := hm.1 152 (by decide)
  have t163 : T 163 = (100, 180) := hm.1 163 (by decide)
  have t164 : T 164 = (100, 180) := hm.1 164 (by decide)
  have r1 : R 152 26 = some 163 := hm.2 26 163 (by decide +kernel) (by decide)
  have r2 : R 152 27 = some 164 := hm.2 27 164 (by decide +kernel) (by decide)
  have kh := k_here (J := J) (s := s) hm hL hL2 hp
  have hpL : ∀ c, hr I L p = c → c ≠ -1 → p < L := fun c z1 z2 => hr_lt z1 z2
  generalize hr I L p = c at *
  have hpL : c ≠ -1 → p < L := hpL c rfl
  have pn : p ≤ 1080 := by omega
  by_cases c40 : c = 40
  · subst c40
    have hpL := hpL (by decide)
    have hS : CS L X f 0 0 X W 0 0 p := ⟨fun i hi => absurd hi (Nat.not_lt_zero i), rfl, hfp, Nat.zero_le p, hp, fun i hi => absurd hi (Nat.not_lt_zero i), fun z => absurd z (by decide), fun i hi => absurd hi (Nat.not_lt_zero i), fun i hi => absurd hi (Nat.not_lt_zero i), fun i hi => rfl, hX, hW⟩
    have z := CS_push (c := 13631488) hS (Or.inr (by decide)) (fun _ => by decide) (by decide) hpL
    have go := (rc_loop (d := d) (s := s) (T := T) (J := J) (R := R) hm hL hL2 hfa hsm hF hH hG h1 h0 (L - (p + 1))).2 (p + 1) 0 0 X _ 1 nm (by omega) (by omega) z ⟨by decide, by decide⟩ hnm
    have w1 := w32_s pn
    have e1 : (0 : Int) < ((180 : Nat) : Int) := by decide
    simp only [e157, s157_0, s157_1, s157_2, s157_3, s157_4, s157_5, s157_6, s157_7, s157_8, s157_9, s157_10, s157_11, s157_12, s157_13, s157_14, s157_15, s157_16, s157_17, s157_18, s157_19, s157_20, s157_21, s157_23, s157_24, s157_25, s157_26, s157_27, s157_28, s157_29, s157_30, s157_31, s157_32, s157_33, s157_34, s157_35, s157_36, s157_37, s157_38, s157_39, s157_40, s157_41, s157_42, s157_43, s157_44, s157_45, s157_46, s157_48, s157_49, s157_50, s157_51, s157_52, s157_53, s157_54, s157_55, s157_56, s157_57, s157_58, s157_59, s157_60, s157_61, s157_62, s157_63, s157_64, s157_65, s157_66, s157_67, s157_68, s157_69, s157_70, s157_71, s157_72, s157_73, s157_74, s157_75, s157_76, s157_77, s157_78, s157_79, s157_80, s157_81, s157_82, s157_83, s157_84, s157_85, s157_86, s157_87, s157_88, s157_89, s157_90, s157_91, s157_92, s157_93, s157_94, s157_95, s157_96, s157_97, s157_98, s157_99, s157_100, s157_101, s157_102, s157_103, s157_104, s157_105, s157_106, s157_107, s157_108, s157_109, s157_110, s157_111, s157_112, e148, s148_0, s148_1, s148_2, s148_3, s148_4, s148_5, s148_6, s148_7, s148_8, s148_9, s148_10, s148_11, s148_12, s148_13, s148_14, s148_15, s148_16, s148_17, s148_18, s148_19, s148_20, s148_21, s148_22, s148_23, s148_24, s148_25, s148_26, s148_27, s148_28, s148_29, s148_30, s148_31, s148_32, s148_33, s148_34, s148_35, s148_36, s148_37, Option.toList_some, Option.toList_none, List.cons_append, List.nil_append, Nat.le_refl, true_and, and_true, true_or, or_true, false_or, or_false, true_implies, false_implies, implies_true, not_true_eq_false, not_false_eq_true, eq_self, Nat.reduceLT, Nat.reduceLeDiff, Nat.reduceEqDiff, Nat.reduceAdd, Nat.reduceSub, Int.reduceLT, Int.reduceLE, Int.reduceEq, Int.reduceNeg, Int.reduceNe, Int.reduceAdd, Int.reduceSub, Int.reduceMul, Int.reduceToNat, Int.toNat_zero, Int.toNat_one, Int.toNat_natCast, am_cats, am_cat, am_st1, am_st2, am_clr, up2_na, up2_nj, up2_same, List.getElem?_cons_zero, List.getElem?_cons_succ, List.set_cons_zero, List.set_cons_succ, ne_eq, t152, t164, r2, kh, pI_18, pI_21, pI_23, pu_18, pu_21, pu_23, pu_164, w1, w32_eq, e1, Int.zero_add, Int.reduceAdd, Nat.add_zero, Nat.zero_add, Int.natCast_one] at go ⊢
    exact go
  · have := h0 _ (bd_i (s := s) (T := T) (I := I) (J := J) (R := R) (p := p) (cm := f) (w := w.toNat) (fa := w32 (w32 (-1000 * 1) - (p : Int))) (by omega) (w32_lo _) hop (by omega) (by omega) hsm hnm hX hW hF hH hG)
    rw [Int.toNat_of_nonneg hw.1] at this
    simp only [e157, s157_0, s157_1, s157_2, s157_3, s157_4, s157_5, s157_6, s157_7, s157_8, s157_9, s157_10, s157_11, s157_12, s157_13, s157_14, s157_15, s157_16, s157_17, s157_18, s157_19, s157_20, s157_21, s157_23, s157_24, s157_25, s157_26, s157_27, s157_28, s157_29, s157_30, s157_31, s157_32, s157_33, s157_34, s157_35, s157_36, s157_37, s157_38, s157_39, s157_40, s157_41, s157_42, s157_43, s157_44, s157_45, s157_46, s157_48, s157_49, s157_50, s157_51, s157_52, s157_53, s157_54, s157_55, s157_56, s157_57, s157_58, s157_59, s157_60, s157_61, s157_62, s157_63, s157_64, s157_65, s157_66, s157_67, s157_68, s157_69, s157_70, s157_71, s157_72, s157_73, s157_74, s157_75, s157_76, s157_77, s157_78, s157_79, s157_80, s157_81, s157_82, s157_83, s157_84, s157_85, s157_86, s157_87, s157_88, s157_89, s157_90, s157_91, s157_92, s157_93, s157_94, s157_95, s157_96, s157_97, s157_98, s157_99, s157_100, s157_101, s157_102, s157_103, s157_104, s157_105, s157_106, s157_107, s157_108, s157_109, s157_110, s157_111, s157_112, e145, s145_0, s145_1, s145_2, s145_3, s145_4, s145_5, s145_6, s145_7, s145_8, Option.toList_some, Option.toList_none, List.cons_append, List.nil_append, Nat.le_refl, true_and, and_true, true_or, or_true, false_or, or_false, true_implies, false_implies, implies_true, not_true_eq_false, not_false_eq_true, eq_self, Nat.reduceLT, Nat.reduceLeDiff, Nat.reduceEqDiff, Nat.reduceAdd, Nat.reduceSub, Int.reduceLT, Int.reduceLE, Int.reduceEq, Int.reduceNeg, Int.reduceNe, Int.reduceAdd, Int.reduceSub, Int.reduceMul, Int.reduceToNat, Int.toNat_zero, Int.toNat_one, Int.toNat_natCast, am_cats, am_cat, am_st1, am_st2, am_clr, up2_na, up2_nj, up2_same, List.getElem?_cons_zero, List.getElem?_cons_succ, List.set_cons_zero, List.set_cons_succ, ne_eq, t152, kh, c40, pI_18, pu_20] at this ⊢
    exact this
end
