/-! by hand, 12: the law's reader: readsSum's loop -/
section
variable {d s : Nat} {T : Nat → Nat × Nat} {I J : Nat → Nat → Int} {R : Nat → Nat → Option Nat} {Q : Option AV → AH → Prop} {L : Nat} {fa sm : Int} {F H G X0 W0 : Nat → Int} {f n1 w0 n0 e : Nat}
set_option maxHeartbeats 1000000 in
theorem rs_loop (hm : mdl T R) (hL : I 152 19 = (L : Int)) (hL2 : L ≤ 160) (hfa : rg fa) (hsm : 0 ≤ sm ∧ sm ≤ 12) (hF : YB F) (hH : YB H) (hG : YB G) {pb : Nat} (h1 : ∀ (n' p' : Nat) (X' W' : Nat → Int) (op' nm' : Int), SS L X0 W0 f n1 w0 n0 e X' W' n' w0 p' 1 → pb ≤ p' → rg op' → rg nm' → Q (some (.inl 1)) (185, s, T, pI I (p' : Int) fa op' ((f + n' : Nat) : Int) (w0 : Int) sm nm' X' W' F H G, J, R)) (h0 : ∀ g, bdH s T I J R (some (.inl 0)) g → Q (some (.inl 0)) g) : ∀ (r p w n : Nat) (X W : Nat → Int) (op nm : Int) (l2 : Option AV), p + r = L → pb ≤ p → SS L X0 W0 f n1 w0 n0 e X W n w p 1 → rg op → rg nm → wp codeT mX (d + 4) 146 8 [some (.inr (.inr (some 152))), some (.inl (w0 : Int)), l2] [] (185, s, T, pI I (p : Int) fa op ((f + n : Nat) : Int) (w : Int) sm nm X W F H G, J, R) Q := by
  have t152 : T 152 = (12, 53) := hm.1 152 (by decide)
  have t163 : T 163 = (100, 180) := hm.1 163 (by decide)
  have t164 : T 164 = (100, 180) := hm.1 164 (by decide)
  have r1 : R 152 26 = some 163 := hm.2 26 163 (by decide +kernel) (by decide)
  have r2 : R 152 27 = some 164 := hm.2 27 164 (by decide +kernel) (by decide)
  intro r
  induction r using Nat.strongRecOn with
  | _ r ih =>
    intro p w n X W op nm l2 hr0 hpb hS hop hnm
    have hp : p ≤ L := by omega
    have kh := k_here (J := J) (s := s) hm hL hL2 hp
    have hpL : ∀ c, hr I L p = c → c ≠ -1 → p < L := fun c z1 z2 => hr_lt z1 z2
    generalize hr I L p = c at *
    have hpL : c ≠ -1 → p < L := hpL c rfl
    obtain ⟨o, ho, ko⟩ := w_sumSign c
    have ko : ∀ (d : Nat) (h : AH) (Q : Option AV → AH → Prop), wpc codeT mX d 153 [.inl c] h Q ↔ Q (some (.inl o)) h := fun d h Q => wpc_det (ko d h)
    have ⟨a1, a2, a3, a4, a5, a6, a7, a8, a9, a10, a11, a12, a13⟩ := hS
    obtain ⟨z, hz, kz⟩ := w_hasOpen (s := s) (T := T) (R := R) (I := I) (J := J) (F := F) (H := H) (G := G) hm a13 (w := w) (by omega) a6
    have kz : ∀ (d : Nat) (p fa op cm sm nm : Int) (X : Nat → Int) (Q : Option AV → AH → Prop), wpc codeT mX d 156 [.inr (.inr (some 152)), .inl (w0 : Int)] (185, s, T, pI I p fa op cm (w : Int) sm nm X W F H G, J, R) Q ↔ Q (some (.inl z)) (185, s, T, pI I p fa op cm (w : Int) sm nm X W F H G, J, R) := fun d p fa op cm sm nm X Q => wpc_det (kz d p fa op cm sm nm X)
    have g0 : ∀ fa, rg fa → Q (some (.inl 0)) (185, s, T, pI I (p : Int) fa op ((f + n : Nat) : Int) (w : Int) sm nm X W F H G, J, R) := fun fa' hfa' => h0 _ (bd_i (by omega) hfa' hop (by omega) (by omega) hsm hnm a12 a13 hF hH hG)
    have pn : p ≤ 1080 := by omega
    refine s146_8.mpr ?_
    by_cases o1 : o = -1
    · subst o1
      -- the sum's end
      have fin : z = 0 → wp codeT mX (d + 4) 146 88 [some (.inr (.inr (some 152))), some (.inl (w0 : Int)), some (.inl (-1))] [] (185, s, T, pI I (p : Int) fa op ((f + n : Nat) : Int) (w : Int) sm nm X W F H G, J, R) Q := by
        intro hz0
        have hz := (hz.resolve_left (fun y => by omega)).2
        refine s146_88.mpr ?_
        simp only [s146_89, s146_90, Option.toList_some, Option.toList_none, List.cons_append, List.nil_append, Nat.le_refl, true_and, and_true, true_or, or_true, false_or, or_false, true_implies, false_implies, implies_true, not_true_eq_false, not_false_eq_true, eq_self, Nat.reduceLT, Nat.reduceLeDiff, Nat.reduceEqDiff, Nat.reduceAdd, Nat.reduceSub, Int.reduceLT, Int.reduceLE, Int.reduceEq, Int.reduceNeg, Int.reduceNe, Int.reduceAdd, Int.reduceSub, Int.reduceMul, Int.reduceToNat, Int.toNat_zero, Int.toNat_one, Int.toNat_natCast, am_cats, am_cat, am_st1, am_st2, am_clr, up2_na, up2_nj, up2_same, List.getElem?_cons_zero, List.getElem?_cons_succ, List.set_cons_zero, List.set_cons_succ, ne_eq, t152, e154]
        refine w_closes (d := d + 2) hm hL2 (Or.inr rfl) w n X hS (fun n' w' X' z1 z2 z3 z4 => ⟨⟨Nat.le_refl _, Nat.le_refl _⟩, ?_⟩)
        have hw : w' = w0 := by
          obtain ⟨-, -, -, -, -, y1, -, y2, -⟩ := z2
          by_cases y : w' = w0
          · exact y
          · exfalso
            have y3 := y2 (w' - 1) (by omega) (by omega)
            have y4 := hz (w' - 1) (by omega) (by omega)
            omega
        subst hw
        have := h1 n' p X' W op nm z2 hpb hop hnm
        simp only [s146_91, s146_92, Option.toList_some, Option.toList_none, List.cons_append, List.nil_append, Nat.le_refl, true_and, and_true, true_or, or_true, false_or, or_false, true_implies, false_implies, implies_true, not_true_eq_false, not_false_eq_true, eq_self, Nat.reduceLT, Nat.reduceLeDiff, Nat.reduceEqDiff, Nat.reduceAdd, Nat.reduceSub, Int.reduceLT, Int.reduceLE, Int.reduceEq, Int.reduceNeg, Int.reduceNe, Int.reduceAdd, Int.reduceSub, Int.reduceMul, Int.reduceToNat, Int.toNat_zero, Int.toNat_one, Int.toNat_natCast, am_cats, am_cat, am_st1, am_st2, am_clr, up2_na, up2_nj, up2_same, List.getElem?_cons_zero, List.getElem?_cons_succ, List.set_cons_zero, List.set_cons_succ, ne_eq]
        exact this
      by_cases c93 : c = 93
      · subst c93
        have hpL := hpL (by decide)
        rcases hz with ⟨rfl, i, i1, i2, i3⟩ | ⟨rfl, hz⟩
        · simp only [s146_9, s146_10, s146_11, s146_12, s146_13, s146_14, s146_48, s146_49, s146_50, s146_51, s146_52, s146_53, s146_54, s146_55, s146_56, s146_57, s146_58, Option.toList_some, Option.toList_none, List.cons_append, List.nil_append, Nat.le_refl, true_and, and_true, true_or, or_true, false_or, or_false, true_implies, false_implies, implies_true, not_true_eq_false, not_false_eq_true, eq_self, Nat.reduceLT, Nat.reduceLeDiff, Nat.reduceEqDiff, Nat.reduceAdd, Nat.reduceSub, Int.reduceLT, Int.reduceLE, Int.reduceEq, Int.reduceNeg, Int.reduceNe, Int.reduceAdd, Int.reduceSub, Int.reduceMul, Int.reduceToNat, Int.toNat_zero, Int.toNat_one, Int.toNat_natCast, am_cats, am_cat, am_st1, am_st2, am_clr, up2_na, up2_nj, up2_same, List.getElem?_cons_zero, List.getElem?_cons_succ, List.set_cons_zero, List.set_cons_succ, ne_eq, t152, kh, ko, kz, e154]
          refine w_closes (d := d + 2) hm hL2 (Or.inr rfl) w n X hS (fun n' w' X' z1 z2 z3 z4 => ⟨⟨Nat.le_refl _, Nat.le_refl _⟩, ?_⟩)
          have hi : i < w' := by
            by_cases y : i < w'
            · exact y
            · have := z3 i (by omega) i2
              omega
          obtain ⟨v, rfl⟩ : ∃ v, w' = v + 1 := ⟨w' - 1, by omega⟩
          have vn : v ≤ 1080 := by omega
          have h6 : 6 < cOp (W v) := by
            rcases z4 with y | y | y
            · omega
            · exact y
            · exact absurd y.1 (by decide)
          have go := ih (r - 1) (by omega) (p + 1) v n' X' W (w32 (op - 1)) nm (some (.inl (-1))) (by omega) (by omega) (SS_pop z2 h6 (by omega) hpL) (w32_lo _) hnm
          have w1 := w32_s pn
          have w2 := w32_d vn
          simp only [s146_59, s146_60, s146_61, s146_62, s146_63, s146_64, s146_65, s146_66, s146_67, s146_68, s146_69, s146_70, s146_71, s146_72, s146_73, s146_74, s146_75, s146_76, s146_77, s146_93, Option.toList_some, Option.toList_none, List.cons_append, List.nil_append, Nat.le_refl, true_and, and_true, true_or, or_true, false_or, or_false, true_implies, false_implies, implies_true, not_true_eq_false, not_false_eq_true, eq_self, Nat.reduceLT, Nat.reduceLeDiff, Nat.reduceEqDiff, Nat.reduceAdd, Nat.reduceSub, Int.reduceLT, Int.reduceLE, Int.reduceEq, Int.reduceNeg, Int.reduceNe, Int.reduceAdd, Int.reduceSub, Int.reduceMul, Int.reduceToNat, Int.toNat_zero, Int.toNat_one, Int.toNat_natCast, am_cats, am_cat, am_st1, am_st2, am_clr, up2_na, up2_nj, up2_same, List.getElem?_cons_zero, List.getElem?_cons_succ, List.set_cons_zero, List.set_cons_succ, ne_eq, t152, pI_18, pI_21, pI_23, pu_18, pu_21, pu_23, w1, w2]
          exact go
        · have := fin rfl
          simp only [s146_9, s146_10, s146_11, s146_12, s146_13, s146_14, s146_48, s146_49, s146_50, s146_51, s146_52, s146_53, s146_54, s146_55, s146_78, s146_79, s146_80, s146_81, Option.toList_some, Option.toList_none, List.cons_append, List.nil_append, Nat.le_refl, true_and, and_true, true_or, or_true, false_or, or_false, true_implies, false_implies, implies_true, not_true_eq_false, not_false_eq_true, eq_self, Nat.reduceLT, Nat.reduceLeDiff, Nat.reduceEqDiff, Nat.reduceAdd, Nat.reduceSub, Int.reduceLT, Int.reduceLE, Int.reduceEq, Int.reduceNeg, Int.reduceNe, Int.reduceAdd, Int.reduceSub, Int.reduceMul, Int.reduceToNat, Int.toNat_zero, Int.toNat_one, Int.toNat_natCast, am_cats, am_cat, am_st1, am_st2, am_clr, up2_na, up2_nj, up2_same, List.getElem?_cons_zero, List.getElem?_cons_succ, List.set_cons_zero, List.set_cons_succ, ne_eq, t152, kh, ko, kz]
          exact this
      · rcases hz with ⟨rfl, i, i1, i2, i3⟩ | ⟨rfl, hz⟩
        · simp only [s146_9, s146_10, s146_11, s146_12, s146_13, s146_14, s146_48, s146_49, s146_50, s146_51, s146_78, s146_79, s146_80, s146_81, s146_82, s146_83, s146_84, s146_85, s146_86, s146_87, e145, s145_0, s145_1, s145_2, s145_3, s145_4, s145_5, s145_6, s145_7, s145_8, Option.toList_some, Option.toList_none, List.cons_append, List.nil_append, Nat.le_refl, true_and, and_true, true_or, or_true, false_or, or_false, true_implies, false_implies, implies_true, not_true_eq_false, not_false_eq_true, eq_self, Nat.reduceLT, Nat.reduceLeDiff, Nat.reduceEqDiff, Nat.reduceAdd, Nat.reduceSub, Int.reduceLT, Int.reduceLE, Int.reduceEq, Int.reduceNeg, Int.reduceNe, Int.reduceAdd, Int.reduceSub, Int.reduceMul, Int.reduceToNat, Int.toNat_zero, Int.toNat_one, Int.toNat_natCast, am_cats, am_cat, am_st1, am_st2, am_clr, up2_na, up2_nj, up2_same, List.getElem?_cons_zero, List.getElem?_cons_succ, List.set_cons_zero, List.set_cons_succ, ne_eq, t152, kh, ko, kz, c93, pI_18, pu_20]
          exact g0 _ (w32_lo _)
        · have := fin rfl
          simp only [s146_9, s146_10, s146_11, s146_12, s146_13, s146_14, s146_48, s146_49, s146_50, s146_51, s146_78, s146_79, s146_80, s146_81, Option.toList_some, Option.toList_none, List.cons_append, List.nil_append, Nat.le_refl, true_and, and_true, true_or, or_true, false_or, or_false, true_implies, false_implies, implies_true, not_true_eq_false, not_false_eq_true, eq_self, Nat.reduceLT, Nat.reduceLeDiff, Nat.reduceEqDiff, Nat.reduceAdd, Nat.reduceSub, Int.reduceLT, Int.reduceLE, Int.reduceEq, Int.reduceNeg, Int.reduceNe, Int.reduceAdd, Int.reduceSub, Int.reduceMul, Int.reduceToNat, Int.toNat_zero, Int.toNat_one, Int.toNat_natCast, am_cats, am_cat, am_st1, am_st2, am_clr, up2_na, up2_nj, up2_same, List.getElem?_cons_zero, List.getElem?_cons_succ, List.set_cons_zero, List.set_cons_succ, ne_eq, t152, kh, ko, kz, c93]
          exact this
    · have ho2 : 2 ≤ o ∧ o ≤ 6 ∧ c ≠ -1 := ho.resolve_left o1
      have hpL := hpL ho2.2.2
      have key : ∀ b : Int, (b = 0 ∨ b = 1) → wpc codeT mX (d + 3) 154 [.inr (.inr (some 152)), .inl b] (185, s, T, pI I (p : Int) fa op ((f + n : Nat) : Int) (w : Int) sm nm X W F H G, J, R) (fun v h1 => (185 ≤ h1.1 ∧ s ≤ h1.2.1) ∧ wp codeT mX (d + 4) 146 23 [some (.inr (.inr (some 152))), some (.inl (w0 : Int)), some (.inl o)] (v.toList ++ []) h1 Q) := by
        intro b hb
        refine e154.mpr (w_closes (d := d + 2) hm hL2 hb w n X hS (fun n' w' X' z1 z2 z3 z4 => ⟨⟨Nat.le_refl _, Nat.le_refl _⟩, ?_⟩))
        have wn : w' ≤ 1080 := by omega
        have b2 : 0 ≤ (w' : Int) ∧ (w' : Int) < ((180 : Nat) : Int) := by omega
        obtain ⟨oc, -⟩ := cOp_c (o := o) (v := 0) (by omega) (by decide) (by decide)
        rw [Int.add_zero] at oc
        have hS3 := SS_push (c := 1048576 * o) (dl2 := 0) z2 (Or.inl ⟨by omega, by omega, rfl⟩) (by omega) hpL
        have rf := rf_loop (d := d) (s := s) (T := T) (J := J) (R := R) (X0 := X0) (W0 := W0) (f := f) (n1 := n1) (w0 := w0) (n0 := n0) (e := e) (X := X') (n := n') (pb := p + 1) (Q := fun v h1 => (185 ≤ h1.1 ∧ s ≤ h1.2.1) ∧ wp codeT mX (d + 4) 146 45 [some (.inr (.inr (some 152))), some (.inl (w0 : Int)), some (.inl o)] (v.toList ++ []) h1 Q) hm hL hL2 hfa hsm hF hH hG (fun n2 w2 p2 X2 W2 op2 nm2 s1 s2 s3 s4 => ⟨⟨Nat.le_refl _, Nat.le_refl _⟩, ?_⟩) (fun g hg => ?_) (L - (p + 1)) (p + 1) (w' + 1) (sx W w' (1048576 * o)) op nm (by omega) (Nat.le_refl _) hS3 hop hnm
        · have eo : w32 (1048576 * o) = 1048576 * o := w32_eq (by omega) (by omega)
          have w1 := w32_s pn
          have w2 := w32_s wn
          simp only [s146_23, s146_24, s146_25, s146_26, s146_27, s146_28, s146_29, s146_30, s146_31, s146_32, s146_33, s146_34, s146_35, s146_36, s146_37, s146_38, s146_39, s146_40, s146_41, s146_42, s146_43, s146_44, Option.toList_some, Option.toList_none, List.cons_append, List.nil_append, Nat.le_refl, true_and, and_true, true_or, or_true, false_or, or_false, true_implies, false_implies, implies_true, not_true_eq_false, not_false_eq_true, eq_self, Nat.reduceLT, Nat.reduceLeDiff, Nat.reduceEqDiff, Nat.reduceAdd, Nat.reduceSub, Int.reduceLT, Int.reduceLE, Int.reduceEq, Int.reduceNeg, Int.reduceNe, Int.reduceAdd, Int.reduceSub, Int.reduceMul, Int.reduceToNat, Int.toNat_zero, Int.toNat_one, Int.toNat_natCast, am_cats, am_cat, am_st1, am_st2, am_clr, up2_na, up2_nj, up2_same, List.getElem?_cons_zero, List.getElem?_cons_succ, List.set_cons_zero, List.set_cons_succ, ne_eq, t152, t164, r2, e147, pI_18, pI_23, pu_18, pu_23, pu_164, b2, eo, w1, w2]
          exact rf
        · have hp2 : p2 ≤ L := s1.2.2.2.2.1
          have go := ih (L - p2) (by omega) p2 w2 n2 X2 W2 op2 nm2 (some (.inl o)) (by omega) (by omega) s1 s3 s4
          simp only [s146_45, s146_93, Option.toList_some, Option.toList_none, List.cons_append, List.nil_append, Nat.le_refl, true_and, and_true, true_or, or_true, false_or, or_false, true_implies, false_implies, implies_true, not_true_eq_false, not_false_eq_true, eq_self, Nat.reduceLT, Nat.reduceLeDiff, Nat.reduceEqDiff, Nat.reduceAdd, Nat.reduceSub, Int.reduceLT, Int.reduceLE, Int.reduceEq, Int.reduceNeg, Int.reduceNe, Int.reduceAdd, Int.reduceSub, Int.reduceMul, Int.reduceToNat, Int.toNat_zero, Int.toNat_one, Int.toNat_natCast, am_cats, am_cat, am_st1, am_st2, am_clr, up2_na, up2_nj, up2_same, List.getElem?_cons_zero, List.getElem?_cons_succ, List.set_cons_zero, List.set_cons_succ, ne_eq]
          exact go
        · have hg2 := hg
          obtain ⟨-, p3, fa3, op3, cm3, w3, sm3, nm3, X3, W3, F3, H3, G3, -, -, -, -, -, -, -, -, -, -, -, -, rfl⟩ := hg2
          have := h0 _ hg
          refine ⟨⟨Nat.le_refl _, Nat.le_refl _⟩, ?_⟩
          simp only [s146_45, s146_46, s146_47, Option.toList_some, Option.toList_none, List.cons_append, List.nil_append, Nat.le_refl, true_and, and_true, true_or, or_true, false_or, or_false, true_implies, false_implies, implies_true, not_true_eq_false, not_false_eq_true, eq_self, Nat.reduceLT, Nat.reduceLeDiff, Nat.reduceEqDiff, Nat.reduceAdd, Nat.reduceSub, Int.reduceLT, Int.reduceLE, Int.reduceEq, Int.reduceNeg, Int.reduceNe, Int.reduceAdd, Int.reduceSub, Int.reduceMul, Int.reduceToNat, Int.toNat_zero, Int.toNat_one, Int.toNat_natCast, am_cats, am_cat, am_st1, am_st2, am_clr, up2_na, up2_nj, up2_same, List.getElem?_cons_zero, List.getElem?_cons_succ, List.set_cons_zero, List.set_cons_succ, ne_eq]
          exact this
      by_cases o4 : o < 4
      · simp only [s146_9, s146_10, s146_11, s146_12, s146_13, s146_14, s146_15, s146_16, s146_17, s146_18, s146_19, s146_20, s146_21, s146_22, Option.toList_some, Option.toList_none, List.cons_append, List.nil_append, Nat.le_refl, true_and, and_true, true_or, or_true, false_or, or_false, true_implies, false_implies, implies_true, not_true_eq_false, not_false_eq_true, eq_self, Nat.reduceLT, Nat.reduceLeDiff, Nat.reduceEqDiff, Nat.reduceAdd, Nat.reduceSub, Int.reduceLT, Int.reduceLE, Int.reduceEq, Int.reduceNeg, Int.reduceNe, Int.reduceAdd, Int.reduceSub, Int.reduceMul, Int.reduceToNat, Int.toNat_zero, Int.toNat_one, Int.toNat_natCast, am_cats, am_cat, am_st1, am_st2, am_clr, up2_na, up2_nj, up2_same, List.getElem?_cons_zero, List.getElem?_cons_succ, List.set_cons_zero, List.set_cons_succ, ne_eq, t152, kh, ko, o1, o4]
        exact key 1 (Or.inr rfl)
      · simp only [s146_9, s146_10, s146_11, s146_12, s146_13, s146_14, s146_15, s146_16, s146_17, s146_18, s146_19, s146_20, s146_21, s146_22, Option.toList_some, Option.toList_none, List.cons_append, List.nil_append, Nat.le_refl, true_and, and_true, true_or, or_true, false_or, or_false, true_implies, false_implies, implies_true, not_true_eq_false, not_false_eq_true, eq_self, Nat.reduceLT, Nat.reduceLeDiff, Nat.reduceEqDiff, Nat.reduceAdd, Nat.reduceSub, Int.reduceLT, Int.reduceLE, Int.reduceEq, Int.reduceNeg, Int.reduceNe, Int.reduceAdd, Int.reduceSub, Int.reduceMul, Int.reduceToNat, Int.toNat_zero, Int.toNat_one, Int.toNat_natCast, am_cats, am_cat, am_st1, am_st2, am_clr, up2_na, up2_nj, up2_same, List.getElem?_cons_zero, List.getElem?_cons_succ, List.set_cons_zero, List.set_cons_succ, ne_eq, t152, kh, ko, o1, o4]
        exact key 0 (Or.inl rfl)
end
