/-! by hand, 19: the reference's law -/
def cG (m : Nat) (A0 V : Nat → Int) (a i : Nat) : Nat → Int := fun j => if m * a ≤ j ∧ j < m * a + i then V (j - m * a) else A0 j
theorem cG_0 {m : Nat} {A0 V : Nat → Int} {a : Nat} : cG m A0 V a 0 = A0 := by
  funext j
  unfold cG
  exact if_neg (fun z => by omega)
theorem cG_s {m : Nat} {A0 V : Nat → Int} {a i : Nat} {v : Int} (hv : v = V i) : sx (cG m A0 V a i) (m * a + i) v = cG m A0 V a (i + 1) := by
  funext j
  unfold sx cG
  by_cases h : j = m * a + i
  · subst h
    rw [if_pos rfl, if_pos (by omega), hv, show m * a + i - m * a = i by omega]
  · rw [if_neg h]
    by_cases h2 : m * a ≤ j ∧ j < m * a + i
    · rw [if_pos h2, if_pos (by omega)]
    · rw [if_neg h2, if_neg (by omega)]
theorem cG_in {m : Nat} {A0 V : Nat → Int} {a i k : Nat} (h : k < i) : cG m A0 V a i (m * a + k) = V k := by
  unfold cG
  rw [if_pos (by omega), show m * a + k - m * a = k by omega]
theorem cG_out {m : Nat} {A0 V : Nat → Int} {a i j : Nat} (h : ¬ (m * a ≤ j ∧ j < m * a + i)) : cG m A0 V a i j = A0 j := if_neg h
section
variable {d s : Nat} {T : Nat → Nat × Nat} {I J : Nat → Nat → Int} {R : Nat → Nat → Option Nat} {Q : Option AV → AH → Prop} {tp len p fa op w nm g nz : Int} {l4 l5 : Option AV} {A0 C0 D0 E0 A B C D E X W F H G : Nat → Int}
theorem cp_loop (hm : mdl T R) {a cm : Nat} {sm : Int} (ha : a < 6) (hcm : cm ≤ 180) (hQ : wp codeT mX (d + 8) 142 83 [some (.inr (.inr (some 152))), some (.inl (a : Int)), some (.inl nz), some (.inl g), some (.inl (cm : Int)), l5] [] (185, s, T, pI (mI I tp len (cG 180 A0 X a cm) B C D E) p fa op (cm : Int) w sm nm X W F H G, J, R) Q) : ∀ (r i : Nat), i + r = cm → wp codeT mX (d + 8) 142 65 [some (.inr (.inr (some 152))), some (.inl (a : Int)), some (.inl nz), some (.inl g), some (.inl (i : Int)), l5] [] (185, s, T, pI (mI I tp len (cG 180 A0 X a i) B C D E) p fa op (cm : Int) w sm nm X W F H G, J, R) Q := by
  have t152 : T 152 = (12, 53) := hm.1 152 (by decide)
  have t163 : T 163 = (100, 180) := hm.1 163 (by decide)
  have t168 : T 168 = (100, 1080) := hm.1 168 (by decide)
  have r1 : R 152 26 = some 163 := hm.2 26 163 (by decide +kernel) (by decide)
  have r2 : R 152 31 = some 168 := hm.2 31 168 (by decide +kernel) (by decide)
  intro r
  induction r with
  | zero =>
    intro i hi
    have : i = cm := by omega
    subst this
    have k1 : ¬ (i : Int) < (i : Int) := by omega
    refine s142_65.mpr ?_
    simp only [s142_66, s142_67, s142_68, Option.toList_some, Option.toList_none, List.cons_append, List.nil_append, Nat.le_refl, true_and, and_true, true_or, or_true, false_or, or_false, true_implies, false_implies, implies_true, not_true_eq_false, not_false_eq_true, eq_self, Nat.reduceLT, Nat.reduceLeDiff, Nat.reduceEqDiff, Nat.reduceAdd, Nat.reduceSub, Int.reduceLT, Int.reduceLE, Int.reduceEq, Int.reduceNeg, Int.reduceNe, Int.reduceAdd, Int.reduceSub, Int.reduceMul, Int.reduceToNat, Int.toNat_zero, Int.toNat_one, Int.toNat_natCast, am_cats, am_cat, am_st1, am_st2, am_clr, up2_na, up2_nj, up2_same, List.getElem?_cons_zero, List.getElem?_cons_succ, List.set_cons_zero, List.set_cons_succ, ne_eq, t152, pI_22, k1]
    exact hQ
  | succ r ih =>
    intro i hi
    have k1 : (i : Int) < (cm : Int) := by omega
    have b1 : 0 ≤ (i : Int) ∧ (i : Int) < ((180 : Nat) : Int) := by omega
    have b2 : 0 ≤ 180 * (a : Int) + (i : Int) ∧ 180 * (a : Int) + (i : Int) < ((1080 : Nat) : Int) := by omega
    have nt : (180 * (a : Int) + (i : Int)).toNat = 180 * a + i := by omega
    have im : i ≤ 1080 := by omega
    have go := ih (i + 1) (by omega)
    have e0 : w32 (180 * (a : Int)) = 180 * (a : Int) := w32_eq (by omega) (by omega)
    have e1 : w32 (180 * (a : Int) + (i : Int)) = 180 * (a : Int) + (i : Int) := w32_eq (by omega) (by omega)
    have w1 := w32_s im
    have cg : sx (cG 180 A0 X a i) (180 * a + i) (X i) = cG 180 A0 X a (i + 1) := cG_s rfl
    refine s142_65.mpr ?_
    simp only [s142_66, s142_67, s142_68, s142_69, s142_70, s142_71, s142_72, s142_73, s142_74, s142_75, s142_76, s142_77, s142_78, s142_79, s142_80, s142_81, s142_82, Option.toList_some, Option.toList_none, List.cons_append, List.nil_append, Nat.le_refl, true_and, and_true, true_or, or_true, false_or, or_false, true_implies, false_implies, implies_true, not_true_eq_false, not_false_eq_true, eq_self, Nat.reduceLT, Nat.reduceLeDiff, Nat.reduceEqDiff, Nat.reduceAdd, Nat.reduceSub, Int.reduceLT, Int.reduceLE, Int.reduceEq, Int.reduceNeg, Int.reduceNe, Int.reduceAdd, Int.reduceSub, Int.reduceMul, Int.reduceToNat, Int.toNat_zero, Int.toNat_one, Int.toNat_natCast, am_cats, am_cat, am_st1, am_st2, am_clr, up2_na, up2_nj, up2_same, List.getElem?_cons_zero, List.getElem?_cons_succ, List.set_cons_zero, List.set_cons_succ, ne_eq, t152, t163, t168, r1, r2, pI_22, pI_163, l_168, u_168, k1, b1, b2, nt, e0, e1, w1, cg]
    exact go
set_option maxHeartbeats 1000000 in
theorem c2_loop (hm : mdl T R) {a k : Nat} {cm : Int} (ha : a < 6) (hk : k ≤ 12) (hF : YB F) (hH : YB H) (hG : YB G) (hQ : Q (some (.inl (k : Int))) (185, s, T, pI (mI I tp len A B (cG 12 C0 (fun j => 180 * (a : Int) + F j) a k) (cG 12 D0 (fun j => 180 * (a : Int) + H j) a k) (cG 12 E0 (fun j => 180 * (a : Int) + G j) a k)) p fa op cm w (k : Int) nm X W F H G, J, R)) : ∀ (r i : Nat) (l5 : Option AV), i + r = k → wp codeT mX (d + 8) 142 85 [some (.inr (.inr (some 152))), some (.inl (a : Int)), some (.inl nz), some (.inl g), some (.inl (i : Int)), l5] [] (185, s, T, pI (mI I tp len A B (cG 12 C0 (fun j => 180 * (a : Int) + F j) a i) (cG 12 D0 (fun j => 180 * (a : Int) + H j) a i) (cG 12 E0 (fun j => 180 * (a : Int) + G j) a i)) p fa op cm w (k : Int) nm X W F H G, J, R) Q := by
  have t152 : T 152 = (12, 53) := hm.1 152 (by decide)
  have t165 : T 165 = (100, 12) := hm.1 165 (by decide)
  have t166 : T 166 = (100, 12) := hm.1 166 (by decide)
  have t167 : T 167 = (100, 12) := hm.1 167 (by decide)
  have t170 : T 170 = (100, 72) := hm.1 170 (by decide)
  have t171 : T 171 = (100, 72) := hm.1 171 (by decide)
  have t172 : T 172 = (100, 72) := hm.1 172 (by decide)
  have r3 : R 152 28 = some 165 := hm.2 28 165 (by decide +kernel) (by decide)
  have r4 : R 152 29 = some 166 := hm.2 29 166 (by decide +kernel) (by decide)
  have r5 : R 152 30 = some 167 := hm.2 30 167 (by decide +kernel) (by decide)
  have r6 : R 152 33 = some 170 := hm.2 33 170 (by decide +kernel) (by decide)
  have r7 : R 152 34 = some 171 := hm.2 34 171 (by decide +kernel) (by decide)
  have r8 : R 152 35 = some 172 := hm.2 35 172 (by decide +kernel) (by decide)
  intro r
  induction r with
  | zero =>
    intro i l5 hi
    have : i = k := by omega
    subst this
    have k1 : ¬ (i : Int) < (i : Int) := by omega
    refine s142_85.mpr ?_
    simp only [s142_86, s142_87, s142_88, s142_133, s142_134, s142_135, Option.toList_some, Option.toList_none, List.cons_append, List.nil_append, Nat.le_refl, true_and, and_true, true_or, or_true, false_or, or_false, true_implies, false_implies, implies_true, not_true_eq_false, not_false_eq_true, eq_self, Nat.reduceLT, Nat.reduceLeDiff, Nat.reduceEqDiff, Nat.reduceAdd, Nat.reduceSub, Int.reduceLT, Int.reduceLE, Int.reduceEq, Int.reduceNeg, Int.reduceNe, Int.reduceAdd, Int.reduceSub, Int.reduceMul, Int.reduceToNat, Int.toNat_zero, Int.toNat_one, Int.toNat_natCast, am_cats, am_cat, am_st1, am_st2, am_clr, up2_na, up2_nj, up2_same, List.getElem?_cons_zero, List.getElem?_cons_succ, List.set_cons_zero, List.set_cons_succ, ne_eq, t152, pI_24, k1]
    exact hQ
  | succ r ih =>
    intro i l5 hi
    have k1 : (i : Int) < (k : Int) := by omega
    have b1 : 0 ≤ (i : Int) ∧ (i : Int) < ((12 : Nat) : Int) := by omega
    have b2 : 0 ≤ 12 * (a : Int) + (i : Int) ∧ 12 * (a : Int) + (i : Int) < ((72 : Nat) : Int) := by omega
    have nt : (12 * (a : Int) + (i : Int)).toNat = 12 * a + i := by omega
    have im : i ≤ 1080 := by omega
    have f1 := hF i (by omega)
    have f2 := hH i (by omega)
    have f3 := hG i (by omega)
    have go := ih (i + 1) (some (.inl (12 * (a : Int) + (i : Int)))) (by omega)
    have e0 : w32 (180 * (a : Int)) = 180 * (a : Int) := w32_eq (by omega) (by omega)
    have e2 : w32 (12 * (a : Int)) = 12 * (a : Int) := w32_eq (by omega) (by omega)
    have e1 : w32 (12 * (a : Int) + (i : Int)) = 12 * (a : Int) + (i : Int) := w32_eq (by omega) (by omega)
    have v1 : w32 (180 * (a : Int) + F i) = 180 * (a : Int) + F i := w32_eq (by omega) (by omega)
    have v2 : w32 (180 * (a : Int) + H i) = 180 * (a : Int) + H i := w32_eq (by omega) (by omega)
    have v3 : w32 (180 * (a : Int) + G i) = 180 * (a : Int) + G i := w32_eq (by omega) (by omega)
    have w1 := w32_s im
    have g1 : sx (cG 12 C0 (fun j => 180 * (a : Int) + F j) a i) (12 * a + i) (180 * (a : Int) + F i) = cG 12 C0 (fun j => 180 * (a : Int) + F j) a (i + 1) := cG_s rfl
    have g2 : sx (cG 12 D0 (fun j => 180 * (a : Int) + H j) a i) (12 * a + i) (180 * (a : Int) + H i) = cG 12 D0 (fun j => 180 * (a : Int) + H j) a (i + 1) := cG_s rfl
    have g3 : sx (cG 12 E0 (fun j => 180 * (a : Int) + G j) a i) (12 * a + i) (180 * (a : Int) + G i) = cG 12 E0 (fun j => 180 * (a : Int) + G j) a (i + 1) := cG_s rfl
    refine s142_85.mpr ?_
    simp only [s142_86, s142_87, s142_88, s142_89, s142_90, s142_91, s142_92, s142_93, s142_94, s142_95, s142_96, s142_97, s142_98, s142_99, s142_100, s142_101, s142_102, s142_103, s142_104, s142_105, s142_106, s142_107, s142_108, s142_109, s142_110, s142_111, s142_112, s142_113, s142_114, s142_115, s142_116, s142_117, s142_118, s142_119, s142_120, s142_121, s142_122, s142_123, s142_124, s142_125, s142_126, s142_127, s142_128, s142_129, s142_130, s142_131, s142_132, Option.toList_some, Option.toList_none, List.cons_append, List.nil_append, Nat.le_refl, true_and, and_true, true_or, or_true, false_or, or_false, true_implies, false_implies, implies_true, not_true_eq_false, not_false_eq_true, eq_self, Nat.reduceLT, Nat.reduceLeDiff, Nat.reduceEqDiff, Nat.reduceAdd, Nat.reduceSub, Int.reduceLT, Int.reduceLE, Int.reduceEq, Int.reduceNeg, Int.reduceNe, Int.reduceAdd, Int.reduceSub, Int.reduceMul, Int.reduceToNat, Int.toNat_zero, Int.toNat_one, Int.toNat_natCast, am_cats, am_cat, am_st1, am_st2, am_clr, up2_na, up2_nj, up2_same, List.getElem?_cons_zero, List.getElem?_cons_succ, List.set_cons_zero, List.set_cons_succ, ne_eq, t152, t165, t166, t167, t170, t171, t172, r3, r4, r5, r6, r7, r8, pI_24, pI_165, pI_166, pI_167, l_170, l_171, l_172, u_170, u_171, u_172, k1, b1, b2, nt, e0, e1, e2, v1, v2, v3, w1, g1, g2, g3]
    exact go
set_option maxHeartbeats 1000000 in
theorem lw_loop {L a : Nat} (hm : mdl T R) (hL2 : L ≤ 160) (ha : a < 6) (hfa : rg fa) (h1 : ∀ (p cm k : Nat) (X W F H G : Nat → Int) (op nm : Int), p ≤ L → cm ≤ p → k ≤ 12 → XB X → XB W → YB F → YB H → YB G → rg op → rg nm → CLz X F H G cm k → wp codeT mX (d + 8) 142 49 [some (.inr (.inr (some 152))), some (.inl (a : Int)), some (.inl nz), some (.inl 1), l4, l5] [] (185, s, T, pI (mI I tp (L : Int) A B C D E) (p : Int) fa op (cm : Int) 0 (k : Int) nm X W F H G, J, R) Q) (h0 : ∀ g, bdH s T (mI I tp (L : Int) A B C D E) J R (some (.inl 0)) g → wp codeT mX (d + 8) 142 30 [some (.inr (.inr (some 152))), some (.inl (a : Int)), some (.inl nz), some (.inl 0), l4, l5] [] g Q) : ∀ (r p cm k : Nat) (X W F H G : Nat → Int) (op nm : Int), p + r = L → cm ≤ p → k ≤ 12 → XB X → XB W → YB F → YB H → YB G → rg op → rg nm → CLz X F H G cm k → wp codeT mX (d + 8) 142 30 [some (.inr (.inr (some 152))), some (.inl (a : Int)), some (.inl nz), some (.inl 1), l4, l5] [] (185, s, T, pI (mI I tp (L : Int) A B C D E) (p : Int) fa op (cm : Int) 0 (k : Int) nm X W F H G, J, R) Q := by
  have t152 : T 152 = (12, 53) := hm.1 152 (by decide)
  have hL : mI I tp (L : Int) A B C D E 152 19 = (L : Int) := rfl
  intro r
  induction r using Nat.strongRecOn with
  | _ r ih =>
    intro p cm k X W F H G op nm hr0 hcm hk hX hW hF hH hG hop hnm hC
    have hp : p ≤ L := by omega
    refine s142_30.mpr ?_
    by_cases hpl : p < L
    · have kh := k_here (J := J) (s := s) hm hL hL2 hp
      have hpz : (p : Int) < (L : Int) := by omega
      have pn : p ≤ 1080 := by omega
      have g0 : ∀ fa, rg fa → wp codeT mX (d + 8) 142 30 [some (.inr (.inr (some 152))), some (.inl (a : Int)), some (.inl nz), some (.inl 0), l4, l5] [] (185, s, T, pI (mI I tp (L : Int) A B C D E) (p : Int) fa op (cm : Int) 0 (k : Int) nm X W F H G, J, R) Q := fun fa' hfa' => h0 _ (bd_i (w := 0) (by omega) hfa' hop (by omega) (by omega) (by omega) hnm hX hW hF hH hG)
      generalize hr (mI I tp (L : Int) A B C D E) L p = c at *
      by_cases c59 : c = 59
      · subst c59
        have cl := w_clause (d := d) (s := s) (T := T) (I := mI I tp (L : Int) A B C D E) (J := J) (R := R) (Q := fun v h1 => (185 ≤ h1.1 ∧ s ≤ h1.2.1) ∧ wp codeT mX (d + 8) 142 43 [some (.inr (.inr (some 152))), some (.inl (a : Int)), some (.inl nz), some (.inl 1), l4, l5] (v.toList ++ []) h1 Q) (X := X) (W := W) (F := F) (H := H) (G := G) (fa := fa) (op := op) (nm := nm) (p := p + 1) (f := cm) (w := 0) (k := k) hm hL hL2 hpl (by omega) hX hW hop hnm (by decide) hfa hk hF hH hG hC ?_ ?_
        · have w1 := w32_s pn
          simp only [s142_31, s142_32, s142_33, s142_34, s142_35, s142_36, s142_37, s142_38, s142_39, s142_40, s142_41, s142_42, e162, s162_0, s162_1, s162_2, s162_3, s162_4, s162_5, s162_6, s162_7, s162_8, s162_9, s162_10, s162_11, s162_12, s162_13, s162_14, s162_15, s162_16, s162_17, Option.toList_some, Option.toList_none, List.cons_append, List.nil_append, Nat.le_refl, true_and, and_true, true_or, or_true, false_or, or_false, true_implies, false_implies, implies_true, not_true_eq_false, not_false_eq_true, eq_self, Nat.reduceLT, Nat.reduceLeDiff, Nat.reduceEqDiff, Nat.reduceAdd, Nat.reduceSub, Int.reduceLT, Int.reduceLE, Int.reduceEq, Int.reduceNeg, Int.reduceNe, Int.reduceAdd, Int.reduceSub, Int.reduceMul, Int.reduceToNat, Int.toNat_zero, Int.toNat_one, Int.toNat_natCast, am_cats, am_cat, am_st1, am_st2, am_clr, up2_na, up2_nj, up2_same, List.getElem?_cons_zero, List.getElem?_cons_succ, List.set_cons_zero, List.set_cons_succ, ne_eq, t152, kh, pI_18, pI_19, hL, pu_18, hpz, w1]
          exact cl
        · intro n2 p2 k2 X2 W2 F2 H2 G2 op2 nm2 z1 z2 z3 z4 z5 z6 z7 z8 z9 z10 z11 z12
          have go := ih (L - p2) (by omega) p2 n2 k2 X2 W2 F2 H2 G2 op2 nm2 (by omega) z3 z4 z5 z6 z7 z8 z9 z10 z11 z12
          refine ⟨⟨Nat.le_refl _, Nat.le_refl _⟩, ?_⟩
          simp only [s142_43, s142_44, s142_45, s142_47, s142_48, Option.toList_some, Option.toList_none, List.cons_append, List.nil_append, Nat.le_refl, true_and, and_true, true_or, or_true, false_or, or_false, true_implies, false_implies, implies_true, not_true_eq_false, not_false_eq_true, eq_self, Nat.reduceLT, Nat.reduceLeDiff, Nat.reduceEqDiff, Nat.reduceAdd, Nat.reduceSub, Int.reduceLT, Int.reduceLE, Int.reduceEq, Int.reduceNeg, Int.reduceNe, Int.reduceAdd, Int.reduceSub, Int.reduceMul, Int.reduceToNat, Int.toNat_zero, Int.toNat_one, Int.toNat_natCast, am_cats, am_cat, am_st1, am_st2, am_clr, up2_na, up2_nj, up2_same, List.getElem?_cons_zero, List.getElem?_cons_succ, List.set_cons_zero, List.set_cons_succ, ne_eq]
          exact go
        · intro g hg
          obtain ⟨I2, rfl⟩ := bd_ge hg
          have := h0 _ hg
          refine ⟨⟨Nat.le_refl _, Nat.le_refl _⟩, ?_⟩
          simp only [s142_43, s142_46, s142_47, s142_48, Option.toList_some, Option.toList_none, List.cons_append, List.nil_append, Nat.le_refl, true_and, and_true, true_or, or_true, false_or, or_false, true_implies, false_implies, implies_true, not_true_eq_false, not_false_eq_true, eq_self, Nat.reduceLT, Nat.reduceLeDiff, Nat.reduceEqDiff, Nat.reduceAdd, Nat.reduceSub, Int.reduceLT, Int.reduceLE, Int.reduceEq, Int.reduceNeg, Int.reduceNe, Int.reduceAdd, Int.reduceSub, Int.reduceMul, Int.reduceToNat, Int.toNat_zero, Int.toNat_one, Int.toNat_natCast, am_cats, am_cat, am_st1, am_st2, am_clr, up2_na, up2_nj, up2_same, List.getElem?_cons_zero, List.getElem?_cons_succ, List.set_cons_zero, List.set_cons_succ, ne_eq]
          exact this
      · have g := g0 _ (w32_lo (w32 (-1000 * 1) - (p : Int)))
        simp only [s142_31, s142_32, s142_33, s142_34, s142_35, s142_36, s142_37, s142_38, s142_39, s142_40, s142_46, s142_47, s142_48, e162, s162_0, s162_1, s162_2, s162_3, s162_4, s162_5, s162_6, s162_7, s162_8, s162_9, s162_10, s162_11, s162_12, s162_13, s162_14, s162_15, s162_16, s162_17, e145, s145_0, s145_1, s145_2, s145_3, s145_4, s145_5, s145_6, s145_7, s145_8, Option.toList_some, Option.toList_none, List.cons_append, List.nil_append, Nat.le_refl, true_and, and_true, true_or, or_true, false_or, or_false, true_implies, false_implies, implies_true, not_true_eq_false, not_false_eq_true, eq_self, Nat.reduceLT, Nat.reduceLeDiff, Nat.reduceEqDiff, Nat.reduceAdd, Nat.reduceSub, Int.reduceLT, Int.reduceLE, Int.reduceEq, Int.reduceNeg, Int.reduceNe, Int.reduceAdd, Int.reduceSub, Int.reduceMul, Int.reduceToNat, Int.toNat_zero, Int.toNat_one, Int.toNat_natCast, am_cats, am_cat, am_st1, am_st2, am_clr, up2_na, up2_nj, up2_same, List.getElem?_cons_zero, List.getElem?_cons_succ, List.set_cons_zero, List.set_cons_succ, ne_eq, t152, kh, c59, pI_18, pI_19, hL, pu_20, hpz] at g ⊢
        exact g
    · have hpz : ¬ (p : Int) < (L : Int) := by omega
      have := h1 p cm k X W F H G op nm hp hcm hk hX hW hF hH hG hop hnm hC
      simp only [s142_31, s142_32, s142_33, s142_34, s142_35, s142_36, Option.toList_some, Option.toList_none, List.cons_append, List.nil_append, Nat.le_refl, true_and, and_true, true_or, or_true, false_or, or_false, true_implies, false_implies, implies_true, not_true_eq_false, not_false_eq_true, eq_self, Nat.reduceLT, Nat.reduceLeDiff, Nat.reduceEqDiff, Nat.reduceAdd, Nat.reduceSub, Int.reduceLT, Int.reduceLE, Int.reduceEq, Int.reduceNeg, Int.reduceNe, Int.reduceAdd, Int.reduceSub, Int.reduceMul, Int.reduceToNat, Int.toNat_zero, Int.toNat_one, Int.toNat_natCast, am_cats, am_cat, am_st1, am_st2, am_clr, up2_na, up2_nj, up2_same, List.getElem?_cons_zero, List.getElem?_cons_succ, List.set_cons_zero, List.set_cons_succ, ne_eq, t152, pI_18, pI_19, hL, hpz]
      exact this
end
