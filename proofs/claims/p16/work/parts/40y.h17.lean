/-! by hand, 17: the law's reader: readsClause -/
theorem wfS_cg {X Y : Nat → Int} {b b2 f f2 n : Nat} (hw : wfS X b f n) (h : ∀ i, i < n → Y (f2 + i) = X (f + i)) (hb : (b2 : Int) + f = f2 + b) : wfS Y b2 f2 n := by
  have hd : ∀ k, k ≤ n → dep Y f2 k = dep X f k := by
    intro k
    induction k with
    | zero => exact fun _ => rfl
    | succ k ih =>
      intro hk
      rw [dep, dep, ih (by omega), h k (by omega)]
  intro i hi
  obtain ⟨a1, a2, a3, a4, a5⟩ := hw i hi
  unfold okCd
  rw [h i hi, hd i (by omega)]
  refine ⟨a1, a2, a3, a4, fun z => ?_⟩
  obtain ⟨t, t1, t2, t3, t4⟩ := a5 z
  exact ⟨t, by omega, t2, t3, by rw [hd t t3]; exact t4⟩
theorem SS_wf {L : Nat} {X0 W0 X W : Nat → Int} {f w0 n0 e n w p dl : Nat} (h : SS L X0 W0 f 0 w0 n0 e X W n w p dl) : wfS X 0 f n := by
  obtain ⟨a1, a2, a3, a4, a5, a6, a7, a8, a9, a10, a11, a12, a13⟩ := h
  intro i hi
  obtain ⟨b1, b2, b3, b4⟩ := a1 i hi
  exact ⟨b1, b2, b3, b4, fun z => by have := a11 i (by omega) hi; omega⟩
theorem CS_wf {L : Nat} {X0 X W : Nat → Int} {f e D n p : Nat} (h : CS L X0 f e D X W n 0 p) : wfS X 0 f n := by
  obtain ⟨a1, a2, a3, a4, a5, a6, a7, a8, a9, a10, a11, a12⟩ := h
  intro i hi
  obtain ⟨b1, b2, b3, b4⟩ := a1 i hi
  refine ⟨b1, b2, b3, b4, fun z => ?_⟩
  rcases a9 i hi z with ⟨t, t1, t2, t3, t4⟩ | ⟨k, k1, -⟩
  · exact ⟨t, by omega, t2, t3, t4⟩
  · exact absurd k1 (Nat.not_lt_zero k)
/-- the clauses that are read -/
def CLz (X F H G : Nat → Int) (cm k : Nat) : Prop := ∀ q, q < k → ∃ f m t : Nat, F q = f ∧ H q = ((f + m : Nat) : Int) ∧ G q = ((f + m + t : Nat) : Int) ∧ f + m + t ≤ cm ∧ wfS X 0 f m ∧ wfS X 0 (f + m) t
section
variable {d s : Nat} {T : Nat → Nat × Nat} {I J : Nat → Nat → Int} {R : Nat → Nat → Option Nat} {Q : Option AV → AH → Prop} {L : Nat}
set_option maxHeartbeats 2000000 in
theorem w_clause {X W F H G : Nat → Int} {fa op nm : Int} {p f w k : Nat} (hm : mdl T R) (hL : I 152 19 = (L : Int)) (hL2 : L ≤ 160) (hp : p ≤ L) (hfp : f ≤ p) (hX : XB X) (hW : XB W) (hop : rg op) (hnm : rg nm) (hw : w ≤ 180) (hfa : rg fa) (hk : k ≤ 12) (hF : YB F) (hH : YB H) (hG : YB G) (hC : CLz X F H G f k) (h1 : ∀ (n' p' k' : Nat) (X' W' F' H' G' : Nat → Int) (op' nm' : Int), p < p' → p' ≤ L → n' ≤ p' → k' ≤ 12 → XB X' → XB W' → YB F' → YB H' → YB G' → rg op' → rg nm' → CLz X' F' H' G' n' k' → Q (some (.inl 1)) (185, s, T, pI I (p' : Int) fa op' (n' : Int) 0 (k' : Int) nm' X' W' F' H' G', J, R)) (h0 : ∀ g, bdH s T I J R (some (.inl 0)) g → Q (some (.inl 0)) g) : wpc codeT mX (d + 7) 143 [.inr (.inr (some 152))] (185, s, T, pI I (p : Int) fa op (f : Int) (w : Int) (k : Int) nm X W F H G, J, R) Q := by
  have t152 : T 152 = (12, 53) := hm.1 152 (by decide)
  have t165 : T 165 = (100, 12) := hm.1 165 (by decide)
  have t166 : T 166 = (100, 12) := hm.1 166 (by decide)
  have t167 : T 167 = (100, 12) := hm.1 167 (by decide)
  have r3 : R 152 28 = some 165 := hm.2 28 165 (by decide +kernel) (by decide)
  have r4 : R 152 29 = some 166 := hm.2 29 166 (by decide +kernel) (by decide)
  have r5 : R 152 30 = some 167 := hm.2 30 167 (by decide +kernel) (by decide)
  have kh := k_here (J := J) (s := s) hm hL hL2 hp
  have hpL : ∀ c, hr I L p = c → c ≠ -1 → p < L := fun c z1 z2 => hr_lt z1 z2
  generalize hr I L p = c at *
  have hpL : c ≠ -1 → p < L := hpL c rfl
  have pn : p ≤ 1080 := by omega
  have g0 : ∀ fa, rg fa → Q (some (.inl 0)) (185, s, T, pI I (p : Int) fa op (f : Int) (w : Int) (k : Int) nm X W F H G, J, R) := fun fa' hfa' => h0 _ (bd_i (by omega) hfa' hop (by omega) (by omega) (by omega) hnm hX hW hF hH hG)
  by_cases c103 : c = 103
  · subst c103
    have hpL := hpL (by decide)
    by_cases k12 : k = 12
    · have k12 : (k : Int) = 12 := by omega
      have g := g0 _ (w32_lo (w32 (-1000 * 4) - (p : Int)))
      simp only [e143, s143_0, s143_1, s143_2, s143_3, s143_10, s143_11, s143_12, s143_13, s143_14, s143_15, s143_16, s143_17, s143_18, s143_19, e145, s145_0, s145_1, s145_2, s145_3, s145_4, s145_5, s145_6, s145_7, s145_8, Option.toList_some, Option.toList_none, List.cons_append, List.nil_append, Nat.le_refl, true_and, and_true, true_or, or_true, false_or, or_false, true_implies, false_implies, implies_true, not_true_eq_false, not_false_eq_true, eq_self, Nat.reduceLT, Nat.reduceLeDiff, Nat.reduceEqDiff, Nat.reduceAdd, Nat.reduceSub, Int.reduceLT, Int.reduceLE, Int.reduceEq, Int.reduceNeg, Int.reduceNe, Int.reduceAdd, Int.reduceSub, Int.reduceMul, Int.reduceToNat, Int.toNat_zero, Int.toNat_one, Int.toNat_natCast, am_cats, am_cat, am_st1, am_st2, am_clr, up2_na, up2_nj, up2_same, List.getElem?_cons_zero, List.getElem?_cons_succ, List.set_cons_zero, List.set_cons_succ, ne_eq, t152, kh, k12, pI_18, pI_24, pu_20] at g ⊢
      exact g
    · have k13 : ¬ (k : Int) = 12 := by omega
      have bk : 0 ≤ (k : Int) ∧ (k : Int) < ((12 : Nat) : Int) := by omega
      have w1 := w32_s pn
      simp only [e143, s143_0, s143_1, s143_2, s143_3, s143_10, s143_11, s143_12, s143_13, s143_20, s143_21, s143_22, s143_23, s143_24, s143_25, s143_26, s143_27, s143_28, s143_29, s143_30, s143_31, s143_32, s143_33, s143_34, s143_35, s143_36, s143_37, s143_38, s143_39, s143_40, Option.toList_some, Option.toList_none, List.cons_append, List.nil_append, Nat.le_refl, true_and, and_true, true_or, or_true, false_or, or_false, true_implies, false_implies, implies_true, not_true_eq_false, not_false_eq_true, eq_self, Nat.reduceLT, Nat.reduceLeDiff, Nat.reduceEqDiff, Nat.reduceAdd, Nat.reduceSub, Int.reduceLT, Int.reduceLE, Int.reduceEq, Int.reduceNeg, Int.reduceNe, Int.reduceAdd, Int.reduceSub, Int.reduceMul, Int.reduceToNat, Int.toNat_zero, Int.toNat_one, Int.toNat_natCast, am_cats, am_cat, am_st1, am_st2, am_clr, up2_na, up2_nj, up2_same, List.getElem?_cons_zero, List.getElem?_cons_succ, List.set_cons_zero, List.set_cons_succ, ne_eq, t152, t165, r3, kh, pI_18, pI_22, pI_24, pu_18, pu_21, pu_23, pu_165, k13, bk, w1]
      clear w1
      have hF2 : YB (sx F k (f : Int)) := YB_sx hF (by omega) (by omega)
      refine w_sum (f := f) (n := 0) (n0 := 0) (e := 0) (w := 0) (p := p + 1) (X := X) (W := W) hm hL hL2 hfa (by omega) hF2 hH hG ⟨by decide, by decide⟩ hnm (fun i hi => absurd hi (Nat.not_lt_zero i)) rfl (by show f ≤ p + 1; omega) (Nat.zero_le _) hpL (fun i hi => absurd hi (Nat.not_lt_zero i)) hX hW ?_ ?_
      · intro n2 p2 X2 W2 op2 nm2 q1 q2 q3 q4
        refine ⟨⟨Nat.le_refl _, Nat.le_refl _⟩, ?_⟩
        have hwf := SS_wf q1
        have ⟨a1, a2, a3, a4, a5, a6, a7, a8, a9, a10, a11, a12, a13⟩ := q1
        have hH2 : YB (sx H k ((f + n2 : Nat) : Int)) := YB_sx hH (by omega) (by omega)
        have cond := w_condition (d := d) (s := s) (T := T) (J := J) (R := R) (f := f + n2) (w := 0) (sm := (k : Int)) (F := sx F k (f : Int)) (H := sx H k ((f + n2 : Nat) : Int)) (G := G) (p := p2) (fa := fa) (op := op2) (nm := nm2) (X := X2) (W := W2) (Q := fun v h1 => (185 ≤ h1.1 ∧ s ≤ h1.2.1) ∧ wp codeT mX (d + 7) 143 53 [some (.inr (.inr (some 152)))] (v.toList ++ []) h1 Q) hm hL hL2 a5 (by omega) a12 a13 q3 q4 (by decide) hfa (by omega) hF2 hH2 hG ?_ ?_
        · simp only [s143_41, s143_44, s143_45, s143_46, s143_47, s143_48, s143_49, s143_50, s143_51, s143_52, Option.toList_some, Option.toList_none, List.cons_append, List.nil_append, Nat.le_refl, true_and, and_true, true_or, or_true, false_or, or_false, true_implies, false_implies, implies_true, not_true_eq_false, not_false_eq_true, eq_self, Nat.reduceLT, Nat.reduceLeDiff, Nat.reduceEqDiff, Nat.reduceAdd, Nat.reduceSub, Int.reduceLT, Int.reduceLE, Int.reduceEq, Int.reduceNeg, Int.reduceNe, Int.reduceAdd, Int.reduceSub, Int.reduceMul, Int.reduceToNat, Int.toNat_zero, Int.toNat_one, Int.toNat_natCast, am_cats, am_cat, am_st1, am_st2, am_clr, up2_na, up2_nj, up2_same, List.getElem?_cons_zero, List.getElem?_cons_succ, List.set_cons_zero, List.set_cons_succ, ne_eq, t152, t166, r4, pI_22, pI_24, pu_166, bk]
          exact cond
        · intro n4 p4 X4 W4 op4 nm4 y1 y2 y3 y4
          have hwf2 := CS_wf y1
          have ⟨b1, b2, b3, b4, b5, b6, b7, b8, b9, b10, b11, b12⟩ := y1
          have hG2 : YB (sx G k ((f + n2 + n4 : Nat) : Int)) := YB_sx hG (by omega) (by omega)
          have hC2 : CLz X4 (sx F k (f : Int)) (sx H k ((f + n2 : Nat) : Int)) (sx G k ((f + n2 + n4 : Nat) : Int)) (f + n2 + n4) (k + 1) := by
            intro q hq
            by_cases z : q = k
            · subst z
              refine ⟨f, n2, n4, sx_s, sx_s, sx_s, Nat.le_refl _, wfS_cg hwf (fun i hi => b10 (f + i) (by omega)) (by omega), hwf2⟩
            · obtain ⟨f3, m3, t3, z1, z2, z3, z4, z5, z6⟩ := hC q (by omega)
              refine ⟨f3, m3, t3, ?_, ?_, ?_, by omega, wfS_cg z5 (fun i hi => ?_) (by omega), wfS_cg z6 (fun i hi => ?_) (by omega)⟩
              · rw [sx_n z]
                exact z1
              · rw [sx_n z]
                exact z2
              · rw [sx_n z]
                exact z3
              · rw [b10 _ (by omega), a10 _ (by omega)]
              · rw [b10 _ (by omega), a10 _ (by omega)]
          have fin := h1 (f + n2 + n4) p4 (k + 1) X4 W4 _ _ _ op4 nm4 (by omega) b5 (by omega) (by omega) b11 b12 hF2 hH2 hG2 y3 y4 hC2
          have kn : k ≤ 1080 := by omega
          have w1 := w32_s kn
          refine ⟨⟨Nat.le_refl _, Nat.le_refl _⟩, ?_⟩
          simp only [s143_53, s143_56, s143_57, s143_58, s143_59, s143_60, s143_61, s143_62, s143_63, s143_64, s143_65, s143_66, s143_67, s143_68, s143_69, s143_70, Option.toList_some, Option.toList_none, List.cons_append, List.nil_append, Nat.le_refl, true_and, and_true, true_or, or_true, false_or, or_false, true_implies, false_implies, implies_true, not_true_eq_false, not_false_eq_true, eq_self, Nat.reduceLT, Nat.reduceLeDiff, Nat.reduceEqDiff, Nat.reduceAdd, Nat.reduceSub, Int.reduceLT, Int.reduceLE, Int.reduceEq, Int.reduceNeg, Int.reduceNe, Int.reduceAdd, Int.reduceSub, Int.reduceMul, Int.reduceToNat, Int.toNat_zero, Int.toNat_one, Int.toNat_natCast, am_cats, am_cat, am_st1, am_st2, am_clr, up2_na, up2_nj, up2_same, List.getElem?_cons_zero, List.getElem?_cons_succ, List.set_cons_zero, List.set_cons_succ, ne_eq, t152, t167, r5, pI_22, pI_24, pu_24, pu_167, bk, w1]
          exact fin
        · intro g hg
          obtain ⟨I2, rfl⟩ := bd_ge hg
          have := h0 _ hg
          refine ⟨⟨Nat.le_refl _, Nat.le_refl _⟩, ?_⟩
          simp only [s143_53, s143_54, s143_55, Option.toList_some, Option.toList_none, List.cons_append, List.nil_append, Nat.le_refl, true_and, and_true, true_or, or_true, false_or, or_false, true_implies, false_implies, implies_true, not_true_eq_false, not_false_eq_true, eq_self, Nat.reduceLT, Nat.reduceLeDiff, Nat.reduceEqDiff, Nat.reduceAdd, Nat.reduceSub, Int.reduceLT, Int.reduceLE, Int.reduceEq, Int.reduceNeg, Int.reduceNe, Int.reduceAdd, Int.reduceSub, Int.reduceMul, Int.reduceToNat, Int.toNat_zero, Int.toNat_one, Int.toNat_natCast, am_cats, am_cat, am_st1, am_st2, am_clr, up2_na, up2_nj, up2_same, List.getElem?_cons_zero, List.getElem?_cons_succ, List.set_cons_zero, List.set_cons_succ, ne_eq]
          exact this
      · intro g hg
        obtain ⟨I2, rfl⟩ := bd_ge hg
        have := h0 _ hg
        refine ⟨⟨Nat.le_refl _, Nat.le_refl _⟩, ?_⟩
        simp only [s143_41, s143_42, s143_43, Option.toList_some, Option.toList_none, List.cons_append, List.nil_append, Nat.le_refl, true_and, and_true, true_or, or_true, false_or, or_false, true_implies, false_implies, implies_true, not_true_eq_false, not_false_eq_true, eq_self, Nat.reduceLT, Nat.reduceLeDiff, Nat.reduceEqDiff, Nat.reduceAdd, Nat.reduceSub, Int.reduceLT, Int.reduceLE, Int.reduceEq, Int.reduceNeg, Int.reduceNe, Int.reduceAdd, Int.reduceSub, Int.reduceMul, Int.reduceToNat, Int.toNat_zero, Int.toNat_one, Int.toNat_natCast, am_cats, am_cat, am_st1, am_st2, am_clr, up2_na, up2_nj, up2_same, List.getElem?_cons_zero, List.getElem?_cons_succ, List.set_cons_zero, List.set_cons_succ, ne_eq]
        exact this
  · have g := g0 _ (w32_lo (w32 (-1000 * 1) - (p : Int)))
    simp only [e143, s143_0, s143_1, s143_2, s143_3, s143_4, s143_5, s143_6, s143_7, s143_8, s143_9, e145, s145_0, s145_1, s145_2, s145_3, s145_4, s145_5, s145_6, s145_7, s145_8, Option.toList_some, Option.toList_none, List.cons_append, List.nil_append, Nat.le_refl, true_and, and_true, true_or, or_true, false_or, or_false, true_implies, false_implies, implies_true, not_true_eq_false, not_false_eq_true, eq_self, Nat.reduceLT, Nat.reduceLeDiff, Nat.reduceEqDiff, Nat.reduceAdd, Nat.reduceSub, Int.reduceLT, Int.reduceLE, Int.reduceEq, Int.reduceNeg, Int.reduceNe, Int.reduceAdd, Int.reduceSub, Int.reduceMul, Int.reduceToNat, Int.toNat_zero, Int.toNat_one, Int.toNat_natCast, am_cats, am_cat, am_st1, am_st2, am_clr, up2_na, up2_nj, up2_same, List.getElem?_cons_zero, List.getElem?_cons_succ, List.set_cons_zero, List.set_cons_succ, ne_eq, t152, kh, c103, pI_18, pu_20] at g ⊢
    exact g
end
