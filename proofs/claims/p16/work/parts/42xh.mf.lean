/-! the law's two readers, 15: the reference reckons -/
theorem setA_up {I : Nat → Nat → Int} {a j : Nat} {S : Nat → Int} {v : Int} : up2 (setA I a S) a j v = setA I a (sx S j v) := up2_setA
theorem cod_op {c o v : Int} (h : c = 1048576 * o + v) (h0 : 0 ≤ o ∧ o ≤ 12) (h1 : 0 ≤ v ∧ v < 1048576) : w32 (Int.tdiv c 1048576) = o ∧ w32 (c - Int.tdiv c 1048576 * 1048576) = v := by
  have e : Int.tdiv c 1048576 = o := by
    rw [Int.tdiv_eq_ediv_of_nonneg (by omega)]
    omega
  rw [e]
  exact ⟨w32_eq (by omega) (by omega), by rw [show c - o * 1048576 = v by omega]; exact w32_eq (by omega) (by omega)⟩
section
variable {d s b : Nat} {T : Nat → Nat × Nat} {I J : Nat → Nat → Int} {R : Nat → Nat → Option Nat} {Q : Option AV → AH → Prop}
theorem k169 {h : AH} {o a b : Int} (ho : 2 ≤ o ∧ o ≤ 9) (hz : ¬ ((o = 5 ∨ o = 6) ∧ b = 0)) : wpc codeT mX d 169 [.inl o, .inl a, .inl b] h Q ↔ Q (some (.inl (rkn o a b))) h := wpc_det (by
  have k : o = 2 ∨ o = 3 ∨ o = 4 ∨ o = 5 ∨ o = 6 ∨ o = 7 ∨ o = 8 ∨ o = 9 := by omega
  rcases k with rfl | rfl | rfl | rfl | rfl | rfl | rfl | rfl
  · simp only [e169, s169_0, s169_1, s169_2, s169_3, s169_4, s169_5, s169_6, s169_7, s169_8, s169_9, s169_10, s169_11, s169_12, s169_13, s169_14, s169_15, s169_16, s169_17, s169_18, s169_19, s169_20, s169_21, s169_22, s169_23, s169_24, s169_25, s169_26, s169_27, s169_28, s169_29, s169_30, s169_31, s169_32, s169_33, s169_34, s169_35, s169_36, s169_37, s169_38, s169_39, s169_40, s169_41, s169_42, Option.toList_some, Option.toList_none, List.cons_append, List.nil_append, Nat.le_refl, true_and, and_true, true_or, or_true, false_or, or_false, true_implies, false_implies, implies_true, not_true_eq_false, not_false_eq_true, eq_self, Nat.reduceLT, Nat.reduceLeDiff, Nat.reduceEqDiff, Nat.reduceAdd, Nat.reduceSub, Int.reduceLT, Int.reduceLE, Int.reduceEq, Int.reduceNeg, Int.reduceNe, Int.reduceAdd, Int.reduceSub, Int.reduceMul, Int.reduceToNat, Int.toNat_zero, Int.toNat_one, Int.toNat_natCast, am_cats, am_cat, am_st1, am_st2, am_clr, up2_na, up2_nj, up2_same, List.getElem?_cons_zero, List.getElem?_cons_succ, List.set_cons_zero, List.set_cons_succ, ne_eq]
    rfl
  · simp only [e169, s169_0, s169_1, s169_2, s169_3, s169_4, s169_5, s169_6, s169_7, s169_8, s169_9, s169_10, s169_11, s169_12, s169_13, s169_14, s169_15, s169_16, s169_17, s169_18, s169_19, s169_20, s169_21, s169_22, s169_23, s169_24, s169_25, s169_26, s169_27, s169_28, s169_29, s169_30, s169_31, s169_32, s169_33, s169_34, s169_35, s169_36, s169_37, s169_38, s169_39, s169_40, s169_41, s169_42, Option.toList_some, Option.toList_none, List.cons_append, List.nil_append, Nat.le_refl, true_and, and_true, true_or, or_true, false_or, or_false, true_implies, false_implies, implies_true, not_true_eq_false, not_false_eq_true, eq_self, Nat.reduceLT, Nat.reduceLeDiff, Nat.reduceEqDiff, Nat.reduceAdd, Nat.reduceSub, Int.reduceLT, Int.reduceLE, Int.reduceEq, Int.reduceNeg, Int.reduceNe, Int.reduceAdd, Int.reduceSub, Int.reduceMul, Int.reduceToNat, Int.toNat_zero, Int.toNat_one, Int.toNat_natCast, am_cats, am_cat, am_st1, am_st2, am_clr, up2_na, up2_nj, up2_same, List.getElem?_cons_zero, List.getElem?_cons_succ, List.set_cons_zero, List.set_cons_succ, ne_eq]
    rfl
  · simp only [e169, s169_0, s169_1, s169_2, s169_3, s169_4, s169_5, s169_6, s169_7, s169_8, s169_9, s169_10, s169_11, s169_12, s169_13, s169_14, s169_15, s169_16, s169_17, s169_18, s169_19, s169_20, s169_21, s169_22, s169_23, s169_24, s169_25, s169_26, s169_27, s169_28, s169_29, s169_30, s169_31, s169_32, s169_33, s169_34, s169_35, s169_36, s169_37, s169_38, s169_39, s169_40, s169_41, s169_42, Option.toList_some, Option.toList_none, List.cons_append, List.nil_append, Nat.le_refl, true_and, and_true, true_or, or_true, false_or, or_false, true_implies, false_implies, implies_true, not_true_eq_false, not_false_eq_true, eq_self, Nat.reduceLT, Nat.reduceLeDiff, Nat.reduceEqDiff, Nat.reduceAdd, Nat.reduceSub, Int.reduceLT, Int.reduceLE, Int.reduceEq, Int.reduceNeg, Int.reduceNe, Int.reduceAdd, Int.reduceSub, Int.reduceMul, Int.reduceToNat, Int.toNat_zero, Int.toNat_one, Int.toNat_natCast, am_cats, am_cat, am_st1, am_st2, am_clr, up2_na, up2_nj, up2_same, List.getElem?_cons_zero, List.getElem?_cons_succ, List.set_cons_zero, List.set_cons_succ, ne_eq]
    rfl
  · have hb : ¬ b = 0 := fun z => hz ⟨Or.inl rfl, z⟩
    simp only [e169, s169_0, s169_1, s169_2, s169_3, s169_4, s169_5, s169_6, s169_7, s169_8, s169_9, s169_10, s169_11, s169_12, s169_13, s169_14, s169_15, s169_16, s169_17, s169_18, s169_19, s169_20, s169_21, s169_22, s169_23, s169_24, s169_25, s169_26, s169_27, s169_28, s169_29, s169_30, s169_31, s169_32, s169_33, s169_34, s169_35, s169_36, s169_37, s169_38, s169_39, s169_40, s169_41, s169_42, Option.toList_some, Option.toList_none, List.cons_append, List.nil_append, Nat.le_refl, true_and, and_true, true_or, or_true, false_or, or_false, true_implies, false_implies, implies_true, not_true_eq_false, not_false_eq_true, eq_self, Nat.reduceLT, Nat.reduceLeDiff, Nat.reduceEqDiff, Nat.reduceAdd, Nat.reduceSub, Int.reduceLT, Int.reduceLE, Int.reduceEq, Int.reduceNeg, Int.reduceNe, Int.reduceAdd, Int.reduceSub, Int.reduceMul, Int.reduceToNat, Int.toNat_zero, Int.toNat_one, Int.toNat_natCast, am_cats, am_cat, am_st1, am_st2, am_clr, up2_na, up2_nj, up2_same, List.getElem?_cons_zero, List.getElem?_cons_succ, List.set_cons_zero, List.set_cons_succ, ne_eq, hb]
    rfl
  · have hb : ¬ b = 0 := fun z => hz ⟨Or.inr rfl, z⟩
    simp only [e169, s169_0, s169_1, s169_2, s169_3, s169_4, s169_5, s169_6, s169_7, s169_8, s169_9, s169_10, s169_11, s169_12, s169_13, s169_14, s169_15, s169_16, s169_17, s169_18, s169_19, s169_20, s169_21, s169_22, s169_23, s169_24, s169_25, s169_26, s169_27, s169_28, s169_29, s169_30, s169_31, s169_32, s169_33, s169_34, s169_35, s169_36, s169_37, s169_38, s169_39, s169_40, s169_41, s169_42, Option.toList_some, Option.toList_none, List.cons_append, List.nil_append, Nat.le_refl, true_and, and_true, true_or, or_true, false_or, or_false, true_implies, false_implies, implies_true, not_true_eq_false, not_false_eq_true, eq_self, Nat.reduceLT, Nat.reduceLeDiff, Nat.reduceEqDiff, Nat.reduceAdd, Nat.reduceSub, Int.reduceLT, Int.reduceLE, Int.reduceEq, Int.reduceNeg, Int.reduceNe, Int.reduceAdd, Int.reduceSub, Int.reduceMul, Int.reduceToNat, Int.toNat_zero, Int.toNat_one, Int.toNat_natCast, am_cats, am_cat, am_st1, am_st2, am_clr, up2_na, up2_nj, up2_same, List.getElem?_cons_zero, List.getElem?_cons_succ, List.set_cons_zero, List.set_cons_succ, ne_eq, hb]
    rfl
  · simp only [e169, s169_0, s169_1, s169_2, s169_3, s169_4, s169_5, s169_6, s169_7, s169_8, s169_9, s169_10, s169_11, s169_12, s169_13, s169_14, s169_15, s169_16, s169_17, s169_18, s169_19, s169_20, s169_21, s169_22, s169_23, s169_24, s169_25, s169_26, s169_27, s169_28, s169_29, s169_30, s169_31, s169_32, s169_33, s169_34, s169_35, s169_36, s169_37, s169_38, s169_39, s169_40, s169_41, s169_42, Option.toList_some, Option.toList_none, List.cons_append, List.nil_append, Nat.le_refl, true_and, and_true, true_or, or_true, false_or, or_false, true_implies, false_implies, implies_true, not_true_eq_false, not_false_eq_true, eq_self, Nat.reduceLT, Nat.reduceLeDiff, Nat.reduceEqDiff, Nat.reduceAdd, Nat.reduceSub, Int.reduceLT, Int.reduceLE, Int.reduceEq, Int.reduceNeg, Int.reduceNe, Int.reduceAdd, Int.reduceSub, Int.reduceMul, Int.reduceToNat, Int.toNat_zero, Int.toNat_one, Int.toNat_natCast, am_cats, am_cat, am_st1, am_st2, am_clr, up2_na, up2_nj, up2_same, List.getElem?_cons_zero, List.getElem?_cons_succ, List.set_cons_zero, List.set_cons_succ, ne_eq]
    exact ⟨fun z => by show _ = some (Sum.inl (if a < b then 1 else 0)); rw [if_pos z], fun z => by show _ = some (Sum.inl (if a < b then 1 else 0)); rw [if_neg z]⟩
  · simp only [e169, s169_0, s169_1, s169_2, s169_3, s169_4, s169_5, s169_6, s169_7, s169_8, s169_9, s169_10, s169_11, s169_12, s169_13, s169_14, s169_15, s169_16, s169_17, s169_18, s169_19, s169_20, s169_21, s169_22, s169_23, s169_24, s169_25, s169_26, s169_27, s169_28, s169_29, s169_30, s169_31, s169_32, s169_33, s169_34, s169_35, s169_36, s169_37, s169_38, s169_39, s169_40, s169_41, s169_42, Option.toList_some, Option.toList_none, List.cons_append, List.nil_append, Nat.le_refl, true_and, and_true, true_or, or_true, false_or, or_false, true_implies, false_implies, implies_true, not_true_eq_false, not_false_eq_true, eq_self, Nat.reduceLT, Nat.reduceLeDiff, Nat.reduceEqDiff, Nat.reduceAdd, Nat.reduceSub, Int.reduceLT, Int.reduceLE, Int.reduceEq, Int.reduceNeg, Int.reduceNe, Int.reduceAdd, Int.reduceSub, Int.reduceMul, Int.reduceToNat, Int.toNat_zero, Int.toNat_one, Int.toNat_natCast, am_cats, am_cat, am_st1, am_st2, am_clr, up2_na, up2_nj, up2_same, List.getElem?_cons_zero, List.getElem?_cons_succ, List.set_cons_zero, List.set_cons_succ, ne_eq]
    exact ⟨fun z => by show _ = some (Sum.inl (if b < a then 1 else 0)); rw [if_pos z], fun z => by show _ = some (Sum.inl (if b < a then 1 else 0)); rw [if_neg z]⟩
  · simp only [e169, s169_0, s169_1, s169_2, s169_3, s169_4, s169_5, s169_6, s169_7, s169_8, s169_9, s169_10, s169_11, s169_12, s169_13, s169_14, s169_15, s169_16, s169_17, s169_18, s169_19, s169_20, s169_21, s169_22, s169_23, s169_24, s169_25, s169_26, s169_27, s169_28, s169_29, s169_30, s169_31, s169_32, s169_33, s169_34, s169_35, s169_36, s169_37, s169_38, s169_39, s169_40, s169_41, s169_42, Option.toList_some, Option.toList_none, List.cons_append, List.nil_append, Nat.le_refl, true_and, and_true, true_or, or_true, false_or, or_false, true_implies, false_implies, implies_true, not_true_eq_false, not_false_eq_true, eq_self, Nat.reduceLT, Nat.reduceLeDiff, Nat.reduceEqDiff, Nat.reduceAdd, Nat.reduceSub, Int.reduceLT, Int.reduceLE, Int.reduceEq, Int.reduceNeg, Int.reduceNe, Int.reduceAdd, Int.reduceSub, Int.reduceMul, Int.reduceToNat, Int.toNat_zero, Int.toNat_one, Int.toNat_natCast, am_cats, am_cat, am_st1, am_st2, am_clr, up2_na, up2_nj, up2_same, List.getElem?_cons_zero, List.getElem?_cons_succ, List.set_cons_zero, List.set_cons_succ, ne_eq]
    exact ⟨fun z => by show _ = some (Sum.inl (if a = b then 1 else 0)); rw [if_pos z], fun z => by show _ = some (Sum.inl (if a = b then 1 else 0)); rw [if_neg z]⟩)
/-- a code of the reference, taken apart -/
def rcd (I : Nat → Nat → Int) (b : Nat) (co : Nat → Int × Int) (i : Nat) : Prop := I 168 (b + i) = 1048576 * (co i).1 + (co i).2
set_option maxHeartbeats 2000000 in
theorem q168 (hm : mdl T R) {co : Nat → Int × Int} {m to : Nat} {ft : Nat → Int} (hto : to ≤ m) (hm2 : m ≤ 160) (hb : b + 180 ≤ 1080) (hc : ∀ j, j < m → rcd I b co j) (hf : ∀ v, v < 9 → I 174 v = ft v) {f0 : Option AV} {i : Nat} {st : List Int} {r : Option Int} (hr : RUN ft co to i st r) : ∀ (S : Nat → Int) (l6 l7 : Option AV), stkA S st → st.length ≤ i → (r = none → ∀ S1 : Nat → Int, Q (some (.inl 0)) (185, s, T, setA I 173 S1, J, R)) → (∀ v, r = some v → ∀ S1 : Nat → Int, Q (some (.inl v)) (185, s, T, setA I 173 S1, J, R)) → wp codeT mX (d + 1) 168 10 [some (.inr (.inr (some 152))), f0, some (.inl ((b + to : Nat) : Int)), some (.inl (st.length : Int)), some (.inl (b : Int)), some (.inl ((b + i : Nat) : Int)), l6, l7] [] (185, s, T, setA I 173 S, J, R) Q := by
  have t152 : T 152 = (12, 53) := hm.1 152 (by decide)
  have t168 : T 168 = (100, 1080) := hm.1 168 (by decide)
  have t173 : T 173 = (100, 180) := hm.1 173 (by decide)
  have t174 : T 174 = (100, 9) := hm.1 174 (by decide)
  have r1 : R 152 31 = some 168 := hm.2 31 168 (by decide +kernel) (by decide)
  have r2 : R 152 36 = some 173 := hm.2 36 173 (by decide +kernel) (by decide)
  have r3 : R 152 37 = some 174 := hm.2 37 174 (by decide +kernel) (by decide)
  have n168 : (168 : Nat) ≠ 173 := by decide
  have n174 : (174 : Nat) ≠ 173 := by decide
  -- what every step has
  have ip : ∀ i : Nat, i < to → ((b + i : Nat) : Int) < ((b + to : Nat) : Int) ∧ 0 ≤ ((b + i : Nat) : Int) ∧ ((b + i : Nat) : Int) < ((1080 : Nat) : Int) ∧ w32 (((b + i : Nat) : Int) + 1) = ((b + (i + 1) : Nat) : Int) := by
    intro i hi
    exact ⟨by omega, by omega, by omega, w32_c (by omega) (by omega)⟩
  refine hr (fun i st r => ∀ (S : Nat → Int) (l6 l7 : Option AV), stkA S st → st.length ≤ i → (r = none → ∀ S1 : Nat → Int, Q (some (.inl 0)) (185, s, T, setA I 173 S1, J, R)) → (∀ v, r = some v → ∀ S1 : Nat → Int, Q (some (.inl v)) (185, s, T, setA I 173 S1, J, R)) → wp codeT mX (d + 1) 168 10 [some (.inr (.inr (some 152))), f0, some (.inl ((b + to : Nat) : Int)), some (.inl (st.length : Int)), some (.inl (b : Int)), some (.inl ((b + i : Nat) : Int)), l6, l7] [] (185, s, T, setA I 173 S, J, R) Q) ⟨fun v => ?_, fun i v st r hi e v0 v1 ih => ?_, fun i v st r hi e hv ih => ?_, fun i a st r hi e ih => ?_, fun i t o a st r hi e ho h3 h4 ih => ?_, fun i t o a st r hi e ho h3 h4 ih => ?_, fun i o a st hi e ho => ?_, fun i o a b' st r hi e ho hz ih => ?_⟩
  · intro S l5 l6 hS hi hN hV
    have fin := hV v rfl S
    have e : S 0 = v := hS.1
    rw [← e] at fin
    refine s168_10.mpr ?_
    simp only [s168_11, s168_12, s168_136, s168_137, s168_138, s168_139, s168_140, Option.toList_some, Option.toList_none, List.cons_append, List.nil_append, Nat.le_refl, true_and, and_true, true_or, or_true, false_or, or_false, true_implies, false_implies, implies_true, not_true_eq_false, not_false_eq_true, eq_self, Nat.reduceLT, Nat.reduceLeDiff, Nat.reduceEqDiff, Nat.reduceAdd, Nat.reduceSub, Int.reduceLT, Int.reduceLE, Int.reduceEq, Int.reduceNeg, Int.reduceNe, Int.reduceAdd, Int.reduceSub, Int.reduceMul, Int.reduceToNat, Int.toNat_zero, Int.toNat_one, Int.toNat_natCast, am_cats, am_cat, am_st1, am_st2, am_clr, up2_na, up2_nj, up2_same, List.getElem?_cons_zero, List.getElem?_cons_succ, List.set_cons_zero, List.set_cons_succ, ne_eq, t152, t173, r2, setA_same, Int.lt_irrefl]
    exact ⟨by decide, fin⟩
  · intro S l5 l6 hS hl2 hN hV
    have nx := fun l5 l6 => ih (sx S st.length v) l5 l6 (stkA_p hS) (Nat.succ_le_succ hl2) hN hV
    have hcc : rcd I b co i := hc i (by omega)
    unfold rcd at hcc
    rw [e] at hcc
    have hn : 0 ≤ (st.length : Int) ∧ (st.length : Int) < ((180 : Nat) : Int) := by omega
    have i2 : st.length ≤ 1080 := by omega
    obtain ⟨q1, q2⟩ := cod_op (o := 0) (v := v) hcc (by decide) ⟨v0, v1⟩
    obtain ⟨p1, p2, p3, p4⟩ := ip i hi
    refine s168_10.mpr ?_
    simp only [s168_11, s168_12, s168_13, s168_14, s168_15, s168_16, s168_17, s168_18, s168_19, s168_20, s168_21, s168_22, s168_23, s168_24, s168_25, s168_26, s168_27, s168_28, s168_29, s168_30, s168_31, s168_32, s168_33, s168_34, s168_35, s168_36, s168_37, s168_38, s168_39, s168_40, s168_41, s168_42, s168_47, s168_48, s168_49, s168_50, s168_51, s168_52, s168_135, Option.toList_some, Option.toList_none, List.cons_append, List.nil_append, Nat.le_refl, true_and, and_true, true_or, or_true, false_or, or_false, true_implies, false_implies, implies_true, not_true_eq_false, not_false_eq_true, eq_self, Nat.reduceLT, Nat.reduceLeDiff, Nat.reduceEqDiff, Nat.reduceAdd, Nat.reduceSub, Int.reduceLT, Int.reduceLE, Int.reduceEq, Int.reduceNeg, Int.reduceNe, Int.reduceAdd, Int.reduceSub, Int.reduceMul, Int.reduceToNat, Int.toNat_zero, Int.toNat_one, Int.toNat_natCast, am_cats, am_cat, am_st1, am_st2, am_clr, up2_na, up2_nj, up2_same, List.getElem?_cons_zero, List.getElem?_cons_succ, List.set_cons_zero, List.set_cons_succ, ne_eq, t152, t168, t173, r1, r2, setA_same, setA_ne n168, setA_up, p1, p2, p3, p4, q1, q2, hn, w32_s i2]
    exact nx _ _
  · intro S l5 l6 hS hl2 hN hV
    have nx := fun l5 l6 => ih (sx S st.length (ft v)) l5 l6 (stkA_p hS) (Nat.succ_le_succ hl2) hN hV
    have hcc : rcd I b co i := hc i (by omega)
    unfold rcd at hcc
    rw [e] at hcc
    have hn : 0 ≤ (st.length : Int) ∧ (st.length : Int) < ((180 : Nat) : Int) := by omega
    have i2 : st.length ≤ 1080 := by omega
    have dv : 0 ≤ (v : Int) ∧ (v : Int) < ((9 : Nat) : Int) := by omega
    obtain ⟨q1, q2⟩ := cod_op (o := 1) (v := (v : Int)) hcc (by decide) ⟨by omega, by omega⟩
    obtain ⟨p1, p2, p3, p4⟩ := ip i hi
    refine s168_10.mpr ?_
    simp only [s168_11, s168_12, s168_13, s168_14, s168_15, s168_16, s168_17, s168_18, s168_19, s168_20, s168_21, s168_22, s168_23, s168_24, s168_25, s168_26, s168_27, s168_28, s168_29, s168_30, s168_31, s168_32, s168_33, s168_34, s168_35, s168_36, s168_37, s168_38, s168_39, s168_40, s168_43, s168_44, s168_45, s168_46, s168_47, s168_48, s168_49, s168_50, s168_51, s168_52, s168_135, Option.toList_some, Option.toList_none, List.cons_append, List.nil_append, Nat.le_refl, true_and, and_true, true_or, or_true, false_or, or_false, true_implies, false_implies, implies_true, not_true_eq_false, not_false_eq_true, eq_self, Nat.reduceLT, Nat.reduceLeDiff, Nat.reduceEqDiff, Nat.reduceAdd, Nat.reduceSub, Int.reduceLT, Int.reduceLE, Int.reduceEq, Int.reduceNeg, Int.reduceNe, Int.reduceAdd, Int.reduceSub, Int.reduceMul, Int.reduceToNat, Int.toNat_zero, Int.toNat_one, Int.toNat_natCast, am_cats, am_cat, am_st1, am_st2, am_clr, up2_na, up2_nj, up2_same, List.getElem?_cons_zero, List.getElem?_cons_succ, List.set_cons_zero, List.set_cons_succ, ne_eq, t152, t168, t173, t174, r1, r2, r3, setA_same, setA_ne n168, setA_ne n174, setA_up, p1, p2, p3, p4, q1, q2, hn, dv, hf v hv, w32_s i2]
    exact nx _ _
  · intro S l5 l6 hS hl2 hN hV
    have nx := fun l5 l6 => ih (sx S st.length (w32 (1 - a))) l5 l6 (stkA_p hS.2) (Nat.le_succ_of_le hl2) hN hV
    have hl2 : st.length + 1 ≤ i := hl2
    have hcc : rcd I b co i := hc i (by omega)
    unfold rcd at hcc
    rw [e] at hcc
    have hn : 0 ≤ (st.length : Int) ∧ (st.length : Int) < ((180 : Nat) : Int) := by omega
    have ha : S st.length = a := hS.1
    have o1 : ((st.length + 1 : Nat) : Int) - 1 = (st.length : Int) := by omega
    have w1 := w32_c o1 (by omega)
    obtain ⟨q1, q2⟩ := cod_op (o := 10) (v := 0) hcc (by decide) (by decide)
    obtain ⟨p1, p2, p3, p4⟩ := ip i hi
    refine s168_10.mpr ?_
    show wp codeT mX (d + 1) 168 11 _ _ _ Q
    simp only [List.length_cons, s168_11, s168_12, s168_13, s168_14, s168_15, s168_16, s168_17, s168_18, s168_19, s168_20, s168_21, s168_22, s168_23, s168_24, s168_25, s168_26, s168_27, s168_28, s168_29, s168_30, s168_31, s168_32, s168_33, s168_34, s168_35, s168_53, s168_54, s168_55, s168_56, s168_57, s168_58, s168_59, s168_60, s168_61, s168_62, s168_63, s168_64, s168_65, s168_66, s168_67, s168_68, s168_69, s168_70, s168_135, Option.toList_some, Option.toList_none, List.cons_append, List.nil_append, Nat.le_refl, true_and, and_true, true_or, or_true, false_or, or_false, true_implies, false_implies, implies_true, not_true_eq_false, not_false_eq_true, eq_self, Nat.reduceLT, Nat.reduceLeDiff, Nat.reduceEqDiff, Nat.reduceAdd, Nat.reduceSub, Int.reduceLT, Int.reduceLE, Int.reduceEq, Int.reduceNeg, Int.reduceNe, Int.reduceAdd, Int.reduceSub, Int.reduceMul, Int.reduceToNat, Int.toNat_zero, Int.toNat_one, Int.toNat_natCast, am_cats, am_cat, am_st1, am_st2, am_clr, up2_na, up2_nj, up2_same, List.getElem?_cons_zero, List.getElem?_cons_succ, List.set_cons_zero, List.set_cons_succ, ne_eq, t152, t168, t173, r1, r2, setA_same, setA_ne n168, setA_up, p1, p2, p3, p4, q1, q2, hn, w1, ha]
    exact nx _ _
  · intro S l5 l6 hS hl2 hN hV
    have nx := fun l5 l6 => ih S l5 l6 hS (show st.length + 1 ≤ t by have hl2 : st.length + 1 ≤ i := hl2; omega) hN hV
    have hl2 : st.length + 1 ≤ i := hl2
    have hcc : rcd I b co i := hc i (by omega)
    unfold rcd at hcc
    rw [e] at hcc
    have hn : 0 ≤ (st.length : Int) ∧ (st.length : Int) < ((180 : Nat) : Int) := by omega
    have ha : S st.length = a := hS.1
    have o1 : ((st.length + 1 : Nat) : Int) - 1 = (st.length : Int) := by omega
    have w1 := w32_c o1 (by omega)
    have g1 : (b : Int) + (t : Int) = ((b + t : Nat) : Int) := by omega
    have w2 := w32_c g1 (by omega)
    obtain ⟨q1, q2⟩ := cod_op (o := o) (v := (t : Int)) hcc (by omega) (by omega)
    obtain ⟨p1, p2, p3, p4⟩ := ip i hi
    refine s168_10.mpr ?_
    show wp codeT mX (d + 1) 168 11 _ _ _ Q
    rcases ho with ⟨rfl, rfl⟩ | ⟨rfl, rfl⟩
    · simp only [List.length_cons, s168_11, s168_12, s168_13, s168_14, s168_15, s168_16, s168_17, s168_18, s168_19, s168_20, s168_21, s168_22, s168_23, s168_24, s168_25, s168_26, s168_27, s168_28, s168_29, s168_30, s168_31, s168_32, s168_33, s168_34, s168_35, s168_53, s168_54, s168_55, s168_71, s168_72, s168_73, s168_74, s168_75, s168_76, s168_77, s168_78, s168_79, s168_80, s168_81, s168_82, s168_83, s168_84, s168_85, s168_88, s168_89, s168_90, s168_91, s168_92, s168_93, s168_94, s168_135, Option.toList_some, Option.toList_none, List.cons_append, List.nil_append, Nat.le_refl, true_and, and_true, true_or, or_true, false_or, or_false, true_implies, false_implies, implies_true, not_true_eq_false, not_false_eq_true, eq_self, Nat.reduceLT, Nat.reduceLeDiff, Nat.reduceEqDiff, Nat.reduceAdd, Nat.reduceSub, Int.reduceLT, Int.reduceLE, Int.reduceEq, Int.reduceNeg, Int.reduceNe, Int.reduceAdd, Int.reduceSub, Int.reduceMul, Int.reduceToNat, Int.toNat_zero, Int.toNat_one, Int.toNat_natCast, am_cats, am_cat, am_st1, am_st2, am_clr, up2_na, up2_nj, up2_same, List.getElem?_cons_zero, List.getElem?_cons_succ, List.set_cons_zero, List.set_cons_succ, ne_eq, t152, t168, t173, r1, r2, setA_same, setA_ne n168, p1, p2, p3, p4, q1, q2, hn, w1, w2, ha]
      exact nx _ _
    · simp only [List.length_cons, s168_11, s168_12, s168_13, s168_14, s168_15, s168_16, s168_17, s168_18, s168_19, s168_20, s168_21, s168_22, s168_23, s168_24, s168_25, s168_26, s168_27, s168_28, s168_29, s168_30, s168_31, s168_32, s168_33, s168_34, s168_35, s168_53, s168_54, s168_55, s168_71, s168_72, s168_73, s168_74, s168_75, s168_76, s168_77, s168_78, s168_79, s168_80, s168_81, s168_82, s168_83, s168_84, s168_85, s168_86, s168_87, s168_88, s168_89, s168_90, s168_91, s168_92, s168_93, s168_94, s168_135, Option.toList_some, Option.toList_none, List.cons_append, List.nil_append, Nat.le_refl, true_and, and_true, true_or, or_true, false_or, or_false, true_implies, false_implies, implies_true, not_true_eq_false, not_false_eq_true, eq_self, Nat.reduceLT, Nat.reduceLeDiff, Nat.reduceEqDiff, Nat.reduceAdd, Nat.reduceSub, Int.reduceLT, Int.reduceLE, Int.reduceEq, Int.reduceNeg, Int.reduceNe, Int.reduceAdd, Int.reduceSub, Int.reduceMul, Int.reduceToNat, Int.toNat_zero, Int.toNat_one, Int.toNat_natCast, am_cats, am_cat, am_st1, am_st2, am_clr, up2_na, up2_nj, up2_same, List.getElem?_cons_zero, List.getElem?_cons_succ, List.set_cons_zero, List.set_cons_succ, ne_eq, t152, t168, t173, r1, r2, setA_same, setA_ne n168, p1, p2, p3, p4, q1, q2, hn, w1, w2, ha]
      exact nx _ _
  · intro S l5 l6 hS hl2 hN hV
    have nx := fun l5 l6 => ih S l5 l6 hS.2 (show st.length ≤ i + 1 by have hl2 : st.length + 1 ≤ i := hl2; omega) hN hV
    have hl2 : st.length + 1 ≤ i := hl2
    have hcc : rcd I b co i := hc i (by omega)
    unfold rcd at hcc
    rw [e] at hcc
    have hn : 0 ≤ (st.length : Int) ∧ (st.length : Int) < ((180 : Nat) : Int) := by omega
    have ha : S st.length = a := hS.1
    have o1 : ((st.length + 1 : Nat) : Int) - 1 = (st.length : Int) := by omega
    have w1 := w32_c o1 (by omega)
    obtain ⟨q1, q2⟩ := cod_op (o := o) (v := (t : Int)) hcc (by omega) (by omega)
    obtain ⟨p1, p2, p3, p4⟩ := ip i hi
    refine s168_10.mpr ?_
    show wp codeT mX (d + 1) 168 11 _ _ _ Q
    rcases ho with ⟨rfl, rfl⟩ | ⟨rfl, rfl⟩
    · simp only [List.length_cons, s168_11, s168_12, s168_13, s168_14, s168_15, s168_16, s168_17, s168_18, s168_19, s168_20, s168_21, s168_22, s168_23, s168_24, s168_25, s168_26, s168_27, s168_28, s168_29, s168_30, s168_31, s168_32, s168_33, s168_34, s168_35, s168_53, s168_54, s168_55, s168_71, s168_72, s168_73, s168_74, s168_75, s168_76, s168_77, s168_78, s168_79, s168_80, s168_81, s168_82, s168_83, s168_84, s168_85, s168_88, s168_89, s168_95, s168_96, s168_97, s168_98, s168_99, s168_135, Option.toList_some, Option.toList_none, List.cons_append, List.nil_append, Nat.le_refl, true_and, and_true, true_or, or_true, false_or, or_false, true_implies, false_implies, implies_true, not_true_eq_false, not_false_eq_true, eq_self, Nat.reduceLT, Nat.reduceLeDiff, Nat.reduceEqDiff, Nat.reduceAdd, Nat.reduceSub, Int.reduceLT, Int.reduceLE, Int.reduceEq, Int.reduceNeg, Int.reduceNe, Int.reduceAdd, Int.reduceSub, Int.reduceMul, Int.reduceToNat, Int.toNat_zero, Int.toNat_one, Int.toNat_natCast, am_cats, am_cat, am_st1, am_st2, am_clr, up2_na, up2_nj, up2_same, List.getElem?_cons_zero, List.getElem?_cons_succ, List.set_cons_zero, List.set_cons_succ, ne_eq, t152, t168, t173, r1, r2, setA_same, setA_ne n168, p1, p2, p3, p4, q1, q2, hn, w1, ha]
      exact nx _ _
    · simp only [List.length_cons, s168_11, s168_12, s168_13, s168_14, s168_15, s168_16, s168_17, s168_18, s168_19, s168_20, s168_21, s168_22, s168_23, s168_24, s168_25, s168_26, s168_27, s168_28, s168_29, s168_30, s168_31, s168_32, s168_33, s168_34, s168_35, s168_53, s168_54, s168_55, s168_71, s168_72, s168_73, s168_74, s168_75, s168_76, s168_77, s168_78, s168_79, s168_80, s168_81, s168_82, s168_83, s168_84, s168_85, s168_86, s168_87, s168_88, s168_89, s168_95, s168_96, s168_97, s168_98, s168_99, s168_135, Option.toList_some, Option.toList_none, List.cons_append, List.nil_append, Nat.le_refl, true_and, and_true, true_or, or_true, false_or, or_false, true_implies, false_implies, implies_true, not_true_eq_false, not_false_eq_true, eq_self, Nat.reduceLT, Nat.reduceLeDiff, Nat.reduceEqDiff, Nat.reduceAdd, Nat.reduceSub, Int.reduceLT, Int.reduceLE, Int.reduceEq, Int.reduceNeg, Int.reduceNe, Int.reduceAdd, Int.reduceSub, Int.reduceMul, Int.reduceToNat, Int.toNat_zero, Int.toNat_one, Int.toNat_natCast, am_cats, am_cat, am_st1, am_st2, am_clr, up2_na, up2_nj, up2_same, List.getElem?_cons_zero, List.getElem?_cons_succ, List.set_cons_zero, List.set_cons_succ, ne_eq, t152, t168, t173, r1, r2, setA_same, setA_ne n168, p1, p2, p3, p4, q1, q2, hn, w1, ha]
      exact nx _ _
  · intro S l5 l6 hS hl2 hN hV
    have hl2 : st.length + 1 + 1 ≤ i := hl2
    have fin := hN rfl S
    have hcc : rcd I b co i := hc i (by omega)
    unfold rcd at hcc
    rw [e] at hcc
    have hn : 0 ≤ ((st.length + 1 : Nat) : Int) ∧ ((st.length + 1 : Nat) : Int) < ((180 : Nat) : Int) := by omega
    have hb0 : S (st.length + 1) = 0 := hS.1
    have o1 : ((st.length + 1 + 1 : Nat) : Int) - 1 = ((st.length + 1 : Nat) : Int) := by omega
    have w1 := w32_c o1 (by omega)
    obtain ⟨q1, q2⟩ := cod_op (o := o) (v := 0) hcc (by omega) (by omega)
    obtain ⟨p1, p2, p3, p4⟩ := ip i hi
    refine s168_10.mpr ?_
    show wp codeT mX (d + 1) 168 11 _ _ _ Q
    rcases ho with rfl | rfl
    · simp only [List.length_cons, s168_11, s168_12, s168_13, s168_14, s168_15, s168_16, s168_17, s168_18, s168_19, s168_20, s168_21, s168_22, s168_23, s168_24, s168_25, s168_26, s168_27, s168_28, s168_29, s168_30, s168_31, s168_32, s168_33, s168_34, s168_35, s168_53, s168_54, s168_55, s168_71, s168_72, s168_73, s168_74, s168_75, s168_76, s168_100, s168_101, s168_102, s168_103, s168_104, s168_105, s168_106, s168_107, s168_108, s168_109, s168_110, s168_111, s168_112, s168_113, s168_114, s168_115, s168_116, Option.toList_some, Option.toList_none, List.cons_append, List.nil_append, Nat.le_refl, true_and, and_true, true_or, or_true, false_or, or_false, true_implies, false_implies, implies_true, not_true_eq_false, not_false_eq_true, eq_self, Nat.reduceLT, Nat.reduceLeDiff, Nat.reduceEqDiff, Nat.reduceAdd, Nat.reduceSub, Int.reduceLT, Int.reduceLE, Int.reduceEq, Int.reduceNeg, Int.reduceNe, Int.reduceAdd, Int.reduceSub, Int.reduceMul, Int.reduceToNat, Int.toNat_zero, Int.toNat_one, Int.toNat_natCast, am_cats, am_cat, am_st1, am_st2, am_clr, up2_na, up2_nj, up2_same, List.getElem?_cons_zero, List.getElem?_cons_succ, List.set_cons_zero, List.set_cons_succ, ne_eq, t152, t168, t173, r1, r2, setA_same, setA_ne n168, p1, p2, p3, p4, q1, q2, hn, w1, hb0]
      exact fin
    · simp only [List.length_cons, s168_11, s168_12, s168_13, s168_14, s168_15, s168_16, s168_17, s168_18, s168_19, s168_20, s168_21, s168_22, s168_23, s168_24, s168_25, s168_26, s168_27, s168_28, s168_29, s168_30, s168_31, s168_32, s168_33, s168_34, s168_35, s168_53, s168_54, s168_55, s168_71, s168_72, s168_73, s168_74, s168_75, s168_76, s168_100, s168_101, s168_102, s168_103, s168_104, s168_105, s168_106, s168_107, s168_108, s168_109, s168_110, s168_111, s168_112, s168_113, s168_114, s168_115, s168_116, Option.toList_some, Option.toList_none, List.cons_append, List.nil_append, Nat.le_refl, true_and, and_true, true_or, or_true, false_or, or_false, true_implies, false_implies, implies_true, not_true_eq_false, not_false_eq_true, eq_self, Nat.reduceLT, Nat.reduceLeDiff, Nat.reduceEqDiff, Nat.reduceAdd, Nat.reduceSub, Int.reduceLT, Int.reduceLE, Int.reduceEq, Int.reduceNeg, Int.reduceNe, Int.reduceAdd, Int.reduceSub, Int.reduceMul, Int.reduceToNat, Int.toNat_zero, Int.toNat_one, Int.toNat_natCast, am_cats, am_cat, am_st1, am_st2, am_clr, up2_na, up2_nj, up2_same, List.getElem?_cons_zero, List.getElem?_cons_succ, List.set_cons_zero, List.set_cons_succ, ne_eq, t152, t168, t173, r1, r2, setA_same, setA_ne n168, p1, p2, p3, p4, q1, q2, hn, w1, hb0]
      exact fin
  · intro S l5 l6 hS hl2 hN hV
    have hl2 : st.length + 1 + 1 ≤ i := hl2
    have nx := fun l5 l6 => ih (sx S st.length (rkn o a b')) l5 l6 (stkA_p hS.2.2) (show st.length + 1 ≤ i + 1 by omega) hN hV
    have hcc : rcd I b co i := hc i (by omega)
    unfold rcd at hcc
    rw [e] at hcc
    have hn : 0 ≤ ((st.length + 1 : Nat) : Int) ∧ ((st.length + 1 : Nat) : Int) < ((180 : Nat) : Int) := by omega
    have hn0 : 0 ≤ (st.length : Int) ∧ (st.length : Int) < ((180 : Nat) : Int) := by omega
    have hb0 : S (st.length + 1) = b' := hS.1
    have ha : S st.length = a := hS.2.1
    have o1 : ((st.length + 1 + 1 : Nat) : Int) - 1 = ((st.length + 1 : Nat) : Int) := by omega
    have w1 := w32_c o1 (by omega)
    have o2 : ((st.length + 1 : Nat) : Int) - 1 = (st.length : Int) := by clear w1; omega
    have w2 := w32_c o2 (by clear w1; omega)
    obtain ⟨q1, q2⟩ := cod_op (o := o) (v := 0) hcc (by clear w1 w2; omega) (by decide)
    obtain ⟨p1, p2, p3, p4⟩ := ip i hi
    have j0 : ¬ o = 0 ∧ ¬ o = 1 ∧ ¬ o = 10 ∧ ¬ o = 11 ∧ ¬ o = 12 := by clear w1 w2 q1 q2 p4; omega
    obtain ⟨j0, j1, j10, j11, j12⟩ := j0
    refine s168_10.mpr ?_
    show wp codeT mX (d + 1) 168 11 _ _ _ Q
    have fin : wp codeT mX (d + 1) 168 117 [some (.inr (.inr (some 152))), f0, some (.inl ((b + to : Nat) : Int)), some (.inl ((st.length + 1 : Nat) : Int)), some (.inl (b : Int)), some (.inl ((b + (i + 1) : Nat) : Int)), some (.inl o), some (.inl 0)] [] (185, s, T, setA I 173 S, J, R) Q := by
      refine s168_117.mpr ?_
      simp only [s168_118, s168_119, s168_120, s168_121, s168_122, s168_123, s168_124, s168_125, s168_126, s168_127, s168_128, s168_129, s168_130, s168_131, s168_132, s168_133, s168_134, s168_135, Option.toList_some, Option.toList_none, List.cons_append, List.nil_append, Nat.le_refl, true_and, and_true, true_or, or_true, false_or, or_false, true_implies, false_implies, implies_true, not_true_eq_false, not_false_eq_true, eq_self, Nat.reduceLT, Nat.reduceLeDiff, Nat.reduceEqDiff, Nat.reduceAdd, Nat.reduceSub, Int.reduceLT, Int.reduceLE, Int.reduceEq, Int.reduceNeg, Int.reduceNe, Int.reduceAdd, Int.reduceSub, Int.reduceMul, Int.reduceToNat, Int.toNat_zero, Int.toNat_one, Int.toNat_natCast, am_cats, am_cat, am_st1, am_st2, am_clr, up2_na, up2_nj, up2_same, List.getElem?_cons_zero, List.getElem?_cons_succ, List.set_cons_zero, List.set_cons_succ, ne_eq, t152, t173, r2, setA_same, setA_up, hn, hn0, w2, hb0, ha, k169 ho hz]
      exact nx _ _
    by_cases z5 : o = 5
    · have hz0 : ¬ b' = 0 := fun z => hz ⟨Or.inl z5, z⟩
      simp only [List.length_cons, s168_11, s168_12, s168_13, s168_14, s168_15, s168_16, s168_17, s168_18, s168_19, s168_20, s168_21, s168_22, s168_23, s168_24, s168_25, s168_26, s168_27, s168_28, s168_29, s168_30, s168_31, s168_32, s168_33, s168_34, s168_35, s168_53, s168_54, s168_55, s168_71, s168_72, s168_73, s168_74, s168_75, s168_76, s168_100, s168_101, s168_102, s168_103, s168_104, s168_105, s168_106, s168_110, s168_111, s168_112, s168_113, s168_114, Option.toList_some, Option.toList_none, List.cons_append, List.nil_append, Nat.le_refl, true_and, and_true, true_or, or_true, false_or, or_false, true_implies, false_implies, implies_true, not_true_eq_false, not_false_eq_true, eq_self, Nat.reduceLT, Nat.reduceLeDiff, Nat.reduceEqDiff, Nat.reduceAdd, Nat.reduceSub, Int.reduceLT, Int.reduceLE, Int.reduceEq, Int.reduceNeg, Int.reduceNe, Int.reduceAdd, Int.reduceSub, Int.reduceMul, Int.reduceToNat, Int.toNat_zero, Int.toNat_one, Int.toNat_natCast, am_cats, am_cat, am_st1, am_st2, am_clr, up2_na, up2_nj, up2_same, List.getElem?_cons_zero, List.getElem?_cons_succ, List.set_cons_zero, List.set_cons_succ, ne_eq, t152, t168, t173, r1, r2, setA_same, setA_ne n168, p1, p2, p3, p4, q1, q2, hn, w1, hb0, j0, j1, j10, j11, j12, z5, hz0]
      subst z5
      exact fin
    · by_cases z6 : o = 6
      · have hz0 : ¬ b' = 0 := fun z => hz ⟨Or.inr z6, z⟩
        simp only [List.length_cons, s168_11, s168_12, s168_13, s168_14, s168_15, s168_16, s168_17, s168_18, s168_19, s168_20, s168_21, s168_22, s168_23, s168_24, s168_25, s168_26, s168_27, s168_28, s168_29, s168_30, s168_31, s168_32, s168_33, s168_34, s168_35, s168_53, s168_54, s168_55, s168_71, s168_72, s168_73, s168_74, s168_75, s168_76, s168_100, s168_101, s168_102, s168_103, s168_104, s168_105, s168_106, s168_107, s168_108, s168_109, s168_110, s168_111, s168_112, s168_113, s168_114, Option.toList_some, Option.toList_none, List.cons_append, List.nil_append, Nat.le_refl, true_and, and_true, true_or, or_true, false_or, or_false, true_implies, false_implies, implies_true, not_true_eq_false, not_false_eq_true, eq_self, Nat.reduceLT, Nat.reduceLeDiff, Nat.reduceEqDiff, Nat.reduceAdd, Nat.reduceSub, Int.reduceLT, Int.reduceLE, Int.reduceEq, Int.reduceNeg, Int.reduceNe, Int.reduceAdd, Int.reduceSub, Int.reduceMul, Int.reduceToNat, Int.toNat_zero, Int.toNat_one, Int.toNat_natCast, am_cats, am_cat, am_st1, am_st2, am_clr, up2_na, up2_nj, up2_same, List.getElem?_cons_zero, List.getElem?_cons_succ, List.set_cons_zero, List.set_cons_succ, ne_eq, t152, t168, t173, r1, r2, setA_same, setA_ne n168, p1, p2, p3, p4, q1, q2, hn, w1, hb0, j0, j1, j10, j11, j12, z5, z6, hz0]
        subst z6
        exact fin
      · simp only [List.length_cons, s168_11, s168_12, s168_13, s168_14, s168_15, s168_16, s168_17, s168_18, s168_19, s168_20, s168_21, s168_22, s168_23, s168_24, s168_25, s168_26, s168_27, s168_28, s168_29, s168_30, s168_31, s168_32, s168_33, s168_34, s168_35, s168_53, s168_54, s168_55, s168_71, s168_72, s168_73, s168_74, s168_75, s168_76, s168_100, s168_101, s168_102, s168_103, s168_104, s168_105, s168_106, s168_107, s168_108, s168_109, Option.toList_some, Option.toList_none, List.cons_append, List.nil_append, Nat.le_refl, true_and, and_true, true_or, or_true, false_or, or_false, true_implies, false_implies, implies_true, not_true_eq_false, not_false_eq_true, eq_self, Nat.reduceLT, Nat.reduceLeDiff, Nat.reduceEqDiff, Nat.reduceAdd, Nat.reduceSub, Int.reduceLT, Int.reduceLE, Int.reduceEq, Int.reduceNeg, Int.reduceNe, Int.reduceAdd, Int.reduceSub, Int.reduceMul, Int.reduceToNat, Int.toNat_zero, Int.toNat_one, Int.toNat_natCast, am_cats, am_cat, am_st1, am_st2, am_clr, up2_na, up2_nj, up2_same, List.getElem?_cons_zero, List.getElem?_cons_succ, List.set_cons_zero, List.set_cons_succ, ne_eq, t152, t168, r1, setA_ne n168, p1, p2, p3, p4, q1, q2, w1, j0, j1, j10, j11, j12, z5, z6]
        exact fin
theorem k168 (hm : mdl T R) {k : Nat} (hk : k < 6) {co : Nat → Int × Int} {m to : Nat} {ft : Nat → Int} (hto : to ≤ m) (hm2 : m ≤ 160) (hc : ∀ j, j < m → rcd I (180 * k) co j) (hf : ∀ v, v < 9 → I 174 v = ft v) {i : Nat} (hi : i ≤ 160) {S : Nat → Int} {r : Option Int} (hr : RUN ft co to i [] r) (hN : r = none → ∀ S1 : Nat → Int, Q (some (.inl 0)) (185, s, T, setA I 173 S1, J, R)) (hV : ∀ v, r = some v → ∀ S1 : Nat → Int, Q (some (.inl v)) (185, s, T, setA I 173 S1, J, R)) : wpc codeT mX (d + 1) 168 [.inr (.inr (some 152)), .inl ((180 * k + i : Nat) : Int), .inl ((180 * k + to : Nat) : Int)] (185, s, T, setA I 173 S, J, R) Q := by
  have fin := q168 (d := d) (s := s) (J := J) (Q := Q) (f0 := some (.inl ((180 * k + i : Nat) : Int))) (b := 180 * k) hm hto hm2 (by omega) hc hf hr S none none trivial (Nat.zero_le _) hN hV
  have e : w32 (180 * w32 (Int.tdiv ((180 * k + i : Nat) : Int) 180)) = ((180 * k : Nat) : Int) := by
    have e0 : Int.tdiv ((180 * k + i : Nat) : Int) 180 = (k : Int) := by
      rw [Int.tdiv_eq_ediv_of_nonneg (by omega)]
      omega
    rw [e0, w32_eq (z := (k : Int)) (by omega) (by omega)]
    exact w32_c (by omega) (by omega)
  simp only [s168_0, s168_1, s168_2, s168_3, s168_4, s168_5, s168_6, s168_7, s168_8, s168_9, e168, Option.toList_some, Option.toList_none, List.cons_append, List.nil_append, Nat.le_refl, true_and, and_true, true_or, or_true, false_or, or_false, true_implies, false_implies, implies_true, not_true_eq_false, not_false_eq_true, eq_self, Nat.reduceLT, Nat.reduceLeDiff, Nat.reduceEqDiff, Nat.reduceAdd, Nat.reduceSub, Int.reduceLT, Int.reduceLE, Int.reduceEq, Int.reduceNeg, Int.reduceNe, Int.reduceAdd, Int.reduceSub, Int.reduceMul, Int.reduceToNat, Int.toNat_zero, Int.toNat_one, Int.toNat_natCast, am_cats, am_cat, am_st1, am_st2, am_clr, up2_na, up2_nj, up2_same, List.getElem?_cons_zero, List.getElem?_cons_succ, List.set_cons_zero, List.set_cons_succ, ne_eq, e]
  exact fin
end
/-- what a store gives -/
def gvF (v sh : Int) : Int := w32 (Int.tdiv (w32 (v * sh)) 100)
section
variable {d s : Nat} {T : Nat → Nat × Nat} {I J : Nat → Nat → Int} {R : Nat → Nat → Option Nat} {Q : Option AV → AH → Prop}
theorem e167x {g : AH} {k sh : Option AV} {z h : Int} {l4 : Option AV} (hQ : Q (some (.inl (gvF (clm z) h))) g) : wp codeT mX d 167 50 [some (.inr (.inr (some 152))), k, some (.inl h), some (.inl z), l4] [] g Q := by
  refine s167_50.mpr ?_
  by_cases z0 : z < 0
  · have e : clm z = 0 := if_pos z0
    rw [e] at hQ
    simp only [s167_51, s167_52, s167_53, s167_54, s167_55, s167_56, s167_57, s167_58, s167_59, s167_60, s167_61, s167_62, s167_63, s167_64, s167_65, s167_66, Option.toList_some, Option.toList_none, List.cons_append, List.nil_append, Nat.le_refl, true_and, and_true, true_or, or_true, false_or, or_false, true_implies, false_implies, implies_true, not_true_eq_false, not_false_eq_true, eq_self, Nat.reduceLT, Nat.reduceLeDiff, Nat.reduceEqDiff, Nat.reduceAdd, Nat.reduceSub, Int.reduceLT, Int.reduceLE, Int.reduceEq, Int.reduceNeg, Int.reduceNe, Int.reduceAdd, Int.reduceSub, Int.reduceMul, Int.reduceToNat, Int.toNat_zero, Int.toNat_one, Int.toNat_natCast, am_cats, am_cat, am_st1, am_st2, am_clr, up2_na, up2_nj, up2_same, List.getElem?_cons_zero, List.getElem?_cons_succ, List.set_cons_zero, List.set_cons_succ, ne_eq, z0]
    exact hQ
  · by_cases z1 : 100 < z
    · have e : clm z = 100 := (if_neg z0).trans (if_pos z1)
      rw [e] at hQ
      simp only [s167_51, s167_52, s167_53, s167_54, s167_55, s167_56, s167_57, s167_58, s167_59, s167_60, s167_61, s167_62, s167_63, s167_64, s167_65, s167_66, Option.toList_some, Option.toList_none, List.cons_append, List.nil_append, Nat.le_refl, true_and, and_true, true_or, or_true, false_or, or_false, true_implies, false_implies, implies_true, not_true_eq_false, not_false_eq_true, eq_self, Nat.reduceLT, Nat.reduceLeDiff, Nat.reduceEqDiff, Nat.reduceAdd, Nat.reduceSub, Int.reduceLT, Int.reduceLE, Int.reduceEq, Int.reduceNeg, Int.reduceNe, Int.reduceAdd, Int.reduceSub, Int.reduceMul, Int.reduceToNat, Int.toNat_zero, Int.toNat_one, Int.toNat_natCast, am_cats, am_cat, am_st1, am_st2, am_clr, up2_na, up2_nj, up2_same, List.getElem?_cons_zero, List.getElem?_cons_succ, List.set_cons_zero, List.set_cons_succ, ne_eq, z0, z1]
      exact hQ
    · have e : clm z = z := (if_neg z0).trans (if_neg z1)
      rw [e] at hQ
      simp only [s167_51, s167_52, s167_53, s167_54, s167_55, s167_56, s167_57, s167_58, s167_59, s167_60, s167_61, s167_62, s167_63, s167_64, s167_65, s167_66, Option.toList_some, Option.toList_none, List.cons_append, List.nil_append, Nat.le_refl, true_and, and_true, true_or, or_true, false_or, or_false, true_implies, false_implies, implies_true, not_true_eq_false, not_false_eq_true, eq_self, Nat.reduceLT, Nat.reduceLeDiff, Nat.reduceEqDiff, Nat.reduceAdd, Nat.reduceSub, Int.reduceLT, Int.reduceLE, Int.reduceEq, Int.reduceNeg, Int.reduceNe, Int.reduceAdd, Int.reduceSub, Int.reduceMul, Int.reduceToNat, Int.toNat_zero, Int.toNat_one, Int.toNat_natCast, am_cats, am_cat, am_st1, am_st2, am_clr, up2_na, up2_nj, up2_same, List.getElem?_cons_zero, List.getElem?_cons_succ, List.set_cons_zero, List.set_cons_succ, ne_eq, z0, z1]
      exact hQ
theorem lwM_c {m k : Nat} {co : Nat → Int × Int} {b : List (Nat × Nat)} (hx : lwM I k co b m) : ∀ j, j < m → rcd I (180 * k) co j := hx.2.1
set_option maxHeartbeats 2000000 in
theorem q167 (hm : mdl T R) {k : Nat} (hk : k < 6) {co : Nat → Int × Int} {b : List (Nat × Nat)} {m : Nat} {ft : Nat → Int} (hx : lwM I k co b m) (hv : lwV co b m) (hf : ∀ v, v < 9 → I 174 v = ft v) {sh : Int} {j : Nat} {v : Int} (sv : SAY ft co b j v) : ∀ S : Nat → Int, (∀ S1 : Nat → Int, Q (some (.inl (gvF v sh))) (185, s, T, setA I 173 S1, J, R)) → wp codeT mX (d + 2) 167 13 [some (.inr (.inr (some 152))), some (.inl (k : Int)), some (.inl sh), some (.inl 0), some (.inl ((12 * k + j : Nat) : Int))] [] (185, s, T, setA I 173 S, J, R) Q := by
  have t152 : T 152 = (12, 53) := hm.1 152 (by decide)
  have t169 : T 169 = (100, 6) := hm.1 169 (by decide)
  have t170 : T 170 = (100, 72) := hm.1 170 (by decide)
  have t171 : T 171 = (100, 72) := hm.1 171 (by decide)
  have t172 : T 172 = (100, 72) := hm.1 172 (by decide)
  have r2 : R 152 32 = some 169 := hm.2 32 169 (by decide +kernel) (by decide)
  have r3 : R 152 33 = some 170 := hm.2 33 170 (by decide +kernel) (by decide)
  have r4 : R 152 34 = some 171 := hm.2 34 171 (by decide +kernel) (by decide)
  have r5 : R 152 35 = some 172 := hm.2 35 172 (by decide +kernel) (by decide)
  have n169 : (169 : Nat) ≠ 173 := by decide
  have n170 : (170 : Nat) ≠ 173 := by decide
  have n171 : (171 : Nat) ≠ 173 := by decide
  have n172 : (172 : Nat) ≠ 173 := by decide
  obtain ⟨hM, hcd, hbd⟩ := id hx
  obtain ⟨v1, v2, vr⟩ := id hv
  have kk : 0 ≤ (k : Int) ∧ (k : Int) < ((6 : Nat) : Int) := by omega
  have z1 : (12 : Int) * (k : Int) = ((12 * k : Nat) : Int) := by omega
  have w1 := w32_c z1 (by omega)
  have z2 : ((12 * k : Nat) : Int) + (b.length : Int) = ((12 * k + b.length : Nat) : Int) := by clear w1; omega
  have w2 := w32_c z2 (by clear w1; omega)
  clear z1 z2
  have c0 : clm 0 = 0 := rfl
  have goE : ∀ {S : Nat → Int} {i to : Nat} {r : Option Int} {Q : Option AV → AH → Prop}, to ≤ m → i ≤ 160 → RUN ft co to i [] r → (r = none → ∀ S1 : Nat → Int, Q (some (.inl 0)) (185, s, T, setA I 173 S1, J, R)) → (∀ v, r = some v → ∀ S1 : Nat → Int, Q (some (.inl v)) (185, s, T, setA I 173 S1, J, R)) → wpc codeT mX (d + 1) 168 [.inr (.inr (some 152)), .inl ((180 * k + i : Nat) : Int), .inl ((180 * k + to : Nat) : Int)] (185, s, T, setA I 173 S, J, R) Q := fun ht hi hr hN hV => k168 hm hk ht v2 hcd hf hi hr hN hV
  have wi : ∀ {j : Nat}, j < b.length → ((12 * k + j : Nat) : Int) < ((12 * k + b.length : Nat) : Int) ∧ (0 ≤ ((12 * k + j : Nat) : Int) ∧ ((12 * k + j : Nat) : Int) < ((72 : Nat) : Int)) ∧ w32 (((12 * k + j : Nat) : Int) + 1) = ((12 * k + (j + 1) : Nat) : Int) := by
    intro j hj
    clear w1 w2
    exact ⟨by omega, ⟨by omega, by omega⟩, w32_c (by omega) (by omega)⟩
  have cells : ∀ {j : Nat}, j < b.length → I 170 (12 * k + j) = ((180 * k + stF 0 b j : Nat) : Int) ∧ I 171 (12 * k + j) = ((180 * k + (b.getD j (0, 0)).1 : Nat) : Int) ∧ I 172 (12 * k + j) = ((180 * k + (b.getD j (0, 0)).2 : Nat) : Int) ∧ stF 0 b j ≤ 160 ∧ (b.getD j (0, 0)).1 ≤ 160 ∧ (b.getD j (0, 0)).2 ≤ m := by
    intro j hj
    obtain ⟨e1, e2, e3⟩ := hbd j hj
    obtain ⟨⟨f1, f2, -⟩, f3⟩ := vr j hj
    clear w1 w2
    exact ⟨by omega, by omega, by omega, by omega, by omega, f3⟩
  refine sv (fun j v => ∀ S : Nat → Int, (∀ S1 : Nat → Int, Q (some (.inl (gvF v sh))) (185, s, T, setA I 173 S1, J, R)) → wp codeT mX (d + 2) 167 13 [some (.inr (.inr (some 152))), some (.inl (k : Int)), some (.inl sh), some (.inl 0), some (.inl ((12 * k + j : Nat) : Int))] [] (185, s, T, setA I 173 S, J, R) Q) ⟨fun j hj => ?_, fun j v r hj w hr ih => ?_, fun j hj ra rb => ?_, fun j w hj ra rb => ?_⟩
  · intro S hQ
    have fin := hQ S
    have z : ¬ ((12 * k + j : Nat) : Int) < ((12 * k + b.length : Nat) : Int) := by clear w1 w2; omega
    refine s167_13.mpr ?_
    simp only [s167_14, s167_15, s167_16, s167_17, s167_18, s167_19, s167_20, s167_21, s167_22, Option.toList_some, Option.toList_none, List.cons_append, List.nil_append, Nat.le_refl, true_and, and_true, true_or, or_true, false_or, or_false, true_implies, false_implies, implies_true, not_true_eq_false, not_false_eq_true, eq_self, Nat.reduceLT, Nat.reduceLeDiff, Nat.reduceEqDiff, Nat.reduceAdd, Nat.reduceSub, Int.reduceLT, Int.reduceLE, Int.reduceEq, Int.reduceNeg, Int.reduceNe, Int.reduceAdd, Int.reduceSub, Int.reduceMul, Int.reduceToNat, Int.toNat_zero, Int.toNat_one, Int.toNat_natCast, am_cats, am_cat, am_st1, am_st2, am_clr, up2_na, up2_nj, up2_same, List.getElem?_cons_zero, List.getElem?_cons_succ, List.set_cons_zero, List.set_cons_succ, ne_eq, t152, t169, r2, setA_ne n169, hM, kk, w1, w2, z]
    refine e167x (sh := some (.inl sh)) ?_
    rw [c0]
    exact fin
  · intro S hQ
    obtain ⟨a1, a2, a3⟩ := wi hj
    obtain ⟨e1, e2, e3, i1, i2, i3⟩ := cells hj
    refine s167_13.mpr ?_
    simp only [s167_14, s167_15, s167_16, s167_17, s167_18, s167_19, s167_20, s167_21, s167_22, s167_23, s167_24, s167_25, s167_26, s167_27, s167_28, s167_29, s167_30, s167_31, s167_32, Option.toList_some, Option.toList_none, List.cons_append, List.nil_append, Nat.le_refl, true_and, and_true, true_or, or_true, false_or, or_false, true_implies, false_implies, implies_true, not_true_eq_false, not_false_eq_true, eq_self, Nat.reduceLT, Nat.reduceLeDiff, Nat.reduceEqDiff, Nat.reduceAdd, Nat.reduceSub, Int.reduceLT, Int.reduceLE, Int.reduceEq, Int.reduceNeg, Int.reduceNe, Int.reduceAdd, Int.reduceSub, Int.reduceMul, Int.reduceToNat, Int.toNat_zero, Int.toNat_one, Int.toNat_natCast, am_cats, am_cat, am_st1, am_st2, am_clr, up2_na, up2_nj, up2_same, List.getElem?_cons_zero, List.getElem?_cons_succ, List.set_cons_zero, List.set_cons_succ, ne_eq, t152, t169, t171, t172, r2, r4, r5, setA_ne n169, setA_ne n171, setA_ne n172, hM, kk, w1, w2, a1, a2, e2, e3]
    refine goE i3 i2 w (fun e S1 => ⟨⟨Nat.le_refl _, Nat.le_refl _⟩, ?_⟩) (fun x e S1 => ⟨⟨Nat.le_refl _, Nat.le_refl _⟩, ?_⟩)
    · have nx := ih S1 hQ
      simp only [s167_33, s167_34, s167_35, s167_48, s167_49, Option.toList_some, Option.toList_none, List.cons_append, List.nil_append, Nat.le_refl, true_and, and_true, true_or, or_true, false_or, or_false, true_implies, false_implies, implies_true, not_true_eq_false, not_false_eq_true, eq_self, Nat.reduceLT, Nat.reduceLeDiff, Nat.reduceEqDiff, Nat.reduceAdd, Nat.reduceSub, Int.reduceLT, Int.reduceLE, Int.reduceEq, Int.reduceNeg, Int.reduceNe, Int.reduceAdd, Int.reduceSub, Int.reduceMul, Int.reduceToNat, Int.toNat_zero, Int.toNat_one, Int.toNat_natCast, am_cats, am_cat, am_st1, am_st2, am_clr, up2_na, up2_nj, up2_same, List.getElem?_cons_zero, List.getElem?_cons_succ, List.set_cons_zero, List.set_cons_succ, ne_eq, a3]
      exact nx
    · have nx := ih S1 hQ
      have x00 : x = 0 := by
        rcases hr with e2 | e2
        · rw [e2] at e
          cases e
        · rw [e2] at e
          cases e
          rfl
      subst x00
      simp only [s167_33, s167_34, s167_35, s167_48, s167_49, Option.toList_some, Option.toList_none, List.cons_append, List.nil_append, Nat.le_refl, true_and, and_true, true_or, or_true, false_or, or_false, true_implies, false_implies, implies_true, not_true_eq_false, not_false_eq_true, eq_self, Nat.reduceLT, Nat.reduceLeDiff, Nat.reduceEqDiff, Nat.reduceAdd, Nat.reduceSub, Int.reduceLT, Int.reduceLE, Int.reduceEq, Int.reduceNeg, Int.reduceNe, Int.reduceAdd, Int.reduceSub, Int.reduceMul, Int.reduceToNat, Int.toNat_zero, Int.toNat_one, Int.toNat_natCast, am_cats, am_cat, am_st1, am_st2, am_clr, up2_na, up2_nj, up2_same, List.getElem?_cons_zero, List.getElem?_cons_succ, List.set_cons_zero, List.set_cons_succ, ne_eq, a3]
      exact nx
  · intro S hQ
    obtain ⟨a1, a2, a3⟩ := wi hj
    obtain ⟨e1, e2, e3, i1, i2, i3⟩ := cells hj
    refine s167_13.mpr ?_
    simp only [s167_14, s167_15, s167_16, s167_17, s167_18, s167_19, s167_20, s167_21, s167_22, s167_23, s167_24, s167_25, s167_26, s167_27, s167_28, s167_29, s167_30, s167_31, s167_32, Option.toList_some, Option.toList_none, List.cons_append, List.nil_append, Nat.le_refl, true_and, and_true, true_or, or_true, false_or, or_false, true_implies, false_implies, implies_true, not_true_eq_false, not_false_eq_true, eq_self, Nat.reduceLT, Nat.reduceLeDiff, Nat.reduceEqDiff, Nat.reduceAdd, Nat.reduceSub, Int.reduceLT, Int.reduceLE, Int.reduceEq, Int.reduceNeg, Int.reduceNe, Int.reduceAdd, Int.reduceSub, Int.reduceMul, Int.reduceToNat, Int.toNat_zero, Int.toNat_one, Int.toNat_natCast, am_cats, am_cat, am_st1, am_st2, am_clr, up2_na, up2_nj, up2_same, List.getElem?_cons_zero, List.getElem?_cons_succ, List.set_cons_zero, List.set_cons_succ, ne_eq, t152, t169, t171, t172, r2, r4, r5, setA_ne n169, setA_ne n171, setA_ne n172, hM, kk, w1, w2, a1, a2, e2, e3]
    refine goE i3 i2 ra (fun e => by cases e) (fun x e S1 => ⟨⟨Nat.le_refl _, Nat.le_refl _⟩, ?_⟩)
    cases e
    simp only [s167_33, s167_34, s167_36, s167_37, s167_38, s167_39, s167_40, s167_41, s167_42, s167_43, s167_44, s167_45, Option.toList_some, Option.toList_none, List.cons_append, List.nil_append, Nat.le_refl, true_and, and_true, true_or, or_true, false_or, or_false, true_implies, false_implies, implies_true, not_true_eq_false, not_false_eq_true, eq_self, Nat.reduceLT, Nat.reduceLeDiff, Nat.reduceEqDiff, Nat.reduceAdd, Nat.reduceSub, Int.reduceLT, Int.reduceLE, Int.reduceEq, Int.reduceNeg, Int.reduceNe, Int.reduceAdd, Int.reduceSub, Int.reduceMul, Int.reduceToNat, Int.toNat_zero, Int.toNat_one, Int.toNat_natCast, am_cats, am_cat, am_st1, am_st2, am_clr, up2_na, up2_nj, up2_same, List.getElem?_cons_zero, List.getElem?_cons_succ, List.set_cons_zero, List.set_cons_succ, ne_eq, t152, t170, t171, r3, r4, setA_ne n170, setA_ne n171, a2, e1, e2]
    refine goE (Nat.le_trans (vr j hj).1.2.1 i3) i1 rb (fun e S2 => ⟨⟨Nat.le_refl _, Nat.le_refl _⟩, ?_⟩) (fun x e => by cases e)
    have fin := hQ S2
    simp only [s167_46, s167_47, Option.toList_some, Option.toList_none, List.cons_append, List.nil_append, Nat.le_refl, true_and, and_true, true_or, or_true, false_or, or_false, true_implies, false_implies, implies_true, not_true_eq_false, not_false_eq_true, eq_self, Nat.reduceLT, Nat.reduceLeDiff, Nat.reduceEqDiff, Nat.reduceAdd, Nat.reduceSub, Int.reduceLT, Int.reduceLE, Int.reduceEq, Int.reduceNeg, Int.reduceNe, Int.reduceAdd, Int.reduceSub, Int.reduceMul, Int.reduceToNat, Int.toNat_zero, Int.toNat_one, Int.toNat_natCast, am_cats, am_cat, am_st1, am_st2, am_clr, up2_na, up2_nj, up2_same, List.getElem?_cons_zero, List.getElem?_cons_succ, List.set_cons_zero, List.set_cons_succ, ne_eq]
    refine e167x (sh := some (.inl sh)) ?_
    rw [c0]
    exact fin
  · intro S hQ
    obtain ⟨a1, a2, a3⟩ := wi hj
    obtain ⟨e1, e2, e3, i1, i2, i3⟩ := cells hj
    refine s167_13.mpr ?_
    simp only [s167_14, s167_15, s167_16, s167_17, s167_18, s167_19, s167_20, s167_21, s167_22, s167_23, s167_24, s167_25, s167_26, s167_27, s167_28, s167_29, s167_30, s167_31, s167_32, Option.toList_some, Option.toList_none, List.cons_append, List.nil_append, Nat.le_refl, true_and, and_true, true_or, or_true, false_or, or_false, true_implies, false_implies, implies_true, not_true_eq_false, not_false_eq_true, eq_self, Nat.reduceLT, Nat.reduceLeDiff, Nat.reduceEqDiff, Nat.reduceAdd, Nat.reduceSub, Int.reduceLT, Int.reduceLE, Int.reduceEq, Int.reduceNeg, Int.reduceNe, Int.reduceAdd, Int.reduceSub, Int.reduceMul, Int.reduceToNat, Int.toNat_zero, Int.toNat_one, Int.toNat_natCast, am_cats, am_cat, am_st1, am_st2, am_clr, up2_na, up2_nj, up2_same, List.getElem?_cons_zero, List.getElem?_cons_succ, List.set_cons_zero, List.set_cons_succ, ne_eq, t152, t169, t171, t172, r2, r4, r5, setA_ne n169, setA_ne n171, setA_ne n172, hM, kk, w1, w2, a1, a2, e2, e3]
    refine goE i3 i2 ra (fun e => by cases e) (fun x e S1 => ⟨⟨Nat.le_refl _, Nat.le_refl _⟩, ?_⟩)
    cases e
    simp only [s167_33, s167_34, s167_36, s167_37, s167_38, s167_39, s167_40, s167_41, s167_42, s167_43, s167_44, s167_45, Option.toList_some, Option.toList_none, List.cons_append, List.nil_append, Nat.le_refl, true_and, and_true, true_or, or_true, false_or, or_false, true_implies, false_implies, implies_true, not_true_eq_false, not_false_eq_true, eq_self, Nat.reduceLT, Nat.reduceLeDiff, Nat.reduceEqDiff, Nat.reduceAdd, Nat.reduceSub, Int.reduceLT, Int.reduceLE, Int.reduceEq, Int.reduceNeg, Int.reduceNe, Int.reduceAdd, Int.reduceSub, Int.reduceMul, Int.reduceToNat, Int.toNat_zero, Int.toNat_one, Int.toNat_natCast, am_cats, am_cat, am_st1, am_st2, am_clr, up2_na, up2_nj, up2_same, List.getElem?_cons_zero, List.getElem?_cons_succ, List.set_cons_zero, List.set_cons_succ, ne_eq, t152, t170, t171, r3, r4, setA_ne n170, setA_ne n171, a2, e1, e2]
    refine goE (Nat.le_trans (vr j hj).1.2.1 i3) i1 rb (fun e => by cases e) (fun x e S2 => ⟨⟨Nat.le_refl _, Nat.le_refl _⟩, ?_⟩)
    cases e
    have fin := hQ S2
    simp only [s167_46, s167_47, Option.toList_some, Option.toList_none, List.cons_append, List.nil_append, Nat.le_refl, true_and, and_true, true_or, or_true, false_or, or_false, true_implies, false_implies, implies_true, not_true_eq_false, not_false_eq_true, eq_self, Nat.reduceLT, Nat.reduceLeDiff, Nat.reduceEqDiff, Nat.reduceAdd, Nat.reduceSub, Int.reduceLT, Int.reduceLE, Int.reduceEq, Int.reduceNeg, Int.reduceNe, Int.reduceAdd, Int.reduceSub, Int.reduceMul, Int.reduceToNat, Int.toNat_zero, Int.toNat_one, Int.toNat_natCast, am_cats, am_cat, am_st1, am_st2, am_clr, up2_na, up2_nj, up2_same, List.getElem?_cons_zero, List.getElem?_cons_succ, List.set_cons_zero, List.set_cons_succ, ne_eq]
    exact e167x (sh := some (.inl sh)) fin
/-- what the reference's store gives -/
theorem k167 (hm : mdl T R) {k : Nat} (hk : k < 6) {co : Nat → Int × Int} {b : List (Nat × Nat)} {m : Nat} {ft : Nat → Int} (hx : lwM I k co b m) (hv : lwV co b m) (hf : ∀ v, v < 9 → I 174 v = ft v) {sh v : Int} (sv : SAY ft co b 0 v) (hQ : ∀ S1 : Nat → Int, Q (some (.inl (gvF (if b.length = 0 then 100 else v) sh))) (185, s, T, setA I 173 S1, J, R)) : wpc codeT mX (d + 2) 167 [.inr (.inr (some 152)), .inl (k : Int), .inl sh] (185, s, T, I, J, R) Q := by
  have t152 : T 152 = (12, 53) := hm.1 152 (by decide)
  have t169 : T 169 = (100, 6) := hm.1 169 (by decide)
  have r2 : R 152 32 = some 169 := hm.2 32 169 (by decide +kernel) (by decide)
  have n169 : (169 : Nat) ≠ 173 := by decide
  have hM := hx.1
  have v1 := hv.1
  have kk : 0 ≤ (k : Int) ∧ (k : Int) < ((6 : Nat) : Int) := by omega
  have z1 : (12 : Int) * (k : Int) = ((12 * k : Nat) : Int) := by omega
  have w1 := w32_c z1 (by omega)
  rw [← setA_id (I := I) (a := 173)]
  by_cases hb : b.length = 0
  · rw [if_pos hb] at hQ
    have fin := hQ (I 173)
    rw [hb] at hM
    have hM : I 169 k = 0 := hM
    have w2 : w32 (((12 * k : Nat) : Int) + 0) = ((12 * k : Nat) : Int) := by rw [Int.add_zero]; exact w32_c rfl (by omega)
    have zz : ¬ ((12 * k : Nat) : Int) < ((12 * k : Nat) : Int) := Int.lt_irrefl _
    simp only [s167_0, s167_1, s167_2, s167_3, s167_4, s167_5, s167_6, s167_7, s167_8, s167_9, s167_10, s167_11, s167_12, e167, Option.toList_some, Option.toList_none, List.cons_append, List.nil_append, Nat.le_refl, true_and, and_true, true_or, or_true, false_or, or_false, true_implies, false_implies, implies_true, not_true_eq_false, not_false_eq_true, eq_self, Nat.reduceLT, Nat.reduceLeDiff, Nat.reduceEqDiff, Nat.reduceAdd, Nat.reduceSub, Int.reduceLT, Int.reduceLE, Int.reduceEq, Int.reduceNeg, Int.reduceNe, Int.reduceAdd, Int.reduceSub, Int.reduceMul, Int.reduceToNat, Int.toNat_zero, Int.toNat_one, Int.toNat_natCast, am_cats, am_cat, am_st1, am_st2, am_clr, up2_na, up2_nj, up2_same, List.getElem?_cons_zero, List.getElem?_cons_succ, List.set_cons_zero, List.set_cons_succ, ne_eq, t152, t169, r2, setA_ne n169, hM, kk, w1]
    refine s167_13.mpr ?_
    simp only [s167_14, s167_15, s167_16, s167_17, s167_18, s167_19, s167_20, s167_21, s167_22, Option.toList_some, Option.toList_none, List.cons_append, List.nil_append, Nat.le_refl, true_and, and_true, true_or, or_true, false_or, or_false, true_implies, false_implies, implies_true, not_true_eq_false, not_false_eq_true, eq_self, Nat.reduceLT, Nat.reduceLeDiff, Nat.reduceEqDiff, Nat.reduceAdd, Nat.reduceSub, Int.reduceLT, Int.reduceLE, Int.reduceEq, Int.reduceNeg, Int.reduceNe, Int.reduceAdd, Int.reduceSub, Int.reduceMul, Int.reduceToNat, Int.toNat_zero, Int.toNat_one, Int.toNat_natCast, am_cats, am_cat, am_st1, am_st2, am_clr, up2_na, up2_nj, up2_same, List.getElem?_cons_zero, List.getElem?_cons_succ, List.set_cons_zero, List.set_cons_succ, ne_eq, t152, t169, r2, setA_ne n169, hM, kk, w1, w2, zz]
    exact e167x (sh := some (.inl sh)) fin
  · rw [if_neg hb] at hQ
    have fin := q167 (d := d) (s := s) (J := J) (Q := Q) hm hk hx hv hf sv (I 173) hQ
    have z : ¬ (b.length : Int) = 0 := by omega
    have fin : wp codeT mX (d + 2) 167 13 [some (.inr (.inr (some 152))), some (.inl (k : Int)), some (.inl sh), some (.inl 0), some (.inl ((12 * k : Nat) : Int))] [] (185, s, T, setA I 173 (I 173), J, R) Q := fin
    simp only [s167_0, s167_1, s167_2, s167_3, s167_4, s167_5, s167_6, s167_7, s167_8, s167_9, s167_10, s167_11, s167_12, e167, Option.toList_some, Option.toList_none, List.cons_append, List.nil_append, Nat.le_refl, true_and, and_true, true_or, or_true, false_or, or_false, true_implies, false_implies, implies_true, not_true_eq_false, not_false_eq_true, eq_self, Nat.reduceLT, Nat.reduceLeDiff, Nat.reduceEqDiff, Nat.reduceAdd, Nat.reduceSub, Int.reduceLT, Int.reduceLE, Int.reduceEq, Int.reduceNeg, Int.reduceNe, Int.reduceAdd, Int.reduceSub, Int.reduceMul, Int.reduceToNat, Int.toNat_zero, Int.toNat_one, Int.toNat_natCast, am_cats, am_cat, am_st1, am_st2, am_clr, up2_na, up2_nj, up2_same, List.getElem?_cons_zero, List.getElem?_cons_succ, List.set_cons_zero, List.set_cons_succ, ne_eq, t152, t169, r2, setA_ne n169, hM, kk, w1, z]
    exact fin
end
