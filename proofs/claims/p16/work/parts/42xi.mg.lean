/-! the law's two readers, 16: what a store gives, both ways -/
section
variable {ft ft' : Nat → Int} {co : Nat → Int × Int}
theorem RUN_ft {to i : Nat} {st : List Int} {r : Option Int} (h : ∀ v, v < 9 → ft v = ft' v) (hr : RUN ft co to i st r) : RUN ft' co to i st r := hr (RUN ft' co to) ⟨fun _ => RUN.fin, fun _ _ _ _ h1 h2 h3 h4 w => RUN.num h1 h2 h3 h4 w, fun _ v _ _ h1 h2 h3 w => RUN.ltr h1 h2 h3 (by rw [← h v h3]; exact w), fun _ _ _ _ h1 h2 w => RUN.ngt h1 h2 w, fun _ _ _ _ _ _ h1 h2 h3 h4 h5 w => RUN.jmp h1 h2 h3 h4 h5 w, fun _ _ _ _ _ _ h1 h2 h3 h4 h5 w => RUN.pas h1 h2 h3 h4 h5 w, fun _ _ _ _ h1 h2 h3 => RUN.dv h1 h2 h3, fun _ _ _ _ _ _ h1 h2 h3 h4 w => RUN.op h1 h2 h3 h4 w⟩
theorem SAY_ft {b : List (Nat × Nat)} {j : Nat} {v : Int} (h : ∀ v, v < 9 → ft v = ft' v) (hs : SAY ft co b j v) : SAY ft' co b j v := hs (SAY ft' co b) ⟨fun _ h1 => SAY.fin h1, fun _ _ _ h1 h2 h3 w => SAY.skp h1 (RUN_ft h h2) h3 w, fun _ h1 h2 h3 => SAY.ref h1 (RUN_ft h h2) (RUN_ft h h3), fun _ _ h1 h2 h3 => SAY.tak h1 (RUN_ft h h2) (RUN_ft h h3)⟩
end
/-- what the law of store k says of a doing, in the class's law q -/
def lwG (I : Nat → Nat → Int) (R : Nat → Nat → Option Nat) (k : Nat) (ft : Nat → Int) (v : Int) : Prop := ∃ (q : Nat) (co : Nat → Int × Int) (b : List (Nat × Nat)) (m : Nat) (w : Int), R 80 k = some q ∧ q ∈ lawIds ∧ lwX I q co b m ∧ lwM I k co b m ∧ lwV co b m ∧ SAY ft co b 0 w ∧ v = (if b.length = 0 then 100 else w)
theorem lwG_ex {g : AH} (hw : LKW g) {k : Nat} (hk : k < 6) (ft : Nat → Int) : ∃ v, lwG g.2.2.2.1 g.2.2.2.2.2 k ft v ∧ 0 ≤ v ∧ v ≤ 100 := by
  obtain ⟨q, e, mq, co, b, m, hx, hm, hv⟩ := hw.2.1 k hk
  obtain ⟨w, sv, w0, w1⟩ := SAY_ex hv (ft := ft) b.length 0 (Nat.zero_add _)
  refine ⟨_, ⟨q, co, b, m, w, e, mq, hx, hm, hv, sv, rfl⟩, ?_⟩
  split
  · exact ⟨by decide, by decide⟩
  · exact ⟨w0, w1⟩
theorem lwG_ft {I : Nat → Nat → Int} {R : Nat → Nat → Option Nat} {k : Nat} {ft ft' : Nat → Int} {v : Int} (h : ∀ v, v < 9 → ft v = ft' v) (hg : lwG I R k ft v) : lwG I R k ft' v := by
  obtain ⟨q, co, b, m, w, e, mq, hx, hm, hv, sv, hv2⟩ := hg
  exact ⟨q, co, b, m, w, e, mq, hx, hm, hv, SAY_ft h sv, hv2⟩
/-- what reckoning may change: letters and facts, stacks and heights -/
def frW (I I' : Nat → Nat → Int) : Prop := ∀ a j, a ≠ 78 → a ≠ 173 → a ≠ 174 → (∀ q, q ∈ lawIds → a ≠ q + 5 ∧ (a = q → j = 0)) → I' a j = I a j
theorem frW_id {I : Nat → Nat → Int} : frW I I := fun _ _ _ _ _ _ => rfl
theorem frW_tr {I I' I2 : Nat → Nat → Int} (h : frW I I') (h2 : frW I' I2) : frW I I2 := fun a j h1 h3 h4 hq => (h2 a j h1 h3 h4 hq).trans (h a j h1 h3 h4 hq)
theorem frW_lo {I I' : Nat → Nat → Int} (h : frW I I') {a j : Nat} (ha : a < 78) : I' a j = I a j := h a j (by omega) (by omega) (by omega) (fun q hq => by have := lawIds_b hq; exact ⟨by omega, fun z => by omega⟩)
theorem frW_hi {I I' : Nat → Nat → Int} (h : frW I I') {a j : Nat} (ha : 152 ≤ a) (h3 : a ≠ 173) (h4 : a ≠ 174) : I' a j = I a j := h a j (by omega) h3 h4 (fun q hq => by have := lawIds_b hq; exact ⟨by omega, fun z => by omega⟩)
theorem lawIds_w : (∀ q, q ∈ lawIds → q ≠ 78 ∧ ∀ q', q' ∈ lawIds → q ≠ q' + 5) ∧ ∀ q, q ∈ lawIds → ∀ i, 1 ≤ i → i ≤ 4 → q + i ≠ 78 ∧ ∀ q', q' ∈ lawIds → q + i ≠ q' + 5 ∧ q + i ≠ q' := by
  refine ⟨by decide, fun q hq i h1 h2 => ?_⟩
  have hi : i = 1 ∨ i = 2 ∨ i = 3 ∨ i = 4 := by omega
  rcases hi with rfl | rfl | rfl | rfl
  · exact (show ∀ q, q ∈ lawIds → q + 1 ≠ 78 ∧ ∀ q', q' ∈ lawIds → q + 1 ≠ q' + 5 ∧ q + 1 ≠ q' by decide) q hq
  · exact (show ∀ q, q ∈ lawIds → q + 2 ≠ 78 ∧ ∀ q', q' ∈ lawIds → q + 2 ≠ q' + 5 ∧ q + 2 ≠ q' by decide) q hq
  · exact (show ∀ q, q ∈ lawIds → q + 3 ≠ 78 ∧ ∀ q', q' ∈ lawIds → q + 3 ≠ q' + 5 ∧ q + 3 ≠ q' by decide) q hq
  · exact (show ∀ q, q ∈ lawIds → q + 4 ≠ 78 ∧ ∀ q', q' ∈ lawIds → q + 4 ≠ q' + 5 ∧ q + 4 ≠ q' by decide) q hq
theorem lwX_fr {I I' : Nat → Nat → Int} {q m : Nat} {co : Nat → Int × Int} {b : List (Nat × Nat)} (mq : q ∈ lawIds) (hf : frW I I') (h : lwX I q co b m) : lwX I' q co b m := by
  have hb := lawIds_b mq
  refine lwX_of h (hf q 0 (lawIds_w.1 q mq).1 (by omega) (by omega) (fun q' hq' => ⟨(lawIds_w.1 q mq).2 q' hq', fun _ => rfl⟩)) (fun i j h1 h2 => ?_)
  obtain ⟨a1, a2⟩ := lawIds_w.2 q mq i h1 h2
  exact hf _ _ a1 (by omega) (by omega) (fun q' hq' => ⟨(a2 q' hq').1, fun z => absurd z (a2 q' hq').2⟩)
theorem lwM_fr {I I' : Nat → Nat → Int} {k m : Nat} {co : Nat → Int × Int} {b : List (Nat × Nat)} (hf : frW I I') (h : lwM I k co b m) : lwM I' k co b m := by
  have e : ∀ a j, 168 ≤ a → a ≤ 172 → I' a j = I a j := fun a j h1 h2 => frW_hi hf (by omega) (by omega) (by omega)
  obtain ⟨h1, h2, h3⟩ := h
  refine ⟨(e _ _ (by decide) (by decide)).trans h1, fun j hj => (e _ _ (by decide) (by decide)).trans (h2 j hj), fun j hj => ?_⟩
  obtain ⟨z1, z2, z3⟩ := h3 j hj
  exact ⟨(e _ _ (by decide) (by decide)).trans z1, (e _ _ (by decide) (by decide)).trans z2, (e _ _ (by decide) (by decide)).trans z3⟩
theorem lwG_fr {I I' : Nat → Nat → Int} {R : Nat → Nat → Option Nat} {k : Nat} {ft : Nat → Int} {v : Int} (hf : frW I I') (hg : lwG I R k ft v) : lwG I' R k ft v := by
  obtain ⟨q, co, b, m, w, e, mq, hx, hm, hv, sv, hv2⟩ := hg
  exact ⟨q, co, b, m, w, e, mq, lwX_fr mq hf hx, lwM_fr hf hm, hv, sv, hv2⟩
theorem i9 : (0 : Int) < ((9 : Nat) : Int) ∧ (1 : Int) < ((9 : Nat) : Int) ∧ (2 : Int) < ((9 : Nat) : Int) ∧ (3 : Int) < ((9 : Nat) : Int) ∧ (4 : Int) < ((9 : Nat) : Int) ∧ (5 : Int) < ((9 : Nat) : Int) ∧ (6 : Int) < ((9 : Nat) : Int) ∧ (7 : Int) < ((9 : Nat) : Int) ∧ (8 : Int) < ((9 : Nat) : Int) := by decide
/-- the letters of a doing, with what store k adds -/
def ftK (F : Nat → Int) (u sh : Int) (v : Nat) : Int := if v = 5 then u else if v = 6 then sh else F v
section
variable {d s h t k : Nat} {T : Nat → Nat × Nat} {I J : Nat → Nat → Int} {R : Nat → Nat → Option Nat} {Q : Option AV → AH → Prop}
theorem x57 (hh : hp T R) (h6 : h < 6) (t8 : t < 8) (hk : k < 6) {F : Nat → Int} {u sh v : Int} (hu : I (5 + t) k = u) (hs : I (88 + h) k = sh) (hF : ∀ v, v < 9 → v ≠ 5 → v ≠ 6 → I 78 v = F v) (hg : lwG I R k (ftK F u sh) v) (hQ : ∀ I2, frW I I2 → (∀ v, v < 9 → v ≠ 5 → v ≠ 6 → I2 78 v = F v) → Q (some (.inl (gvF v sh))) (185, s, T, I2, J, R)) : wpc codeT mX (d + 4) 57 [.inr (.inr (some 0)), .inl (h : Int), .inl (t : Int), .inl (k : Int)] (185, s, T, I, J, R) Q := by
  obtain ⟨q, co, b, m, w, e80, mq, hx, -, hv, sv, rfl⟩ := hg
  have hl := lawAt_of hh mq
  have hqb := lawIds_b mq
  have tq := hl.2.2.1
  have u1 : 0 ≤ (h : Int) ∧ (h : Int) < ((6 : Nat) : Int) := by omega
  have u2 : 0 ≤ (t : Int) ∧ (t : Int) < ((8 : Nat) : Int) := by omega
  have u3 : 0 ≤ (k : Int) ∧ (k : Int) < ((6 : Nat) : Int) := by omega
  have u4 : 5 + t < 185 ∧ 88 + h < 185 ∧ q < 185 ∧ 88 + h ≠ 78 := by omega
  generalize hI2 : up2 (up2 I 78 5 u) 78 6 sh = I2
  have fI2 : frW I I2 := by
    intro a j h1 _ _ _
    rw [← hI2, up2_na h1, up2_na h1]
  have eF : ∀ v, v < 9 → I2 78 v = ftK F u sh v := by
    intro v hv9
    unfold ftK
    rw [← hI2]
    by_cases z6 : v = 6
    · rw [if_neg (by omega), if_pos z6, z6, up2_same]
    · rw [up2_nj z6]
      by_cases z5 : v = 5
      · rw [if_pos z5, z5, up2_same]
      · rw [up2_nj z5, if_neg z5, if_neg z6]
        exact hF v hv9 z5 z6
  have es : I2 (88 + h) k = sh := (fI2 _ _ (by omega) (by omega) (by omega) (fun q' hq' => by have := (show ∀ q, q ∈ lawIds → q = 81 ∨ 116 ≤ q by decide) q' hq'; exact ⟨by omega, fun z => by omega⟩)).trans hs
  have es2 : up2 (up2 I 78 5 u) 78 6 sh (88 + h) k = sh := by rw [hI2]; exact es
  have eg : w32 (Int.tdiv (w32 (sh * (if b.length = 0 then 100 else w))) 100) = gvF (if b.length = 0 then 100 else w) sh := by unfold gvF; rw [Int.mul_comm]
  simp only [s57_0, s57_1, s57_2, s57_3, s57_4, s57_5, s57_6, s57_7, s57_8, s57_9, s57_10, s57_11, s57_12, s57_13, s57_14, s57_15, s57_16, s57_17, s57_18, s57_19, s57_20, s57_21, s57_22, s57_23, s57_24, s57_25, s57_26, s57_27, s57_28, e58, s58_0, s58_1, s58_2, s58_3, s58_4, s58_5, s58_6, s58_7, s58_8, s58_9, s58_10, e57, Option.toList_some, Option.toList_none, List.cons_append, List.nil_append, Nat.le_refl, true_and, and_true, true_or, or_true, false_or, or_false, true_implies, false_implies, implies_true, not_true_eq_false, not_false_eq_true, eq_self, Nat.reduceLT, Nat.reduceLeDiff, Nat.reduceEqDiff, Nat.reduceAdd, Nat.reduceSub, Int.reduceLT, Int.reduceLE, Int.reduceEq, Int.reduceNeg, Int.reduceNe, Int.reduceAdd, Int.reduceSub, Int.reduceMul, Int.reduceToNat, Int.toNat_zero, Int.toNat_one, Int.toNat_natCast, am_cats, am_cat, am_st1, am_st2, am_clr, up2_na, up2_nj, up2_same, List.getElem?_cons_zero, List.getElem?_cons_succ, List.set_cons_zero, List.set_cons_succ, ne_eq, i9, tk_0 hh, tk_3 hh, tk_4 hh, tk_77 hh, tk_78 hh, tk_80 hh, tk_87 hh, tg_5 hh t8, tg_88 hh h6, rk_0_6 hh, rk_0_9 hh, rk_0_11 hh, rk_0_13 hh, rk_3_0 hh, rk_77_0 hh, gk_4 hh t8, gk_87 hh h6, e80, tq, u1, u2, u3, u4, hu, hs, hI2, es]
  refine k59 (d := d) hh hl (lwX_fr mq fI2 hx) hv eF sv (fun S1 h1 rf1 => ⟨⟨Nat.le_refl _, Nat.le_refl _⟩, ?_⟩)
  have fin := hQ (eI I2 q S1 h1 rf1) (frW_tr fI2 (fun a j h1 _ _ hq' => by
    obtain ⟨z1, z2⟩ := hq' q mq
    by_cases z : a = q
    · have := z2 z
      subst this z
      exact eI_0
    · exact eI_o z z1)) (fun v h9 h5 h6 => by
    rw [eI_o (by omega) (by omega), eF v h9]
    unfold ftK
    rw [if_neg h5, if_neg h6])
  simp only [s57_29, s57_30, s57_31, s57_32, Option.toList_some, Option.toList_none, List.cons_append, List.nil_append, Nat.le_refl, true_and, and_true, true_or, or_true, false_or, or_false, true_implies, false_implies, implies_true, not_true_eq_false, not_false_eq_true, eq_self, Nat.reduceLT, Nat.reduceLeDiff, Nat.reduceEqDiff, Nat.reduceAdd, Nat.reduceSub, Int.reduceLT, Int.reduceLE, Int.reduceEq, Int.reduceNeg, Int.reduceNe, Int.reduceAdd, Int.reduceSub, Int.reduceMul, Int.reduceToNat, Int.toNat_zero, Int.toNat_one, Int.toNat_natCast, am_cats, am_cat, am_st1, am_st2, am_clr, up2_na, up2_nj, up2_same, List.getElem?_cons_zero, List.getElem?_cons_succ, List.set_cons_zero, List.set_cons_succ, ne_eq, eg]
  exact fin
theorem x166 (hh : hp T R) (h6 : h < 6) (t8 : t < 8) (hk : k < 6) {F : Nat → Int} {u sh v : Int} (hu : I 154 (6 * t + k) = u) (hs : I 153 (6 * h + k) = sh) (hF : ∀ v, v < 9 → v ≠ 5 → v ≠ 6 → I 174 v = F v) (hg : lwG I R k (ftK F u sh) v) (hQ : ∀ I2, frW I I2 → (∀ v, v < 9 → v ≠ 5 → v ≠ 6 → I2 174 v = F v) → Q (some (.inl (gvF v sh))) (185, s, T, I2, J, R)) : wpc codeT mX (d + 3) 166 [.inr (.inr (some 152)), .inl (h : Int), .inl (t : Int), .inl (k : Int)] (185, s, T, I, J, R) Q := by
  obtain ⟨q, co, b, m, w, e80, mq, -, hx, hv, sv, rfl⟩ := hg
  have hm := mdl_hp hh
  have g1 : (6 : Int) * (t : Int) = ((6 * t : Nat) : Int) := by omega
  have w1 := w32_c g1 (by omega)
  have g2 : ((6 * t : Nat) : Int) + (k : Int) = ((6 * t + k : Nat) : Int) := by clear w1; omega
  have w2 := w32_c g2 (by clear w1; omega)
  have g3 : (6 : Int) * (h : Int) = ((6 * h : Nat) : Int) := by clear w1 w2; omega
  have w3 := w32_c g3 (by clear w1 w2; omega)
  have g4 : ((6 * h : Nat) : Int) + (k : Int) = ((6 * h + k : Nat) : Int) := by clear w1 w2 w3; omega
  have w4 := w32_c g4 (by clear w1 w2 w3; omega)
  have u1 : 0 ≤ ((6 * t + k : Nat) : Int) ∧ ((6 * t + k : Nat) : Int) < ((48 : Nat) : Int) := by clear w1 w2 w3 w4; omega
  have u2 : 0 ≤ ((6 * h + k : Nat) : Int) ∧ ((6 * h + k : Nat) : Int) < ((36 : Nat) : Int) := by clear w1 w2 w3 w4; omega
  clear g1 g2 g3 g4
  generalize hI2 : up2 (up2 I 174 5 u) 174 6 sh = I2
  have fI2 : ∀ a j, a ≠ 174 → I2 a j = I a j := by
    intro a j h1
    rw [← hI2, up2_na h1, up2_na h1]
  have eF : ∀ v, v < 9 → I2 174 v = ftK F u sh v := by
    intro v hv9
    unfold ftK
    rw [← hI2]
    by_cases z6 : v = 6
    · rw [if_neg (by clear w1 w2 w3 w4; omega), if_pos z6, z6, up2_same]
    · rw [up2_nj z6]
      by_cases z5 : v = 5
      · rw [if_pos z5, z5, up2_same]
      · rw [up2_nj z5, if_neg z5, if_neg z6]
        exact hF v hv9 z5 z6
  have es : I2 153 (6 * h + k) = sh := (fI2 _ _ (by decide)).trans hs
  have fr1 : frW I I2 := fun a j _ _ h4 _ => fI2 a j h4
  simp only [s166_0, s166_1, s166_2, s166_3, s166_4, s166_5, s166_6, s166_7, s166_8, s166_9, s166_10, s166_11, s166_12, s166_13, s166_14, s166_15, s166_16, s166_17, s166_18, s166_19, s166_20, s166_21, s166_22, s166_23, s166_24, s166_25, s166_26, s166_27, s166_28, s166_29, s166_30, s166_31, s166_32, s166_33, s166_34, e166, Option.toList_some, Option.toList_none, List.cons_append, List.nil_append, Nat.le_refl, true_and, and_true, true_or, or_true, false_or, or_false, true_implies, false_implies, implies_true, not_true_eq_false, not_false_eq_true, eq_self, Nat.reduceLT, Nat.reduceLeDiff, Nat.reduceEqDiff, Nat.reduceAdd, Nat.reduceSub, Int.reduceLT, Int.reduceLE, Int.reduceEq, Int.reduceNeg, Int.reduceNe, Int.reduceAdd, Int.reduceSub, Int.reduceMul, Int.reduceToNat, Int.toNat_zero, Int.toNat_one, Int.toNat_natCast, am_cats, am_cat, am_st1, am_st2, am_clr, up2_na, up2_nj, up2_same, List.getElem?_cons_zero, List.getElem?_cons_succ, List.set_cons_zero, List.set_cons_succ, ne_eq, i9, tk_152 hh, tk_153 hh, tk_154 hh, tk_174 hh, rk_152_37 hh, rk_152_8 hh, rk_152_7 hh, w1, w2, w3, w4, u1, u2, hu, hs, hI2, es]
  refine k167 (d := d) hm hk (lwM_fr fr1 hx) hv eF sv (fun S1 => ⟨⟨Nat.le_refl _, Nat.le_refl _⟩, ?_⟩)
  have fin := hQ (setA I2 173 S1) (fun a j _ h3 h4 _ => by rw [setA_ne h3]; exact fI2 a j h4) (fun v h9 h5 h6 => by
    rw [setA_ne (by decide), eF v h9]
    unfold ftK
    rw [if_neg h5, if_neg h6])
  simp only [s166_35, Option.toList_some, Option.toList_none, List.cons_append, List.nil_append, Nat.le_refl, true_and, and_true, true_or, or_true, false_or, or_false, true_implies, false_implies, implies_true, not_true_eq_false, not_false_eq_true, eq_self, Nat.reduceLT, Nat.reduceLeDiff, Nat.reduceEqDiff, Nat.reduceAdd, Nat.reduceSub, Int.reduceLT, Int.reduceLE, Int.reduceEq, Int.reduceNeg, Int.reduceNe, Int.reduceAdd, Int.reduceSub, Int.reduceMul, Int.reduceToNat, Int.toNat_zero, Int.toNat_one, Int.toNat_natCast, am_cats, am_cat, am_st1, am_st2, am_clr, up2_na, up2_nj, up2_same, List.getElem?_cons_zero, List.getElem?_cons_succ, List.set_cons_zero, List.set_cons_succ, ne_eq]
  exact fin
end
