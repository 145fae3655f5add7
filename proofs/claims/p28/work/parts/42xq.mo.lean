/-! the law's two readers, 24: again answers alike -/
/-- what again may change: the past of its own, letters, facts, stacks, the draw of the reference -/
def frZ (I I1 : Nat → Nat → Int) : Prop := ∀ a j, (a < 54 ∨ 77 ≤ a) → a ≠ 78 → a ≠ 173 → a ≠ 174 → (a = 152 → j ≠ 6) → (∀ q, q ∈ lawIds → a ≠ q + 5 ∧ (a = q → j = 0)) → I1 a j = I a j
section
variable {I I1 I2 : Nat → Nat → Int}
theorem frZ_id : frZ I I := fun _ _ _ _ _ _ _ _ => rfl
theorem frZ_W (h : frZ I I1) (h2 : frW I1 I2) : frZ I I2 := fun a j h0 h1 h3 h4 h5 hq => (h2 a j h1 h3 h4 hq).trans (h a j h0 h1 h3 h4 h5 hq)
theorem frZ_lo (h : frZ I I1) {a j : Nat} (ha : a < 54) : I1 a j = I a j := h a j (by omega) (by omega) (by omega) (by omega) (by omega) (fun q hq => by have := lawIds_b hq; exact ⟨by omega, fun z => by omega⟩)
theorem frZ_hi (h : frZ I I1) {a j : Nat} (ha : 152 ≤ a) (h3 : a ≠ 173) (h4 : a ≠ 174) (h5 : a = 152 → j ≠ 6) : I1 a j = I a j := h a j (by omega) (by omega) h3 h4 h5 (fun q hq => by have := lawIds_b hq; exact ⟨by omega, fun z => by omega⟩)
theorem frZ_sh (h : frZ I I1) {a j : Nat} (ha : a < 6) : I1 (88 + a) j = I (88 + a) j := h _ _ (by omega) (by omega) (by omega) (by omega) (by omega) (fun q' hq' => by have := (show ∀ q, q ∈ lawIds → q = 81 ∨ 116 ≤ q by decide) q' hq'; exact ⟨by omega, fun z => by omega⟩)
theorem frZ_G {R : Nat → Nat → Option Nat} {k : Nat} {ft : Nat → Int} {v : Int} (hf : frZ I I1) (hg : lwG I R k ft v) : lwG I1 R k ft v := lwG_eq (fun q hq => by
  have hb := lawIds_b hq
  refine ⟨hf q 0 (by omega) (lawIds_w.1 q hq).1 (by omega) (by omega) (by omega) (fun q' hq' => ⟨(lawIds_w.1 q hq).2 q' hq', fun _ => rfl⟩), fun i j i1 i4 => ?_⟩
  obtain ⟨a1, a2⟩ := lawIds_w.2 q hq i i1 i4
  exact hf _ _ (by omega) a1 (by omega) (by omega) (by omega) (fun q' hq' => ⟨(a2 q' hq').1, fun zz => absurd zz (a2 q' hq').2⟩)) (fun a j h1 h2 => frZ_hi hf (by omega) (by omega) (by omega) (by omega)) rfl hg
theorem frZ_up {a j : Nat} {v : Int} (h : frZ I I1) (ha : 54 ≤ a ∧ a < 77) : frZ I (up2 I1 a j v) := fun x y h0 h1 h3 h4 h5 hq => (up2_na (by omega)).trans (h x y h0 h1 h3 h4 h5 hq)
theorem frZ_x {v : Int} (h : frZ I I1) : frZ I (up2 I1 152 6 v) := fun x y h0 h1 h3 h4 h5 hq => (up2_ne _ _ (fun z => h5 z.1 z.2)).trans (h x y h0 h1 h3 h4 h5 hq)
/-- the replayed past says of the first i answers (of the book I) what it should -/
def psR (I I1 : Nat → Nat → Int) (i : Nat) : Prop := ∀ h : Nat, h < 6 → I1 62 h = alF I h i ∧ ∀ t : Nat, t < 8 → I1 (56 + h) t = mny I h t i ∧ (mny I h t i ≠ 0 → I1 (64 + h) t = lsF I h t i ∧ I1 (71 + h) t = alF I h i - snF I h t i)
theorem psR_of {i : Nat} (e : ∀ a j, 54 ≤ a → a < 77 → I2 a j = I1 a j) (h : psR I I1 i) : psR I I2 i := by
  intro a ha
  obtain ⟨g1, g2⟩ := h a ha
  rw [e 62 a (by decide) (by decide)]
  refine ⟨g1, fun t ht => ?_⟩
  obtain ⟨g3, g4⟩ := g2 t ht
  rw [e _ t (by omega) (by omega), e _ t (by omega) (by omega), e _ t (by omega) (by omega)]
  exact ⟨g3, g4⟩
theorem psR_W {i : Nat} (f : frW I1 I2) (h : psR I I1 i) : psR I I2 i := psR_of (fun a j _ h2 => frW_lo f (by omega)) h
theorem psP_R {i : Nat} (hf : frZ I I1) (h : psR I I1 i) : psP I1 54 i := by
  intro a ha
  have fc : ∀ x j, 157 ≤ x → x ≤ 161 → I1 x j = I x j := fun x j h1 h2 => frZ_hi hf (by omega) (by omega) (by omega) (by omega)
  obtain ⟨g1, g2⟩ := h a ha
  rw [alF_of (I := I) i (fun q _ => fc 157 q (by decide) (by decide))]
  refine ⟨g1, fun t ht => ?_⟩
  rw [mny_of (I := I) i (fun q _ => ⟨fc 157 q (by decide) (by decide), fc 158 q (by decide) (by decide)⟩), lsF_of (I := I) i (fun q _ => ⟨fc 157 q (by decide) (by decide), fc 158 q (by decide) (by decide), fc 159 q (by decide) (by decide)⟩), snF_of (I := I) i (fun q _ => ⟨fc 157 q (by decide) (by decide), fc 158 q (by decide) (by decide)⟩)]
  exact g2 t ht
/-- one answer more -/
def rpI (I1 : Nat → Nat → Int) (h t : Nat) (day : Int) : Nat → Nat → Int := up2 (up2 (up2 (up2 I1 (56 + h) t (w32 (I1 (56 + h) t + 1))) 62 h (w32 (I1 62 h + 1))) (64 + h) t day) (71 + h) t (w32 (I1 62 h + 1))
theorem rpI_fr {h t : Nat} {day : Int} (h6 : h < 6) (hf : frZ I I1) : frZ I (rpI I1 h t day) := frZ_up (frZ_up (frZ_up (frZ_up hf (by omega)) (by omega)) (by omega)) (by omega)
theorem psR_ad {n h t : Nat} {day : Int} (h6 : h < 6) (n2 : n < 200) (e7 : I 157 n = h) (e8 : I 158 n = t) (e9 : I 159 n = day) (hp : psR I I1 n) : psR I (rpI I1 h t day) (n + 1) := by
  intro a ha
  obtain ⟨g1, g2⟩ := hp a ha
  have b1 := alF_bd I a n
  have ea : rpI I1 h t day 62 a = alF I a (n + 1) := by
    rw [alF, e7]
    unfold rpI
    rw [up2_na (by omega), up2_na (by omega)]
    by_cases e : a = h
    · rw [if_pos (by omega), ← e, up2_v, g1, w32_eq (by omega) (by omega)]
    · rw [if_neg (by omega), up2_nj e, up2_na (by omega), g1, Int.add_zero]
  refine ⟨ea, fun j hj => ?_⟩
  obtain ⟨g3, g4⟩ := g2 j hj
  have b2 := mny_bd I a j n
  have b3 := snF_bd I a j n
  have em : rpI I1 h t day (56 + a) j = if a = h ∧ j = t then w32 (I1 (56 + h) t + 1) else I1 (56 + a) j := by
    unfold rpI
    rw [up2_na (by omega), up2_na (by omega), up2_na (by omega)]
    by_cases e : a = h ∧ j = t
    · rw [if_pos e, e.1, e.2, up2_v]
    · rw [if_neg e, up2_ne _ _ (by omega)]
  have el : rpI I1 h t day (64 + a) j = if a = h ∧ j = t then day else I1 (64 + a) j := by
    unfold rpI
    rw [up2_na (by omega)]
    by_cases e : a = h ∧ j = t
    · rw [if_pos e, e.1, e.2, up2_v]
    · rw [if_neg e, up2_ne _ _ (by omega), up2_na (by omega), up2_na (by omega)]
  have es : rpI I1 h t day (71 + a) j = if a = h ∧ j = t then w32 (I1 62 h + 1) else I1 (71 + a) j := by
    unfold rpI
    by_cases e : a = h ∧ j = t
    · rw [if_pos e, e.1, e.2, up2_v]
    · rw [if_neg e, up2_ne _ _ (by omega), up2_na (by omega), up2_na (by omega), up2_na (by omega)]
  rw [em, el, es, mny, lsF, snF, alF, e7, e8, e9]
  by_cases e : a = h
  · by_cases e2 : j = t
    · subst e e2
      rw [if_pos ⟨rfl, rfl⟩, if_pos ⟨rfl, rfl⟩, if_pos ⟨rfl, rfl⟩, if_pos ⟨rfl, rfl⟩, if_pos ⟨rfl, rfl⟩, if_pos rfl, if_pos rfl, if_pos rfl, g3, g1, w32_eq (by omega) (by omega), w32_eq (by omega) (by omega)]
      exact ⟨rfl, fun _ => ⟨rfl, by omega⟩⟩
    · subst e
      have x1 : ¬ (a = a ∧ j = t) := fun z => e2 z.2
      have x2 : ¬ ((a : Int) = (a : Int) ∧ (t : Int) = (j : Int)) := by omega
      have x3 : ¬ (t : Int) = (j : Int) := by omega
      rw [if_neg x1, if_neg x1, if_neg x1, if_neg x2, if_neg x2, if_pos rfl, if_neg x3, if_pos rfl, Int.add_zero]
      refine ⟨g3, fun q => ?_⟩
      obtain ⟨q1, q2⟩ := g4 q
      exact ⟨q1, by rw [q2]; omega⟩
  · have x1 : ¬ (a = h ∧ j = t) := fun z => e z.1
    have x2 : ¬ ((h : Int) = (a : Int) ∧ (t : Int) = (j : Int)) := by omega
    have x3 : ¬ (h : Int) = (a : Int) := by omega
    rw [if_neg x1, if_neg x1, if_neg x1, if_neg x2, if_neg x2, if_neg x3, if_neg x3, Int.add_zero, Int.add_zero]
    exact ⟨g3, g4⟩
end
/-- the draws and the right ones, told by numbers -/
def agS (I : Nat → Nat → Int) (x0 : Int) (TT : Nat → Nat) (Z : Nat → Int) : Nat → Int × Int
  | 0 => (x0, 0)
  | i + 1 => if I 161 i = -1 then agS I x0 TT Z i else (drw (agS I x0 TT Z i).1, w32 ((agS I x0 TT Z i).2 + rtX (I 14 (TT i)) (Z i) (drw (agS I x0 TT Z i).1)))
section
variable {s d : Nat} {T : Nat → Nat × Nat} {I J : Nat → Nat → Int} {R : Nat → Nat → Option Nat} {Q : Option AV → AH → Prop}
theorem k72 (hh : hp T R) {h t : Nat} (h6 : h < 6) (t8 : t < 8) {day : Int} : wpc codeT mX d 72 [.inr (.inr (some 54)), .inl (h : Int), .inl (t : Int), .inl day] (185, s, T, I, J, R) Q ↔ Q none (185, s, T, rpI I h t day, J, R) := wpc_det (by
  have u1 : 0 ≤ (h : Int) ∧ (h : Int) < ((6 : Nat) : Int) := by omega
  have u2 : 0 ≤ (t : Int) ∧ (t : Int) < ((8 : Nat) : Int) := by omega
  have u3 : 56 + h < 185 ∧ 64 + h < 185 ∧ 71 + h < 185 := by omega
  have nn : (62 : Nat) ≠ 56 + h ∧ (62 : Nat) ≠ 64 + h ∧ (62 : Nat) ≠ 71 + h ∧ 56 + h ≠ 62 ∧ 64 + h ≠ 62 ∧ 71 + h ≠ 62 := by omega
  simp only [e72, s72_0, s72_1, s72_2, s72_3, s72_4, s72_5, s72_6, s72_7, s72_8, s72_9, s72_10, s72_11, s72_12, s72_13, s72_14, s72_15, s72_16, s72_17, s72_18, s72_19, s72_20, s72_21, s72_22, s72_23, s72_24, s72_25, s72_26, s72_27, s72_28, s72_29, s72_30, s72_31, s72_32, s72_33, s72_34, s72_35, Option.toList_some, Option.toList_none, List.cons_append, List.nil_append, Nat.le_refl, true_and, and_true, true_or, or_true, false_or, or_false, true_implies, false_implies, implies_true, not_true_eq_false, not_false_eq_true, eq_self, Nat.reduceLT, Nat.reduceLeDiff, Nat.reduceEqDiff, Nat.reduceAdd, Nat.reduceSub, Int.reduceLT, Int.reduceLE, Int.reduceEq, Int.reduceNeg, Int.reduceNe, Int.reduceAdd, Int.reduceSub, Int.reduceMul, Int.reduceToNat, Int.toNat_zero, Int.toNat_one, Int.toNat_natCast, am_cats, am_cat, am_st1, am_st2, am_clr, up2_na, up2_nj, up2_same, List.getElem?_cons_zero, List.getElem?_cons_succ, List.set_cons_zero, List.set_cons_succ, ne_eq, tk_54 hh, tk_55 hh, tk_62 hh, tk_63 hh, tk_70 hh, tg_56 hh h6, tg_64 hh h6, tg_71 hh h6, rk_54_0 hh, rk_54_1 hh, rk_54_2 hh, rk_54_3 hh, gk_55 hh h6, gk_63 hh h6, gk_70 hh h6, u1, u2, u3, nn]
  rfl)
set_option maxHeartbeats 2000000 in
theorem ag_x (hh : hp T R) (hB : lkB I) (hR : lkR I) {N ns : Nat} (hN : I 17 3 = N) (N2 : N ≤ 200) (hns : I 0 1 = ns) (ns6 : ns ≤ 6) {HH TT : Nat → Nat} {F U S V : Nat → Nat → Int} {Z : Nat → Int} {x0 : Int} (h1 : ∀ i, i < N → HH i < 6 ∧ TT i < 8 ∧ I 157 i = HH i ∧ I 158 i = TT i) (hF : ∀ i, i < N → F i = ltF (mny I (HH i) (TT i) i) (lsF I (HH i) (TT i) i) (snF I (HH i) (TT i) i) (alF I (HH i) i) (I 14 (TT i)) (TT i) (I 159 i)) (hU : ∀ i, U i = fun k => I (5 + TT i) k) (hS : ∀ i, S i = fun k => I (88 + HH i) k) (hV : ∀ i k, i < N → k < 6 → lwG I R k (ftK (F i) (U i k) (S i k)) (V i k)) (hZ : ∀ i, i < N → hvX (fun k => gvF (V i k) (S i k)) (U i) (I 13 (TT i)) ns = Z i) (hQ : ∀ I2, frZ I I2 → Q (some (.inl (agS I x0 TT Z N).2)) (185, s, T, I2, J, R)) : ∀ (r i : Nat), i + r = N → ∀ (I1 : Nat → Nat → Int) (l4 l5 l6 : Option AV), frZ I I1 → psR I I1 i → wp codeT mX (d + 6) 125 10 [some (.inr (.inr (some 0))), some (.inl (agS I x0 TT Z i).2), some (.inl (agS I x0 TT Z i).1), some (.inl (i : Int)), l4, l5, l6] [] (185, s, T, I1, J, R) Q := by
  intro r
  induction r with
  | zero =>
    intro i hi I1 l4 l5 l6 hf hp
    have hi : i = N := by omega
    subst hi
    have e1 : I1 17 3 = i := (frZ_lo hf (by decide)).trans hN
    have fin := hQ I1 hf
    refine s125_10.mpr ?_
    simp only [s125_11, s125_12, s125_13, s125_14, s125_77, s125_78, Option.toList_some, Option.toList_none, List.cons_append, List.nil_append, Nat.le_refl, true_and, and_true, true_or, or_true, false_or, or_false, true_implies, false_implies, implies_true, not_true_eq_false, not_false_eq_true, eq_self, Nat.reduceLT, Nat.reduceLeDiff, Nat.reduceEqDiff, Nat.reduceAdd, Nat.reduceSub, Int.reduceLT, Int.reduceLE, Int.reduceEq, Int.reduceNeg, Int.reduceNe, Int.reduceAdd, Int.reduceSub, Int.reduceMul, Int.reduceToNat, Int.toNat_zero, Int.toNat_one, Int.toNat_natCast, am_cats, am_cat, am_st1, am_st2, am_clr, up2_na, up2_nj, up2_same, List.getElem?_cons_zero, List.getElem?_cons_succ, List.set_cons_zero, List.set_cons_succ, ne_eq, tk_0 hh, tk_17 hh, rk_0_7 hh, e1, Int.lt_irrefl]
    exact fin
  | succ r ih =>
    intro i hi I1 l4 l5 l6 hf hp
    have iN : i < N := by omega
    obtain ⟨h6, t8, e7, e8⟩ := h1 i iN
    obtain ⟨c1, c2, c3⟩ := hB i (by rw [hN]; omega)
    obtain ⟨-, c5⟩ := hR i (by rw [hN]; omega)
    have f19 : I1 19 i = (HH i : Int) := (frZ_lo hf (by decide)).trans (c1.trans e7)
    have f20 : I1 20 i = (TT i : Int) := (frZ_lo hf (by decide)).trans (c2.trans e8)
    have f21 : I1 21 i = I 159 i := (frZ_lo hf (by decide)).trans c3
    have f23 : I1 23 i = I 161 i := (frZ_lo hf (by decide)).trans c5
    have e1 : I1 17 3 = N := (frZ_lo hf (by decide)).trans hN
    have u1 : (i : Int) < (N : Int) := by omega
    have u2 : 0 ≤ (i : Int) ∧ (i : Int) < ((200 : Nat) : Int) := by omega
    have i2 : i ≤ 1080 := by omega
    have tail : ∀ I2, frZ I I2 → psR I I2 i → wp codeT mX (d + 6) 125 69 [some (.inr (.inr (some 0))), some (.inl (agS I x0 TT Z (i + 1)).2), some (.inl (agS I x0 TT Z (i + 1)).1), some (.inl (i : Int)), some (.inl (HH i : Int)), some (.inl (TT i : Int)), some (.inl (I 159 i))] [] (185, s, T, I2, J, R) Q := by
      intro I2 f2 p2
      have nx := ih (i + 1) (by omega) (rpI I2 (HH i) (TT i) (I 159 i)) (some (.inl (HH i : Int))) (some (.inl (TT i : Int))) (some (.inl (I 159 i))) (rpI_fr h6 f2) (psR_ad h6 (by omega) e7 e8 rfl p2)
      refine s125_69.mpr ?_
      simp only [s125_70, s125_71, s125_72, s125_73, s125_74, s125_75, s125_76, Option.toList_some, Option.toList_none, List.cons_append, List.nil_append, Nat.le_refl, true_and, and_true, true_or, or_true, false_or, or_false, true_implies, false_implies, implies_true, not_true_eq_false, not_false_eq_true, eq_self, Nat.reduceLT, Nat.reduceLeDiff, Nat.reduceEqDiff, Nat.reduceAdd, Nat.reduceSub, Int.reduceLT, Int.reduceLE, Int.reduceEq, Int.reduceNeg, Int.reduceNe, Int.reduceAdd, Int.reduceSub, Int.reduceMul, Int.reduceToNat, Int.toNat_zero, Int.toNat_one, Int.toNat_natCast, am_cats, am_cat, am_st1, am_st2, am_clr, up2_na, up2_nj, up2_same, List.getElem?_cons_zero, List.getElem?_cons_succ, List.set_cons_zero, List.set_cons_succ, ne_eq, tk_0 hh, tk_54 hh, rk_0_8 hh, k72 hh h6 t8, w32_s i2]
      exact nx
    by_cases hp0 : I 161 i = -1
    · have go := tail I1 hf hp
      rw [agS, if_pos hp0] at go
      refine s125_10.mpr ?_
      simp only [s125_11, s125_12, s125_13, s125_14, s125_15, s125_16, s125_17, s125_18, s125_19, s125_20, s125_21, s125_22, s125_23, s125_24, s125_25, s125_26, s125_27, s125_28, s125_29, s125_30, s125_31, s125_32, s125_33, s125_34, s125_35, s125_36, s125_37, s125_38, s125_39, s125_40, s125_41, s125_42, s125_43, s125_44, s125_45, s125_46, s125_47, Option.toList_some, Option.toList_none, List.cons_append, List.nil_append, Nat.le_refl, true_and, and_true, true_or, or_true, false_or, or_false, true_implies, false_implies, implies_true, not_true_eq_false, not_false_eq_true, eq_self, Nat.reduceLT, Nat.reduceLeDiff, Nat.reduceEqDiff, Nat.reduceAdd, Nat.reduceSub, Int.reduceLT, Int.reduceLE, Int.reduceEq, Int.reduceNeg, Int.reduceNe, Int.reduceAdd, Int.reduceSub, Int.reduceMul, Int.reduceToNat, Int.toNat_zero, Int.toNat_one, Int.toNat_natCast, am_cats, am_cat, am_st1, am_st2, am_clr, up2_na, up2_nj, up2_same, List.getElem?_cons_zero, List.getElem?_cons_succ, List.set_cons_zero, List.set_cons_succ, ne_eq, tk_0 hh, tk_17 hh, tk_18 hh, tk_19 hh, tk_20 hh, tk_21 hh, tk_23 hh, rk_0_7 hh, rk_17_0 hh, rk_18_0 hh, rk_18_1 hh, rk_18_2 hh, rk_18_4 hh, i5, e1, f19, f20, f21, f23, u1, u2, hp0]
      exact go
    · rw [agS, if_neg hp0] at tail
      generalize hD : drw (agS I x0 TT Z i).1 = dr at *
      have go : wpc codeT mX (d + 5) 68 [.inr (.inr (some 0)), .inl (HH i : Int), .inl (TT i : Int), .inr (.inr (some 54)), .inl (I 159 i)] (185, s, T, I1, J, R) (fun v h1 => (185 ≤ h1.1 ∧ s ≤ h1.2.1) ∧ wp codeT mX (d + 6) 125 62 [some (.inr (.inr (some 0))), some (.inl (agS I x0 TT Z i).2), some (.inl dr), some (.inl (i : Int)), some (.inl (HH i : Int)), some (.inl (TT i : Int)), some (.inl (I 159 i))] (v.toList ++ [.inl (TT i : Int), .inl dr, .inr (.inr (some 0)), .inl (agS I x0 TT Z i).2]) h1 Q) := by
        refine x68 (d := d) (p := 54) (F := F i) (U := U i) (S := S i) (V := V i) (mode := I 13 (TT i)) hh (Or.inr rfl) h6 t8 ns6 (fun v h9 h5 hh6 => ?_) ((frZ_lo hf (by decide)).trans hns) (frZ_lo hf (by decide)) (fun k _ => by rw [hU]; exact frZ_lo hf (by omega)) (fun k _ => by rw [hS]; exact frZ_sh hf h6) (fun k hk _ => frZ_G hf (hV i k iN (by omega))) (fun I2 f2 => ⟨⟨Nat.le_refl _, Nat.le_refl _⟩, ?_⟩)
        · have fc : ∀ x j, 157 ≤ x → x ≤ 161 → I1 x j = I x j := fun x j h1 h2 => frZ_hi hf (by omega) (by omega) (by omega) (by omega)
          rw [tdI_v (N := i) (by omega) h6 t8 (psP_R hf hp) v h9 h5 hh6, hF i iN, mny_of (I := I) i (fun q _ => ⟨fc 157 q (by decide) (by decide), fc 158 q (by decide) (by decide)⟩), lsF_of (I := I) i (fun q _ => ⟨fc 157 q (by decide) (by decide), fc 158 q (by decide) (by decide), fc 159 q (by decide) (by decide)⟩), snF_of (I := I) i (fun q _ => ⟨fc 157 q (by decide) (by decide), fc 158 q (by decide) (by decide)⟩), alF_of (I := I) i (fun q _ => fc 157 q (by decide) (by decide)), frZ_lo hf (show 14 < 54 by decide)]
        · rw [hZ i iN]
          have t2 := tail I2 (frZ_W hf f2) (psR_W f2 hp)
          have f14 : I2 14 (TT i) = I 14 (TT i) := (frW_lo f2 (by decide)).trans (frZ_lo hf (by decide))
          have r01 := rtX_01 (a := I 14 (TT i)) (b := Z i) (c := dr)
          by_cases h0 : rtX (I 14 (TT i)) (Z i) dr = 0
          · rw [h0] at t2
            simp only [s125_62, s125_63, s125_64, s125_65, s125_66, s125_67, s125_68, Option.toList_some, Option.toList_none, List.cons_append, List.nil_append, Nat.le_refl, true_and, and_true, true_or, or_true, false_or, or_false, true_implies, false_implies, implies_true, not_true_eq_false, not_false_eq_true, eq_self, Nat.reduceLT, Nat.reduceLeDiff, Nat.reduceEqDiff, Nat.reduceAdd, Nat.reduceSub, Int.reduceLT, Int.reduceLE, Int.reduceEq, Int.reduceNeg, Int.reduceNe, Int.reduceAdd, Int.reduceSub, Int.reduceMul, Int.reduceToNat, Int.toNat_zero, Int.toNat_one, Int.toNat_natCast, am_cats, am_cat, am_st1, am_st2, am_clr, up2_na, up2_nj, up2_same, List.getElem?_cons_zero, List.getElem?_cons_succ, List.set_cons_zero, List.set_cons_succ, ne_eq, tk_0 hh, k70 hh t8, f14, h0]
            exact t2
          · have h1' : rtX (I 14 (TT i)) (Z i) dr = 1 := by omega
            rw [h1'] at t2
            simp only [s125_62, s125_63, s125_64, s125_65, s125_66, s125_67, s125_68, Option.toList_some, Option.toList_none, List.cons_append, List.nil_append, Nat.le_refl, true_and, and_true, true_or, or_true, false_or, or_false, true_implies, false_implies, implies_true, not_true_eq_false, not_false_eq_true, eq_self, Nat.reduceLT, Nat.reduceLeDiff, Nat.reduceEqDiff, Nat.reduceAdd, Nat.reduceSub, Int.reduceLT, Int.reduceLE, Int.reduceEq, Int.reduceNeg, Int.reduceNe, Int.reduceAdd, Int.reduceSub, Int.reduceMul, Int.reduceToNat, Int.toNat_zero, Int.toNat_one, Int.toNat_natCast, am_cats, am_cat, am_st1, am_st2, am_clr, up2_na, up2_nj, up2_same, List.getElem?_cons_zero, List.getElem?_cons_succ, List.set_cons_zero, List.set_cons_succ, ne_eq, tk_0 hh, k70 hh t8, f14, h1']
            exact t2
      refine s125_10.mpr ?_
      simp only [s125_11, s125_12, s125_13, s125_14, s125_15, s125_16, s125_17, s125_18, s125_19, s125_20, s125_21, s125_22, s125_23, s125_24, s125_25, s125_26, s125_27, s125_28, s125_29, s125_30, s125_31, s125_32, s125_33, s125_34, s125_35, s125_36, s125_37, s125_38, s125_39, s125_40, s125_41, s125_42, s125_43, s125_44, s125_45, s125_46, s125_47, s125_48, s125_49, s125_50, s125_51, s125_52, s125_53, s125_54, s125_55, s125_56, s125_57, s125_58, s125_59, s125_60, s125_61, Option.toList_some, Option.toList_none, List.cons_append, List.nil_append, Nat.le_refl, true_and, and_true, true_or, or_true, false_or, or_false, true_implies, false_implies, implies_true, not_true_eq_false, not_false_eq_true, eq_self, Nat.reduceLT, Nat.reduceLeDiff, Nat.reduceEqDiff, Nat.reduceAdd, Nat.reduceSub, Int.reduceLT, Int.reduceLE, Int.reduceEq, Int.reduceNeg, Int.reduceNe, Int.reduceAdd, Int.reduceSub, Int.reduceMul, Int.reduceToNat, Int.toNat_zero, Int.toNat_one, Int.toNat_natCast, am_cats, am_cat, am_st1, am_st2, am_clr, up2_na, up2_nj, up2_same, List.getElem?_cons_zero, List.getElem?_cons_succ, List.set_cons_zero, List.set_cons_succ, ne_eq, tk_0 hh, tk_17 hh, tk_18 hh, tk_19 hh, tk_20 hh, tk_21 hh, tk_23 hh, tk_54 hh, rk_0_7 hh, rk_0_8 hh, rk_17_0 hh, rk_18_0 hh, rk_18_1 hh, rk_18_2 hh, rk_18_4 hh, k69, i5, e1, f19, f20, f21, f23, u1, u2, hp0, hD]
      exact go
set_option maxHeartbeats 2000000 in
theorem ag_m (hh : hp T R) {N ns : Nat} (hN : I 152 4 = N) (N2 : N ≤ 200) (hns : I 152 1 = ns) (ns6 : ns ≤ 6) {HH TT : Nat → Nat} {F U S V : Nat → Nat → Int} {Z : Nat → Int} {x0 x : Int} (h1 : ∀ i, i < N → HH i < 6 ∧ TT i < 8 ∧ I 157 i = HH i ∧ I 158 i = TT i) (hT : ∀ i, i < N → I 14 (TT i) = I 156 (TT i) ∧ I 13 (TT i) = I 155 (TT i) ∧ 0 ≤ I 14 (TT i) ∧ I 14 (TT i) ≤ 100) (hF : ∀ i, i < N → F i = ltF (mny I (HH i) (TT i) i) (lsF I (HH i) (TT i) i) (snF I (HH i) (TT i) i) (alF I (HH i) i) (I 14 (TT i)) (TT i) (I 159 i)) (hU : ∀ i k, i < N → k < 6 → U i k = I 154 (6 * TT i + k)) (hS : ∀ i k, i < N → k < 6 → S i k = I 153 (6 * HH i + k)) (hV : ∀ i k, i < N → k < 6 → lwG I R k (ftK (F i) (U i k) (S i k)) (V i k)) (hZ : ∀ i, i < N → hvM (fun k => gvF (V i k) (S i k)) (U i) (I 13 (TT i)) ns = Z i) (zb : ∀ i, i < N → 0 ≤ Z i ∧ Z i ≤ 100) (hQ : ∀ I2, Q (some (.inl (agS I x0 TT Z N).2)) (185, s, T, I2, J, R)) : ∀ (r i : Nat), i + r = N → ∀ (I1 : Nat → Nat → Int), frZ I I1 → I1 152 6 = (agS I x0 TT Z i).1 → wp codeT mX (d + 5) 207 11 [some (.inr (.inr (some 152))), some (.inl x), some (.inl (agS I x0 TT Z i).2), some (.inl (i : Int))] [] (185, s, T, I1, J, R) Q := by
  intro r
  induction r with
  | zero =>
    intro i hi I1 hf hx
    have hi : i = N := by omega
    subst hi
    have e1 : I1 152 4 = i := (frZ_hi hf (by decide) (by decide) (by decide) (by omega)).trans hN
    refine s207_11.mpr ?_
    simp only [s207_12, s207_13, s207_14, s207_48, s207_49, s207_50, s207_51, s207_52, Option.toList_some, Option.toList_none, List.cons_append, List.nil_append, Nat.le_refl, true_and, and_true, true_or, or_true, false_or, or_false, true_implies, false_implies, implies_true, not_true_eq_false, not_false_eq_true, eq_self, Nat.reduceLT, Nat.reduceLeDiff, Nat.reduceEqDiff, Nat.reduceAdd, Nat.reduceSub, Int.reduceLT, Int.reduceLE, Int.reduceEq, Int.reduceNeg, Int.reduceNe, Int.reduceAdd, Int.reduceSub, Int.reduceMul, Int.reduceToNat, Int.toNat_zero, Int.toNat_one, Int.toNat_natCast, am_cats, am_cat, am_st1, am_st2, am_clr, up2_na, up2_nj, up2_same, List.getElem?_cons_zero, List.getElem?_cons_succ, List.set_cons_zero, List.set_cons_succ, ne_eq, tk_152 hh, e1, Int.lt_irrefl]
    exact hQ _
  | succ r ih =>
    intro i hi I1 hf hx
    have iN : i < N := by omega
    obtain ⟨h6, t8, e7, e8⟩ := h1 i iN
    obtain ⟨q1, q2, q3, q4⟩ := hT i iN
    have e1 : I1 152 4 = N := (frZ_hi hf (by decide) (by decide) (by decide) (by omega)).trans hN
    have f7 : I1 157 i = (HH i : Int) := (frZ_hi hf (by decide) (by decide) (by decide) (by omega)).trans e7
    have f8 : I1 158 i = (TT i : Int) := (frZ_hi hf (by decide) (by decide) (by decide) (by omega)).trans e8
    have f9 : I1 159 i = I 159 i := frZ_hi hf (by decide) (by decide) (by decide) (by omega)
    have f61 : I1 161 i = I 161 i := frZ_hi hf (by decide) (by decide) (by decide) (by omega)
    have u1 : (i : Int) < (N : Int) := by omega
    have u2 : 0 ≤ (i : Int) ∧ (i : Int) < ((200 : Nat) : Int) := by omega
    have i2 : i ≤ 1080 := by omega
    by_cases hp0 : I 161 i = -1
    · have nx := ih (i + 1) (by omega) I1 hf
      rw [agS, if_pos hp0] at nx
      have nx := nx hx
      refine s207_11.mpr ?_
      simp only [s207_12, s207_13, s207_14, s207_15, s207_16, s207_17, s207_18, s207_19, s207_20, s207_21, s207_46, s207_47, Option.toList_some, Option.toList_none, List.cons_append, List.nil_append, Nat.le_refl, true_and, and_true, true_or, or_true, false_or, or_false, true_implies, false_implies, implies_true, not_true_eq_false, not_false_eq_true, eq_self, Nat.reduceLT, Nat.reduceLeDiff, Nat.reduceEqDiff, Nat.reduceAdd, Nat.reduceSub, Int.reduceLT, Int.reduceLE, Int.reduceEq, Int.reduceNeg, Int.reduceNe, Int.reduceAdd, Int.reduceSub, Int.reduceMul, Int.reduceToNat, Int.toNat_zero, Int.toNat_one, Int.toNat_natCast, am_cats, am_cat, am_st1, am_st2, am_clr, up2_na, up2_nj, up2_same, List.getElem?_cons_zero, List.getElem?_cons_succ, List.set_cons_zero, List.set_cons_succ, ne_eq, tk_152 hh, tk_161 hh, rk_152_15 hh, e1, f61, u1, u2, hp0, w32_s i2]
      exact nx
    · have nx := ih (i + 1) (by omega)
      rw [agS, if_neg hp0] at nx
      have go : wpc codeT mX (d + 4) 171 [.inr (.inr (some 152)), .inl (HH i : Int), .inl (TT i : Int), .inl (i : Int), .inl (I 159 i)] (185, s, T, I1, J, R) (fun v h1 => (185 ≤ h1.1 ∧ s ≤ h1.2.1) ∧ wp codeT mX (d + 5) 207 43 [some (.inr (.inr (some 152))), some (.inl x), some (.inl (agS I x0 TT Z i).2), some (.inl (i : Int))] (v.toList ++ [.inl (TT i : Int), .inr (.inr (some 152)), .inl (agS I x0 TT Z i).2]) h1 Q) := by
        refine x171 (d := d) (F := F i) (U := U i) (S := S i) (V := V i) (mode := I 13 (TT i)) hh h6 t8 ns6 (by omega) (fun v h9 h5 hh6 => ?_) ((frZ_hi hf (by decide) (by decide) (by decide) (by omega)).trans hns) ((frZ_hi hf (by decide) (by decide) (by decide) (by omega)).trans q2.symm) (fun k hk => by rw [hU i k iN hk]; exact frZ_hi hf (by decide) (by decide) (by decide) (by omega)) (fun k hk => by rw [hS i k iN hk]; exact frZ_hi hf (by decide) (by decide) (by decide) (by omega)) (fun k hk _ => frZ_G hf (hV i k iN (by omega))) (fun I2 f2 => ⟨⟨Nat.le_refl _, Nat.le_refl _⟩, ?_⟩)
        · have fc : ∀ x j, 157 ≤ x → x ≤ 161 → I1 x j = I x j := fun x j h1 h2 => frZ_hi hf (by omega) (by omega) (by omega) (by omega)
          rw [flI_v v h9 h5 hh6, hF i iN, mny_of (I := I) i (fun q _ => ⟨fc 157 q (by decide) (by decide), fc 158 q (by decide) (by decide)⟩), lsF_of (I := I) i (fun q _ => ⟨fc 157 q (by decide) (by decide), fc 158 q (by decide) (by decide), fc 159 q (by decide) (by decide)⟩), snF_of (I := I) i (fun q _ => ⟨fc 157 q (by decide) (by decide), fc 158 q (by decide) (by decide)⟩), alF_of (I := I) i (fun q _ => fc 157 q (by decide) (by decide)), frZ_hi hf (show 152 ≤ 156 by decide) (by decide) (by decide) (by omega), ← q1]
        · rw [hZ i iN]
          have f6 : I2 152 6 = (agS I x0 TT Z i).1 := (frW_hi f2 (by decide) (by decide) (by decide)).trans hx
          have f156 : I2 156 (TT i) = I 14 (TT i) := ((frW_hi f2 (by decide) (by decide) (by decide)).trans (frZ_hi hf (by decide) (by decide) (by decide) (by omega))).trans q1.symm
          have er := rt_eq (x := drw (agS I x0 TT Z i).1) ⟨q3, q4⟩ (zb i iN)
          have t2 := nx (up2 I2 152 6 (drw (agS I x0 TT Z i).1)) (frZ_x (frZ_W hf f2)) up2_v
          rw [er] at t2
          simp only [s207_43, s207_44, s207_45, s207_46, s207_47, Option.toList_some, Option.toList_none, List.cons_append, List.nil_append, Nat.le_refl, true_and, and_true, true_or, or_true, false_or, or_false, true_implies, false_implies, implies_true, not_true_eq_false, not_false_eq_true, eq_self, Nat.reduceLT, Nat.reduceLeDiff, Nat.reduceEqDiff, Nat.reduceAdd, Nat.reduceSub, Int.reduceLT, Int.reduceLE, Int.reduceEq, Int.reduceNeg, Int.reduceNe, Int.reduceAdd, Int.reduceSub, Int.reduceMul, Int.reduceToNat, Int.toNat_zero, Int.toNat_one, Int.toNat_natCast, am_cats, am_cat, am_st1, am_st2, am_clr, up2_na, up2_nj, up2_same, List.getElem?_cons_zero, List.getElem?_cons_succ, List.set_cons_zero, List.set_cons_succ, ne_eq, tk_152 hh, k172 hh t8, f6, f156, w32_s i2]
          exact t2
      refine s207_11.mpr ?_
      simp only [s207_12, s207_13, s207_14, s207_15, s207_16, s207_17, s207_18, s207_19, s207_20, s207_21, s207_22, s207_23, s207_24, s207_25, s207_26, s207_27, s207_28, s207_29, s207_30, s207_31, s207_32, s207_33, s207_34, s207_35, s207_36, s207_37, s207_38, s207_39, s207_40, s207_41, s207_42, Option.toList_some, Option.toList_none, List.cons_append, List.nil_append, Nat.le_refl, true_and, and_true, true_or, or_true, false_or, or_false, true_implies, false_implies, implies_true, not_true_eq_false, not_false_eq_true, eq_self, Nat.reduceLT, Nat.reduceLeDiff, Nat.reduceEqDiff, Nat.reduceAdd, Nat.reduceSub, Int.reduceLT, Int.reduceLE, Int.reduceEq, Int.reduceNeg, Int.reduceNe, Int.reduceAdd, Int.reduceSub, Int.reduceMul, Int.reduceToNat, Int.toNat_zero, Int.toNat_one, Int.toNat_natCast, am_cats, am_cat, am_st1, am_st2, am_clr, up2_na, up2_nj, up2_same, List.getElem?_cons_zero, List.getElem?_cons_succ, List.set_cons_zero, List.set_cons_succ, ne_eq, tk_152 hh, tk_157 hh, tk_158 hh, tk_159 hh, tk_161 hh, rk_152_11 hh, rk_152_12 hh, rk_152_13 hh, rk_152_15 hh, e1, f7, f8, f9, f61, u1, u2, hp0]
      exact go
end
section
variable {L s d : Nat} {X : Nat → Int}
set_option maxHeartbeats 2000000 in
theorem px_again0 (hL : L ≤ 3072) (hX : ∀ j, rg32 (X j)) (hd : 40 ≤ d) : prx L X s LAV (fun _ => True) d 125 207 0 false true := by
  refine px_eq (cx := cn130) (cm := cn174) (nx := 6) (nm := 3) hL hX (cn_all 130 (by decide) cn130 rfl) (cn_all 174 (by decide) cn174 rfl) rfl hd (fun as s T I J R hl hr hH hP => ?_)
  have has : as = [] := List.length_eq_zero_iff.mp hl
  subst has
  obtain ⟨e, rfl⟩ : ∃ e, d = e + 6 := ⟨d - 6, by omega⟩
  have hh := hp_of (eH5_of hH)
  obtain ⟨⟨hK, ⟨⟨hR, -, -⟩, hU0⟩, hW⟩, hV0⟩ := hP
  have hK : LK I := hK
  have hR : lkR I := hR
  have hU0 : lkU I := hU0
  have hV0 : lkV I := hV0
  obtain ⟨l0, l1, l2, l3, l4, l5, l6, l7, l8, l9, l10, l11, l12, -⟩ := hK
  have e1 : I 0 1 = I 152 1 := l1
  have ef : I 0 3 = I 152 5 := l3
  have e3 : I 3 3 = I 152 3 := l5
  have e4 : I 17 3 = I 152 4 := l6
  have b1 : 0 ≤ I 0 1 ∧ I 0 1 ≤ 6 := ebd hH (by decide) (by decide) (by decide)
  have b4 : 0 ≤ I 17 3 ∧ I 17 3 ≤ 200 := ebd hH (by decide) (by decide) (by decide)
  obtain ⟨N, hN⟩ : ∃ n : Nat, I 17 3 = n := ⟨(I 17 3).toNat, by omega⟩
  obtain ⟨ns, hns⟩ : ∃ n : Nat, I 0 1 = n := ⟨(I 0 1).toNat, by omega⟩
  have N2 : N ≤ 200 := by omega
  have ns6 : ns ≤ 6 := by omega
  obtain ⟨HH, hHH⟩ : ∃ f : Nat → Nat, f = fun i => (I 157 i).toNat := ⟨_, rfl⟩
  obtain ⟨TT, hTT⟩ : ∃ f : Nat → Nat, f = fun i => (I 158 i).toNat := ⟨_, rfl⟩
  have c7 : ∀ i, i < N → HH i < 6 ∧ TT i < 8 ∧ I 157 i = HH i ∧ I 158 i = TT i := by
    intro i hi
    have x7 : 0 ≤ I 157 i ∧ I 157 i ≤ 5 := ebd hH (by decide) (by show i < 200; omega) ((bI_hi (by decide)).trans (by decide))
    have x8 : 0 ≤ I 158 i ∧ I 158 i ≤ 7 := ebd hH (by decide) (by show i < 200; omega) ((bI_hi (by decide)).trans (by decide))
    rw [hHH, hTT]
    dsimp only
    omega
  have cT : ∀ i, i < N → (TT i : Int) < I 3 3 := fun i hi => by
    have := hV0 i (by omega)
    have := (c7 i hi).2.2.2
    omega
  obtain ⟨F, hF⟩ : ∃ F : Nat → Nat → Int, F = fun i => ltF (mny I (HH i) (TT i) i) (lsF I (HH i) (TT i) i) (snF I (HH i) (TT i) i) (alF I (HH i) i) (I 14 (TT i)) (TT i) (I 159 i) := ⟨_, rfl⟩
  obtain ⟨U, hU⟩ : ∃ U : Nat → Nat → Int, U = fun i k => I (5 + TT i) k := ⟨_, rfl⟩
  obtain ⟨S, hS⟩ : ∃ S : Nat → Nat → Int, S = fun i k => I (88 + HH i) k := ⟨_, rfl⟩
  obtain ⟨V, hV⟩ : ∃ V : Nat → Nat → Int, ∀ i k, k < 6 → lwG I R k (ftK (F i) (U i k) (S i k)) (V i k) ∧ 0 ≤ V i k ∧ V i k ≤ 100 := ⟨fun i => (lwG_all hW (F i) (U i) (S i)).choose, fun i => (lwG_all hW (F i) (U i) (S i)).choose_spec⟩
  obtain ⟨Z, hZ⟩ : ∃ Z : Nat → Int, Z = fun i => hvX (fun k => gvF (V i k) (S i k)) (U i) (I 13 (TT i)) ns := ⟨_, rfl⟩
  have gb : ∀ i, i < N → ∀ k, k < ns → 0 ≤ gvF (V i k) (S i k) ∧ gvF (V i k) (S i k) ≤ 100 := fun i hi k hk => gvF_b (hV i k (by omega)).2 (by rw [hS]; exact hU0 (HH i) k (c7 i hi).1 (by omega))
  have zb : ∀ i, i < N → 0 ≤ Z i ∧ Z i ≤ 100 := fun i hi => by rw [hZ]; exact hvX_b (n := ns) (gb i hi) ns (Nat.le_refl _)
  have zM : ∀ i, i < N → hvM (fun k => gvF (V i k) (S i k)) (U i) (I 13 (TT i)) ns = Z i := by
    intro i hi
    obtain ⟨-, -, -, -, -, -, -, -, -, tk⟩ := l11.1 (TT i) (c7 i hi).2.1 (cT i hi)
    rcases hv_eq (G := fun k => gvF (V i k) (S i k)) (U := U i) (mode := I 13 (TT i)) (n := ns) (gb i hi) (fun k hk => by rw [hU]; exact (tk k (by omega)).2.1) ns (Nat.le_refl _) with ⟨-, -, q⟩ | ⟨q, -⟩
    · obtain ⟨k, k6, kn, k0⟩ := lkT_some l11 (c7 i hi).2.1 (cT i hi) hns
      have := q k kn
      rw [hU] at this
      dsimp only at this
      omega
    · rw [hZ]
      exact q.symm
  refine ⟨(agS I (I 0 3) TT Z N).2, ?_⟩
  have ax := ag_x (d := e) (s := s) (J := J) (x0 := I 0 3) (Q := fun v g1 => v = some (ansV false (agS I (I 0 3) TT Z N).2) ∧ (eH g1 → eM cn130.2.2.2.1 (185, s, T, I, J, R) g1 → wpc codeT mX (e + 6) 207 [.inr (.inr (some 152))] g1 (fun v2 _ => v2 = some (ansV false (agS I (I 0 3) TT Z N).2)))) hh l12 hR hN N2 hns ns6 c7 (fun i _ => by rw [hF]) (fun i => by rw [hU]) (fun i => by rw [hS]) (fun i k _ hk => (hV i k hk).1) (fun i _ => by rw [hZ]) (fun I2 f2 => ⟨rfl, fun _ _ => by
    have am := ag_m (d := e + 1) (s := s) (J := J) (x0 := I 0 3) (x := I2 152 6) (Q := fun v2 _ => v2 = some (ansV false (agS I (I 0 3) TT Z N).2)) hh (e4.symm.trans hN) N2 (e1.symm.trans hns) ns6 c7 (fun i hi => by
      obtain ⟨ta, tb, -, -, tc, td, -⟩ := l11.1 (TT i) (c7 i hi).2.1 (cT i hi)
      exact ⟨tb, ta, tc, td⟩) (fun i _ => by rw [hF]) (fun i k hi hk => by
      obtain ⟨-, -, -, -, -, -, -, -, -, tk⟩ := l11.1 (TT i) (c7 i hi).2.1 (cT i hi)
      rw [hU]
      exact (tk k hk).1) (fun i k hi hk => by rw [hS]; exact l10 (HH i) k (c7 i hi).1 hk) (fun i k _ hk => (hV i k hk).1) zM zb (fun _ => rfl) N 0 (Nat.zero_add _) (up2 I2 152 6 (I 0 3)) (frZ_x f2) up2_v
    have f5 : I2 152 5 = I 0 3 := (frZ_hi f2 (by decide) (by decide) (by decide) (by decide)).trans ef.symm
    simp only [s207_0, s207_1, s207_2, s207_3, s207_4, s207_5, s207_6, s207_7, s207_8, s207_9, s207_10, e207, Option.toList_some, Option.toList_none, List.cons_append, List.nil_append, Nat.le_refl, true_and, and_true, true_or, or_true, false_or, or_false, true_implies, false_implies, implies_true, not_true_eq_false, not_false_eq_true, eq_self, Nat.reduceLT, Nat.reduceLeDiff, Nat.reduceEqDiff, Nat.reduceAdd, Nat.reduceSub, Int.reduceLT, Int.reduceLE, Int.reduceEq, Int.reduceNeg, Int.reduceNe, Int.reduceAdd, Int.reduceSub, Int.reduceMul, Int.reduceToNat, Int.toNat_zero, Int.toNat_one, Int.toNat_natCast, am_cats, am_cat, am_st1, am_st2, am_clr, up2_na, up2_nj, up2_same, List.getElem?_cons_zero, List.getElem?_cons_succ, List.set_cons_zero, List.set_cons_succ, ne_eq, tk_152 hh, f5]
    exact am⟩)
  have cl : wpc codeT mX (e + 5) 126 [.inr (.inr (some 54))] (185, s, T, I, J, R) (fun v h1 => (185 ≤ h1.1 ∧ s ≤ h1.2.1) ∧ wp codeT mX (e + 6) 125 8 [some (.inr (.inr (some 0))), some (.inl 0), some (.inl (I 0 3)), none, none, none, none] (v.toList ++ []) h1 (fun v g1 => v = some (ansV false (agS I (I 0 3) TT Z N).2) ∧ (eH g1 → eM cn130.2.2.2.1 (185, s, T, I, J, R) g1 → wpc codeT mX (e + 6) 207 [.inr (.inr (some 152))] g1 (fun v2 _ => v2 = some (ansV false (agS I (I 0 3) TT Z N).2))))) := by
    refine x126 (d := e + 4) hh (fun I1 f1 f2 f3 => ⟨⟨Nat.le_refl _, Nat.le_refl _⟩, ?_⟩)
    have go := ax N 0 (Nat.zero_add _) I1 none none none (fun a j h0 _ _ _ _ _ => f1 a j (by omega)) (fun h h6 => ⟨f2 h h6, fun t ht => ⟨f3 h t h6 ht, fun z => absurd rfl z⟩⟩)
    simp only [s125_8, s125_9, Option.toList_some, Option.toList_none, List.cons_append, List.nil_append, Nat.le_refl, true_and, and_true, true_or, or_true, false_or, or_false, true_implies, false_implies, implies_true, not_true_eq_false, not_false_eq_true, eq_self, Nat.reduceLT, Nat.reduceLeDiff, Nat.reduceEqDiff, Nat.reduceAdd, Nat.reduceSub, Int.reduceLT, Int.reduceLE, Int.reduceEq, Int.reduceNeg, Int.reduceNe, Int.reduceAdd, Int.reduceSub, Int.reduceMul, Int.reduceToNat, Int.toNat_zero, Int.toNat_one, Int.toNat_natCast, am_cats, am_cat, am_st1, am_st2, am_clr, up2_na, up2_nj, up2_same, List.getElem?_cons_zero, List.getElem?_cons_succ, List.set_cons_zero, List.set_cons_succ, ne_eq]
    exact go
  show wpc codeT mX (e + 6) 125 [.inr (.inr (some 0))] (185, s, T, I, J, R) _
  simp only [s125_0, s125_1, s125_2, s125_3, s125_4, s125_5, s125_6, s125_7, e125, Option.toList_some, Option.toList_none, List.cons_append, List.nil_append, Nat.le_refl, true_and, and_true, true_or, or_true, false_or, or_false, true_implies, false_implies, implies_true, not_true_eq_false, not_false_eq_true, eq_self, Nat.reduceLT, Nat.reduceLeDiff, Nat.reduceEqDiff, Nat.reduceAdd, Nat.reduceSub, Int.reduceLT, Int.reduceLE, Int.reduceEq, Int.reduceNeg, Int.reduceNe, Int.reduceAdd, Int.reduceSub, Int.reduceMul, Int.reduceToNat, Int.toNat_zero, Int.toNat_one, Int.toNat_natCast, am_cats, am_cat, am_st1, am_st2, am_clr, up2_na, up2_nj, up2_same, List.getElem?_cons_zero, List.getElem?_cons_succ, List.set_cons_zero, List.set_cons_succ, ne_eq, tk_0 hh, tk_54 hh, rk_0_8 hh]
  exact cl
theorem pv_again (hL : L ≤ 3072) (hX : ∀ j, rg32 (X j)) (hd : 40 ≤ d) : prx L X s LAV (fun g => lkV g.2.2.2.1) d 125 207 0 false true := px_true (pv_fr (cx := cn130) (cm := cn174) (nx := 6) (nm := 3) hL hX (cn_all 130 (by decide) cn130 rfl) (cn_all 174 (by decide) cn174 rfl) rfl rfl hd (by decide +kernel)) (px_again0 hL hX hd)
end
