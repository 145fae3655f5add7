/-! the law's two readers, 18: what a head has, both ways; does -/
/-- the letters, told by numbers alone -/
def ltF (n last since al hard t day : Int) (v : Nat) : Int := if v = 0 then n else if v = 1 then (if n = 0 then 300 else w32 (day - last)) else if v = 2 then (if n = 0 then 0 else since) else if v = 3 then al else if v = 4 then hard else if v = 7 then t else if v = 8 then day else 0
/-- what the past at p says of the first N answers -/
def psP (I : Nat → Nat → Int) (p N : Nat) : Prop := ∀ h : Nat, h < 6 → I (p + 8) h = alF I h N ∧ ∀ t : Nat, t < 8 → I (p + 2 + h) t = mny I h t N ∧ (mny I h t N ≠ 0 → I (p + 10 + h) t = lsF I h t N ∧ I (p + 17 + h) t = alF I h N - snF I h t N)
theorem up2_v {I : Nat → Nat → Int} {a j : Nat} {v : Int} : up2 I a j v a j = v := up2_same _ _ _ _
theorem flI_v {I : Nat → Nat → Int} {h t n : Nat} {day : Int} : ∀ v, v < 9 → v ≠ 5 → v ≠ 6 → flI I h t n day 174 v = ltF (mny I h t n) (lsF I h t n) (snF I h t n) (alF I h n) (I 156 t) t day v := by
  intro v h9 h5 h6
  have k : v = 0 ∨ v = 1 ∨ v = 2 ∨ v = 3 ∨ v = 4 ∨ v = 7 ∨ v = 8 := by omega
  unfold flI
  rcases k with rfl | rfl | rfl | rfl | rfl | rfl | rfl
  · rw [up2_nj (by decide), up2_nj (by decide), up2_nj (by decide), up2_nj (by decide), up2_nj (by decide), up2_nj (by decide), up2_v]
    rfl
  · rw [up2_nj (by decide), up2_nj (by decide), up2_nj (by decide), up2_nj (by decide), up2_nj (by decide), up2_v]
    rfl
  · rw [up2_nj (by decide), up2_nj (by decide), up2_nj (by decide), up2_nj (by decide), up2_v]
    rfl
  · rw [up2_nj (by decide), up2_nj (by decide), up2_nj (by decide), up2_v]
    rfl
  · rw [up2_nj (by decide), up2_nj (by decide), up2_v]
    rfl
  · rw [up2_nj (by decide), up2_v]
    rfl
  · rw [up2_v]
    rfl
theorem tdI_v {I : Nat → Nat → Int} {p h t N : Nat} {day : Int} (hN : N ≤ 200) (h6 : h < 6) (t8 : t < 8) (hp : psP I p N) : ∀ v, v < 9 → v ≠ 5 → v ≠ 6 → tdI I p h t day 78 v = ltF (mny I h t N) (lsF I h t N) (snF I h t N) (alF I h N) (I 14 t) t day v := by
  obtain ⟨g1, g2⟩ := hp h h6
  obtain ⟨g3, g4⟩ := g2 t t8
  have b := snF_bd I h t N
  have ed : dyX I p h t day = if mny I h t N = 0 then 300 else w32 (day - lsF I h t N) := by
    unfold dyX
    rw [g3]
    by_cases z : mny I h t N = 0
    · rw [if_pos z, if_pos z]
    · rw [if_neg z, if_neg z, (g4 z).1]
  have eo : otX I p h t = if mny I h t N = 0 then 0 else snF I h t N := by
    unfold otX
    rw [g3]
    by_cases z : mny I h t N = 0
    · rw [if_pos z, if_pos z]
    · rw [if_neg z, if_neg z, (g4 z).2, g1, show alF I h N - (alF I h N - snF I h t N) = snF I h t N by omega]
      exact w32_eq (by omega) (by omega)
  intro v h9 h5 h6
  have k : v = 0 ∨ v = 1 ∨ v = 2 ∨ v = 3 ∨ v = 4 ∨ v = 7 ∨ v = 8 := by omega
  unfold tdI
  rw [ed, eo, g1, g3]
  rcases k with rfl | rfl | rfl | rfl | rfl | rfl | rfl
  · rw [up2_nj (by decide), up2_nj (by decide), up2_nj (by decide), up2_v]
    rfl
  · rw [up2_nj (by decide), up2_nj (by decide), up2_v]
    rfl
  · rw [up2_nj (by decide), up2_v]
    rfl
  · rw [up2_v]
    rfl
  · rw [up2_nj (by decide), up2_nj (by decide), up2_nj (by decide), up2_nj (by decide), up2_nj (by decide), up2_nj (by decide), up2_v]
    rfl
  · rw [up2_nj (by decide), up2_nj (by decide), up2_nj (by decide), up2_nj (by decide), up2_nj (by decide), up2_v]
    rfl
  · rw [up2_nj (by decide), up2_nj (by decide), up2_nj (by decide), up2_nj (by decide), up2_v]
    rfl
section
variable {d s h t : Nat} {T : Nat → Nat × Nat} {I J : Nat → Nat → Int} {R : Nat → Nat → Option Nat} {Q : Option AV → AH → Prop}
theorem tdI_fr {p : Nat} {day : Int} : frW I (tdI I p h t day) := by
  intro a j h1 _ _ _
  unfold tdI
  rw [up2_na h1, up2_na h1, up2_na h1, up2_na h1, up2_na h1, up2_na h1, up2_na h1]
theorem flI_fr {n : Nat} {day : Int} : frW I (flI I h t n day) := by
  intro a j _ _ h1 _
  unfold flI
  rw [up2_na h1, up2_na h1, up2_na h1, up2_na h1, up2_na h1, up2_na h1, up2_na h1]
theorem x68 (hh : hp T R) {p : Nat} (hp2 : p = 31 ∨ p = 54) (h6 : h < 6) (t8 : t < 8) {n : Nat} (n6 : n ≤ 6) {mode day : Int} {F U S V : Nat → Int} (hF : ∀ v, v < 9 → v ≠ 5 → v ≠ 6 → tdI I p h t day 78 v = F v) (hn : I 0 1 = n) (hmo : I 13 t = mode) (hU : ∀ k, k < 6 → I (5 + t) k = U k) (hS : ∀ k, k < 6 → I (88 + h) k = S k) (hg : ∀ k, k < n → 0 < U k → lwG I R k (ftK F (U k) (S k)) (V k)) (hQ : ∀ I2, frW I I2 → Q (some (.inl (hvX (fun k => gvF (V k) (S k)) U mode n))) (185, s, T, I2, J, R)) : wpc codeT mX (d + 5) 68 [.inr (.inr (some 0)), .inl (h : Int), .inl (t : Int), .inr (.inr (some p)), .inl day] (185, s, T, I, J, R) Q := by
  have go := fun l3 l4 l8 => hx_loop (d := d) (s := s) (J := J) (Q := Q) (mode := mode) (F := F) (V := V) (l3 := l3) (l4 := l4) hh h6 t8 n6 hn hU hS hg hQ n 0 (Nat.zero_add _) (tdI I p h t day) l8 tdI_fr hF
  have em : tdI I p h t day 13 t = mode := (tdI_fr 13 t (by decide) (by decide) (by decide) (fun q hq => by have := lawIds_b hq; exact ⟨by omega, fun z => by omega⟩)).trans hmo
  have u2 : 0 ≤ (t : Int) ∧ (t : Int) < ((8 : Nat) : Int) := by omega
  have hpT : T p = (8, 4) := by
    rcases hp2 with rfl | rfl
    · exact tk_31 hh
    · exact tk_54 hh
  have c0 : wpc codeT mX (d + 4) 52 [.inr (.inr (some 0)), .inl (h : Int), .inl (t : Int), .inr (.inr (some p)), .inl day] (185, s, T, I, J, R) (fun v h1 => (185 ≤ h1.1 ∧ s ≤ h1.2.1) ∧ wp codeT mX (d + 5) 68 6 [some (.inr (.inr (some 0))), some (.inl (h : Int)), some (.inl (t : Int)), some (.inr (.inr (some p))), some (.inl day), none, none, none, none] (v.toList ++ []) h1 Q) := by
    refine x52 hh hp2 h6 t8 ⟨⟨Nat.le_refl _, Nat.le_refl _⟩, ?_⟩
    by_cases m0 : mode = 0
    · have go := go (some (.inr (.inr (some p)))) (some (.inl day)) none
      rw [if_pos m0, hvX, if_pos m0] at go
      rw [m0] at em
      simp only [s68_6, s68_7, s68_8, s68_9, s68_10, s68_11, s68_12, s68_13, s68_15, s68_16, s68_17, s68_18, s68_19, s68_21, s68_22, s68_23, Option.toList_some, Option.toList_none, List.cons_append, List.nil_append, Nat.le_refl, true_and, and_true, true_or, or_true, false_or, or_false, true_implies, false_implies, implies_true, not_true_eq_false, not_false_eq_true, eq_self, Nat.reduceLT, Nat.reduceLeDiff, Nat.reduceEqDiff, Nat.reduceAdd, Nat.reduceSub, Int.reduceLT, Int.reduceLE, Int.reduceEq, Int.reduceNeg, Int.reduceNe, Int.reduceAdd, Int.reduceSub, Int.reduceMul, Int.reduceToNat, Int.toNat_zero, Int.toNat_one, Int.toNat_natCast, am_cats, am_cat, am_st1, am_st2, am_clr, up2_na, up2_nj, up2_same, List.getElem?_cons_zero, List.getElem?_cons_succ, List.set_cons_zero, List.set_cons_succ, ne_eq, tk_0 hh, tk_3 hh, tk_13 hh, rk_0_6 hh, rk_3_1 hh, em, u2]
      exact go
    · have go := go (some (.inr (.inr (some p)))) (some (.inl day)) none
      rw [if_neg m0, hvX, if_neg m0] at go
      simp only [s68_6, s68_7, s68_8, s68_9, s68_10, s68_11, s68_14, s68_15, s68_16, s68_17, s68_20, s68_21, s68_22, s68_23, Option.toList_some, Option.toList_none, List.cons_append, List.nil_append, Nat.le_refl, true_and, and_true, true_or, or_true, false_or, or_false, true_implies, false_implies, implies_true, not_true_eq_false, not_false_eq_true, eq_self, Nat.reduceLT, Nat.reduceLeDiff, Nat.reduceEqDiff, Nat.reduceAdd, Nat.reduceSub, Int.reduceLT, Int.reduceLE, Int.reduceEq, Int.reduceNeg, Int.reduceNe, Int.reduceAdd, Int.reduceSub, Int.reduceMul, Int.reduceToNat, Int.toNat_zero, Int.toNat_one, Int.toNat_natCast, am_cats, am_cat, am_st1, am_st2, am_clr, up2_na, up2_nj, up2_same, List.getElem?_cons_zero, List.getElem?_cons_succ, List.set_cons_zero, List.set_cons_succ, ne_eq, tk_0 hh, tk_3 hh, tk_13 hh, rk_0_6 hh, rk_3_1 hh, em, m0, u2]
      exact go
  simp only [s68_0, s68_1, s68_2, s68_3, s68_4, s68_5, e68, Option.toList_some, Option.toList_none, List.cons_append, List.nil_append, Nat.le_refl, true_and, and_true, true_or, or_true, false_or, or_false, true_implies, false_implies, implies_true, not_true_eq_false, not_false_eq_true, eq_self, Nat.reduceLT, Nat.reduceLeDiff, Nat.reduceEqDiff, Nat.reduceAdd, Nat.reduceSub, Int.reduceLT, Int.reduceLE, Int.reduceEq, Int.reduceNeg, Int.reduceNe, Int.reduceAdd, Int.reduceSub, Int.reduceMul, Int.reduceToNat, Int.toNat_zero, Int.toNat_one, Int.toNat_natCast, am_cats, am_cat, am_st1, am_st2, am_clr, up2_na, up2_nj, up2_same, List.getElem?_cons_zero, List.getElem?_cons_succ, List.set_cons_zero, List.set_cons_succ, ne_eq, tk_0 hh, hpT]
  exact c0
theorem x171 (hh : hp T R) (h6 : h < 6) (t8 : t < 8) {n N : Nat} (n6 : n ≤ 6) (hN : N ≤ 200) {mode day : Int} {F U S V : Nat → Int} (hF : ∀ v, v < 9 → v ≠ 5 → v ≠ 6 → flI I h t N day 174 v = F v) (hn : I 152 1 = n) (hmo : I 155 t = mode) (hU : ∀ k, k < 6 → I 154 (6 * t + k) = U k) (hS : ∀ k, k < 6 → I 153 (6 * h + k) = S k) (hg : ∀ k, k < n → ¬ U k = 0 → lwG I R k (ftK F (U k) (S k)) (V k)) (hQ : ∀ I2, frW I I2 → Q (some (.inl (hvM (fun k => gvF (V k) (S k)) U mode n))) (185, s, T, I2, J, R)) : wpc codeT mX (d + 4) 171 [.inr (.inr (some 152)), .inl (h : Int), .inl (t : Int), .inl (N : Int), .inl day] (185, s, T, I, J, R) Q := by
  have go := fun l3 l7 => hm_loop (d := d) (s := s) (J := J) (Q := Q) (mode := mode) (F := F) (V := V) (l3 := l3) (dy := day) hh h6 t8 n6 hn hmo hU hS hg hQ n 0 (Nat.zero_add _) (flI I h t N day) l7 flI_fr hF
  have c0 : wpc codeT mX (d + 3) 165 [.inr (.inr (some 152)), .inl (h : Int), .inl (t : Int), .inl (N : Int), .inl day] (185, s, T, I, J, R) (fun v h1 => (185 ≤ h1.1 ∧ s ≤ h1.2.1) ∧ wp codeT mX (d + 4) 171 6 [some (.inr (.inr (some 152))), some (.inl (h : Int)), some (.inl (t : Int)), some (.inl (N : Int)), some (.inl day), none, none, none] (v.toList ++ []) h1 Q) := by
    refine x165 hh t8 hN ⟨⟨Nat.le_refl _, Nat.le_refl _⟩, ?_⟩
    have go := go (some (.inl (N : Int))) none
    simp only [s171_6, s171_7, s171_8, s171_9, Option.toList_some, Option.toList_none, List.cons_append, List.nil_append, Nat.le_refl, true_and, and_true, true_or, or_true, false_or, or_false, true_implies, false_implies, implies_true, not_true_eq_false, not_false_eq_true, eq_self, Nat.reduceLT, Nat.reduceLeDiff, Nat.reduceEqDiff, Nat.reduceAdd, Nat.reduceSub, Int.reduceLT, Int.reduceLE, Int.reduceEq, Int.reduceNeg, Int.reduceNe, Int.reduceAdd, Int.reduceSub, Int.reduceMul, Int.reduceToNat, Int.toNat_zero, Int.toNat_one, Int.toNat_natCast, am_cats, am_cat, am_st1, am_st2, am_clr, up2_na, up2_nj, up2_same, List.getElem?_cons_zero, List.getElem?_cons_succ, List.set_cons_zero, List.set_cons_succ, ne_eq]
    exact go
  simp only [s171_0, s171_1, s171_2, s171_3, s171_4, s171_5, e171, Option.toList_some, Option.toList_none, List.cons_append, List.nil_append, Nat.le_refl, true_and, and_true, true_or, or_true, false_or, or_false, true_implies, false_implies, implies_true, not_true_eq_false, not_false_eq_true, eq_self, Nat.reduceLT, Nat.reduceLeDiff, Nat.reduceEqDiff, Nat.reduceAdd, Nat.reduceSub, Int.reduceLT, Int.reduceLE, Int.reduceEq, Int.reduceNeg, Int.reduceNe, Int.reduceAdd, Int.reduceSub, Int.reduceMul, Int.reduceToNat, Int.toNat_zero, Int.toNat_one, Int.toNat_natCast, am_cats, am_cat, am_st1, am_st2, am_clr, up2_na, up2_nj, up2_same, List.getElem?_cons_zero, List.getElem?_cons_succ, List.set_cons_zero, List.set_cons_succ, ne_eq, tk_152 hh]
  exact c0
end
theorem rt_eq {hard had x : Int} (h1 : 0 ≤ hard ∧ hard ≤ 100) (h2 : 0 ≤ had ∧ had ≤ 100) : rtX hard had x = rtM hard had x := by
  have e : w32 (hard - had) = hard - had := w32_eq (by omega) (by omega)
  unfold rtX rtM
  rw [e]
  have : (if 0 < hard - had then hard - had else 0) = (if had < hard then hard - had else 0) := by
    by_cases z : had < hard
    · rw [if_pos z, if_pos (by omega)]
    · rw [if_neg z, if_neg (by omega)]
  rw [this]
theorem hvX_b {G U : Nat → Int} {mode : Int} {n : Nat} (hG : ∀ k, k < n → 0 ≤ G k ∧ G k ≤ 100) : ∀ m, m ≤ n → 0 ≤ hvX G U mode m ∧ hvX G U mode m ≤ 100
  | 0, _ => by
    rw [hvX]
    split
    · decide
    · decide
  | m + 1, hm => by
    have ih := hvX_b (U := U) (mode := mode) hG m (by omega)
    have g := hG m (by omega)
    rw [hvX]
    split
    · split
      · split
        · exact g
        · exact ih
      · split
        · exact g
        · exact ih
    · exact ih
theorem lwG_eq {I I' : Nat → Nat → Int} {R R' : Nat → Nat → Option Nat} {k : Nat} {ft : Nat → Int} {v : Int} (hq : ∀ q, q ∈ lawIds → I' q 0 = I q 0 ∧ ∀ i j, 1 ≤ i → i ≤ 4 → I' (q + i) j = I (q + i) j) (hm : ∀ a j, 168 ≤ a → a ≤ 172 → I' a j = I a j) (hr : R' 80 k = R 80 k) (hg : lwG I R k ft v) : lwG I' R' k ft v := by
  obtain ⟨q, co, b, m, w, e, mq, hx, ⟨h1, h2, h3⟩, hv, sv, hv2⟩ := hg
  refine ⟨q, co, b, m, w, hr.trans e, mq, lwX_of hx (hq q mq).1 (hq q mq).2, ⟨(hm _ _ (by decide) (by decide)).trans h1, fun j hj => (hm _ _ (by decide) (by decide)).trans (h2 j hj), fun j hj => ?_⟩, hv, sv, hv2⟩
  obtain ⟨z1, z2, z3⟩ := h3 j hj
  exact ⟨(hm _ _ (by decide) (by decide)).trans z1, (hm _ _ (by decide) (by decide)).trans z2, (hm _ _ (by decide) (by decide)).trans z3⟩
/-- a task that is there uses something of a store that is there -/
theorem lkT_some {I : Nat → Nat → Int} (h : lkT I) {t n : Nat} (t8 : t < 8) (ht : (t : Int) < I 3 3) (hn : I 0 1 = n) : ∃ k, k < 6 ∧ k < n ∧ 0 < I (5 + t) k := by
  obtain ⟨-, -, -, -, -, -, -, -, hA, hk⟩ := h.1 t t8 ht
  have g : ∀ k, k < 6 → 0 < I (5 + t) k → ∃ k, k < 6 ∧ k < n ∧ 0 < I (5 + t) k := fun k h6 h0 => ⟨k, h6, by have := (hk k h6).2.2.2 h0; omega, h0⟩
  unfold useA at hA
  have e0 := (hk 0 (by decide)).1
  have e1 := (hk 1 (by decide)).1
  have e2 := (hk 2 (by decide)).1
  have e3 := (hk 3 (by decide)).1
  have e4 := (hk 4 (by decide)).1
  have e5 := (hk 5 (by decide)).1
  rw [Nat.add_zero] at e0
  rw [← e0, ← e1, ← e2, ← e3, ← e4, ← e5] at hA
  by_cases z0 : 0 < I (5 + t) 0
  · exact g 0 (by decide) z0
  by_cases z1 : 0 < I (5 + t) 1
  · exact g 1 (by decide) z1
  by_cases z2 : 0 < I (5 + t) 2
  · exact g 2 (by decide) z2
  by_cases z3 : 0 < I (5 + t) 3
  · exact g 3 (by decide) z3
  by_cases z4 : 0 < I (5 + t) 4
  · exact g 4 (by decide) z4
  · exact g 5 (by decide) (by omega)
