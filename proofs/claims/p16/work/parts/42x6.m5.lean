/-! the law's two readers, 5: the class's clauses and texts -/
abbrev CR : Type := Int × Nat × List (Int × Int) × List (Int × Int)
def cbad (n : Int) (p : Nat) : CR := (-1000 * n - (p : Int), p, [], [])
def clvB (sg : Nat → Int) (la : List (Int × Int)) (b : RR) : CR := if b.1 = 0 then (if sg b.2.1 = 41 then (0, b.2.1 + 1, la, b.2.2) else cbad 1 b.2.1) else (b.1, b.2.1, [], [])
def clvA (sg : Nat → Int) (n : Nat) (a : RR) : CR := if a.1 = 0 then (if sg a.2.1 = 40 then clvB sg a.2.2 (prsS sg 2000 6 1 (a.2.1 + 1) (n + a.2.2.length)) else cbad 1 a.2.1) else (a.1, a.2.1, [], [])
/-- a clause at p, behind k clauses of n codes -/
def clvS (sg : Nat → Int) (p k n : Nat) : CR := if sg p = 103 then (if 12 ≤ k then cbad 4 p else clvA sg n (prsS sg 2000 2 0 (p + 1) n)) else cbad 1 p
abbrev LR : Type := Int × List (Int × Int) × List (Nat × Nat)
/-- a law from p on: its fault, its codes, where the halves of its clauses end -/
def lwS (sg : Nat → Int) (L : Nat) : Nat → Nat → Nat → Nat → LR
  | 0, p, _, _ => (-1000 * 1 - (p : Int), [], [])
  | r + 1, p, k, n =>
    if (clvS sg p k n).1 = 0 then
      (if (clvS sg p k n).2.1 < L then
        (if sg (clvS sg p k n).2.1 = 59 then
          ((lwS sg L r ((clvS sg p k n).2.1 + 1) (k + 1) (n + (clvS sg p k n).2.2.1.length + (clvS sg p k n).2.2.2.length)).1,
            (clvS sg p k n).2.2.1 ++ (clvS sg p k n).2.2.2 ++ (lwS sg L r ((clvS sg p k n).2.1 + 1) (k + 1) (n + (clvS sg p k n).2.2.1.length + (clvS sg p k n).2.2.2.length)).2.1,
            (n + (clvS sg p k n).2.2.1.length, n + (clvS sg p k n).2.2.1.length + (clvS sg p k n).2.2.2.length) :: (lwS sg L r ((clvS sg p k n).2.1 + 1) (k + 1) (n + (clvS sg p k n).2.2.1.length + (clvS sg p k n).2.2.2.length)).2.2)
        else (-1000 * 1 - ((clvS sg p k n).2.1 : Int), [], []))
      else (0, (clvS sg p k n).2.2.1 ++ (clvS sg p k n).2.2.2, [(n + (clvS sg p k n).2.2.1.length, n + (clvS sg p k n).2.2.1.length + (clvS sg p k n).2.2.2.length)]))
    else ((clvS sg p k n).1, [], [])
theorem cl_adv {sg : Nat → Int} {L p k n : Nat} (hs : ∀ p, L ≤ p → sg p = -1) (hp : p ≤ L) (h : (clvS sg p k n).1 = 0) : p < (clvS sg p k n).2.1 ∧ (clvS sg p k n).2.1 ≤ L ∧ k < 12 ∧ p + (clvS sg p k n).2.2.1.length + (clvS sg p k n).2.2.2.length ≤ (clvS sg p k n).2.1 := by
  have lt : ∀ p, sg p ≠ -1 → p < L := fun p h => by
    by_cases z : p < L
    · exact z
    · exact absurd (hs p (by omega)) h
  have bad : ∀ {m : Int} {p : Nat}, 1 ≤ m → ¬ (cbad m p).1 = 0 := fun {m p} hm => by show ¬ -1000 * m - (p : Int) = 0; omega
  unfold clvS at h ⊢
  by_cases h1 : sg p = 103
  · have hpL := lt p (by rw [h1]; decide)
    rw [if_pos h1] at h ⊢
    by_cases h2 : 12 ≤ k
    · rw [if_pos h2] at h
      exact absurd h (bad (by decide))
    · rw [if_neg h2] at h ⊢
      have a := rd_adv hs 2000 2 0 (p + 1) n (by omega)
      unfold clvA at h ⊢
      generalize prsS sg 2000 2 0 (p + 1) n = A at *
      by_cases h3 : A.1 = 0
      · rw [if_pos h3] at h ⊢
        obtain ⟨a1, a2, a3⟩ := a h3
        have a3 := a3 (by decide)
        by_cases h4 : sg A.2.1 = 40
        · have := lt A.2.1 (by rw [h4]; decide)
          rw [if_pos h4] at h ⊢
          have b := rd_adv hs 2000 6 1 (A.2.1 + 1) (n + A.2.2.length) (by omega)
          unfold clvB at h ⊢
          generalize prsS sg 2000 6 1 (A.2.1 + 1) (n + A.2.2.length) = B at *
          by_cases h5 : B.1 = 0
          · rw [if_pos h5] at h ⊢
            obtain ⟨b1, b2, b3⟩ := b h5
            have b3 := b3 (by decide)
            by_cases h6 : sg B.2.1 = 41
            · have := lt B.2.1 (by rw [h6]; decide)
              rw [if_pos h6]
              exact ⟨by show p < B.2.1 + 1; omega, by show B.2.1 + 1 ≤ L; omega, by omega, by show p + A.2.2.length + B.2.2.length ≤ B.2.1 + 1; omega⟩
            · rw [if_neg h6] at h
              exact absurd h (bad (by decide))
          · rw [if_neg h5] at h
            exact absurd h h5
        · rw [if_neg h4] at h
          exact absurd h (bad (by decide))
      · rw [if_neg h3] at h
        exact absurd h h3
  · rw [if_neg h1] at h
    exact absurd h (bad (by decide))
section
variable {s q L : Nat} {T : Nat → Nat × Nat} {I J : Nat → Nat → Int} {R : Nat → Nat → Option Nat} {S V A C : Nat → Int} {Q : Option AV → AH → Prop}
/-- all that may be left behind a fault -/
def xB (s q L : Nat) (T : Nat → Nat × Nat) (I J : Nat → Nat → Int) (R : Nat → Nat → Option Nat) (f a0 : Int) (Q : Option AV → AH → Prop) : Prop := ∀ (p1 cl1 n1 : Nat) (S V A C : Nat → Int), p1 ≤ L → cl1 ≤ 12 → n1 ≤ 160 → A 0 = a0 → Q none (185, s, T, xI I q (p1 : Int) f (cl1 : Int) (n1 : Int) S V A C, J, R)
section
variable {d p k n : Nat} {f : Int}
theorem t29_30 (hx : xHyp T R I q L) (hp : p ≤ L) (hk : k ≤ 12) (hn : n ≤ 160) (hB : xB s q L T I J R f (A 0) Q) : wp codeT mX (d + 1) 29 30 [some (.inr (.inr (some 79)))] [] (185, s, T, xI I q (p : Int) f (k : Int) (n : Int) S V A C, J, R) Q := by
  obtain ⟨hh, hl, hL, hL2, hR, hR4, -⟩ := id hx
  have t0 := hl.2.2.1
  have u3 : q < 185 := by have := hl.2.1; omega
  refine s29_30.mpr ?_
  by_cases h : k < 12
  · simp only [s29_31, s29_32, s29_33, Option.toList_some, Option.toList_none, List.cons_append, List.nil_append, Nat.le_refl, true_and, and_true, true_or, or_true, false_or, or_false, true_implies, false_implies, implies_true, not_true_eq_false, not_false_eq_true, eq_self, Nat.reduceLT, Nat.reduceLeDiff, Nat.reduceEqDiff, Nat.reduceAdd, Nat.reduceSub, Int.reduceLT, Int.reduceLE, Int.reduceEq, Int.reduceNeg, Int.reduceNe, Int.reduceAdd, Int.reduceSub, Int.reduceMul, Int.reduceToNat, Int.toNat_zero, Int.toNat_one, Int.toNat_natCast, am_cats, am_cat, am_st1, am_st2, am_clr, up2_na, up2_nj, up2_same, List.getElem?_cons_zero, List.getElem?_cons_succ, List.set_cons_zero, List.set_cons_succ, ne_eq, tk_79 hh, hR4, k48 hl h, t0, u3]
    exact hB p (k + 1) n S V _ C hp (by omega) hn (sx_n (by omega))
  · simp only [s29_31, s29_32, s29_33, Option.toList_some, Option.toList_none, List.cons_append, List.nil_append, Nat.le_refl, true_and, and_true, true_or, or_true, false_or, or_false, true_implies, false_implies, implies_true, not_true_eq_false, not_false_eq_true, eq_self, Nat.reduceLT, Nat.reduceLeDiff, Nat.reduceEqDiff, Nat.reduceAdd, Nat.reduceSub, Int.reduceLT, Int.reduceLE, Int.reduceEq, Int.reduceNeg, Int.reduceNe, Int.reduceAdd, Int.reduceSub, Int.reduceMul, Int.reduceToNat, Int.toNat_zero, Int.toNat_one, Int.toNat_natCast, am_cats, am_cat, am_st1, am_st2, am_clr, up2_na, up2_nj, up2_same, List.getElem?_cons_zero, List.getElem?_cons_succ, List.set_cons_zero, List.set_cons_succ, ne_eq, tk_79 hh, hR4, k48f hl h, t0, u3]
    exact hB p k n S V A C hp hk hn rfl
theorem t29_27 (hx : xHyp T R I q L) (hf : ¬ f = 0) (hp : p ≤ L) (hk : k ≤ 12) (hn : n ≤ 160) (hB : xB s q L T I J R f (A 0) Q) : wp codeT mX (d + 2) 29 27 [some (.inr (.inr (some 79)))] [] (185, s, T, xI I q (p : Int) f (k : Int) (n : Int) S V A C, J, R) Q := by
  have fin := t29_30 (d := d + 1) (S := S) (V := V) (C := C) hx hp hk hn hB
  obtain ⟨hh, hl, hL, hL2, hR, hR4, -⟩ := id hx
  refine s29_27.mpr ?_
  simp only [s29_28, s29_29, Option.toList_some, Option.toList_none, List.cons_append, List.nil_append, Nat.le_refl, true_and, and_true, true_or, or_true, false_or, or_false, true_implies, false_implies, implies_true, not_true_eq_false, not_false_eq_true, eq_self, Nat.reduceLT, Nat.reduceLeDiff, Nat.reduceEqDiff, Nat.reduceAdd, Nat.reduceSub, Int.reduceLT, Int.reduceLE, Int.reduceEq, Int.reduceNeg, Int.reduceNe, Int.reduceAdd, Int.reduceSub, Int.reduceMul, Int.reduceToNat, Int.toNat_zero, Int.toNat_one, Int.toNat_natCast, am_cats, am_cat, am_st1, am_st2, am_clr, up2_na, up2_nj, up2_same, List.getElem?_cons_zero, List.getElem?_cons_succ, List.set_cons_zero, List.set_cons_succ, ne_eq, tk_79 hh, k32f hh hf (by decide : ¬ (-1 : Int) = 41)]
  exact fin
theorem t29_24 (hx : xHyp T R I q L) (hf : ¬ f = 0) (hp : p ≤ L) (hk : k ≤ 12) (hn : n ≤ 160) (hB : xB s q L T I J R f (A 0) Q) : wp codeT mX (d + 8) 29 24 [some (.inr (.inr (some 79)))] [] (185, s, T, xI I q (p : Int) f (k : Int) (n : Int) S V A C, J, R) Q := by
  have fin := t29_27 (d := d + 6) (S := S) (V := V) (C := C) hx hf hp hk hn hB
  obtain ⟨hh, hl, hL, hL2, hR, hR4, -⟩ := id hx
  refine s29_24.mpr ?_
  simp only [s29_25, s29_26, Option.toList_some, Option.toList_none, List.cons_append, List.nil_append, Nat.le_refl, true_and, and_true, true_or, or_true, false_or, or_false, true_implies, false_implies, implies_true, not_true_eq_false, not_false_eq_true, eq_self, Nat.reduceLT, Nat.reduceLeDiff, Nat.reduceEqDiff, Nat.reduceAdd, Nat.reduceSub, Int.reduceLT, Int.reduceLE, Int.reduceEq, Int.reduceNeg, Int.reduceNe, Int.reduceAdd, Int.reduceSub, Int.reduceMul, Int.reduceToNat, Int.toNat_zero, Int.toNat_one, Int.toNat_natCast, am_cats, am_cat, am_st1, am_st2, am_clr, up2_na, up2_nj, up2_same, List.getElem?_cons_zero, List.getElem?_cons_succ, List.set_cons_zero, List.set_cons_succ, ne_eq, tk_79 hh, k41f hx hf]
  exact fin
theorem t29_18 (hx : xHyp T R I q L) (hf : ¬ f = 0) (hp : p ≤ L) (hk : k ≤ 12) (hn : n ≤ 160) (hB : xB s q L T I J R f (A 0) Q) : wp codeT mX (d + 8) 29 18 [some (.inr (.inr (some 79)))] [] (185, s, T, xI I q (p : Int) f (k : Int) (n : Int) S V A C, J, R) Q := by
  obtain ⟨hh, hl, hL, hL2, hR, hR4, -⟩ := id hx
  have t0 := hl.2.2.1
  have u3 : q < 185 := by have := hl.2.1; omega
  refine s29_18.mpr ?_
  by_cases h : k < 12
  · have fin := t29_24 (d := d) (S := S) (V := V) (C := sx C k (n : Int)) hx hf hp hk hn hB
    simp only [s29_19, s29_20, s29_21, s29_22, s29_23, Option.toList_some, Option.toList_none, List.cons_append, List.nil_append, Nat.le_refl, true_and, and_true, true_or, or_true, false_or, or_false, true_implies, false_implies, implies_true, not_true_eq_false, not_false_eq_true, eq_self, Nat.reduceLT, Nat.reduceLeDiff, Nat.reduceEqDiff, Nat.reduceAdd, Nat.reduceSub, Int.reduceLT, Int.reduceLE, Int.reduceEq, Int.reduceNeg, Int.reduceNe, Int.reduceAdd, Int.reduceSub, Int.reduceMul, Int.reduceToNat, Int.toNat_zero, Int.toNat_one, Int.toNat_natCast, am_cats, am_cat, am_st1, am_st2, am_clr, up2_na, up2_nj, up2_same, List.getElem?_cons_zero, List.getElem?_cons_succ, List.set_cons_zero, List.set_cons_succ, ne_eq, tk_79 hh, hR4, k40 hl h, k32f hh hf (by decide : ¬ (-1 : Int) = 40), t0, u3]
    exact fin
  · have fin := t29_24 (d := d) (S := S) (V := V) (C := C) hx hf hp hk hn hB
    simp only [s29_19, s29_20, s29_21, s29_22, s29_23, Option.toList_some, Option.toList_none, List.cons_append, List.nil_append, Nat.le_refl, true_and, and_true, true_or, or_true, false_or, or_false, true_implies, false_implies, implies_true, not_true_eq_false, not_false_eq_true, eq_self, Nat.reduceLT, Nat.reduceLeDiff, Nat.reduceEqDiff, Nat.reduceAdd, Nat.reduceSub, Int.reduceLT, Int.reduceLE, Int.reduceEq, Int.reduceNeg, Int.reduceNe, Int.reduceAdd, Int.reduceSub, Int.reduceMul, Int.reduceToNat, Int.toNat_zero, Int.toNat_one, Int.toNat_natCast, am_cats, am_cat, am_st1, am_st2, am_clr, up2_na, up2_nj, up2_same, List.getElem?_cons_zero, List.getElem?_cons_succ, List.set_cons_zero, List.set_cons_succ, ne_eq, tk_79 hh, hR4, k40f hl h, k32f hh hf (by decide : ¬ (-1 : Int) = 40), t0, u3]
    exact fin
theorem t29_15 (hx : xHyp T R I q L) (hf : ¬ f = 0) (hp : p ≤ L) (hk : k ≤ 12) (hn : n ≤ 160) (hB : xB s q L T I J R f (A 0) Q) : wp codeT mX (d + 8) 29 15 [some (.inr (.inr (some 79)))] [] (185, s, T, xI I q (p : Int) f (k : Int) (n : Int) S V A C, J, R) Q := by
  have fin := t29_18 (d := d) (S := S) (V := V) (C := C) hx hf hp hk hn hB
  obtain ⟨hh, hl, hL, hL2, hR, hR4, -⟩ := id hx
  refine s29_15.mpr ?_
  simp only [s29_16, s29_17, Option.toList_some, Option.toList_none, List.cons_append, List.nil_append, Nat.le_refl, true_and, and_true, true_or, or_true, false_or, or_false, true_implies, false_implies, implies_true, not_true_eq_false, not_false_eq_true, eq_self, Nat.reduceLT, Nat.reduceLeDiff, Nat.reduceEqDiff, Nat.reduceAdd, Nat.reduceSub, Int.reduceLT, Int.reduceLE, Int.reduceEq, Int.reduceNeg, Int.reduceNe, Int.reduceAdd, Int.reduceSub, Int.reduceMul, Int.reduceToNat, Int.toNat_zero, Int.toNat_one, Int.toNat_natCast, am_cats, am_cat, am_st1, am_st2, am_clr, up2_na, up2_nj, up2_same, List.getElem?_cons_zero, List.getElem?_cons_succ, List.set_cons_zero, List.set_cons_succ, ne_eq, tk_79 hh, k33f hx hf]
  exact fin
theorem k29 (hx : xHyp T R I q L) (hd : 32 ≤ d) (hp : p ≤ L) (hn : n ≤ p) (hk : k ≤ 12) (hB : ∀ f, (clvS (sgX I L) p k n).1 = f → ¬ f = 0 → xB s q L T I J R f (A 0) Q) (hO : (clvS (sgX I L) p k n).1 = 0 → ∀ S1 V1 : Nat → Int, (∀ j, j < n → S1 j = S j ∧ V1 j = V j) → HC S1 V1 n ((clvS (sgX I L) p k n).2.2.1 ++ (clvS (sgX I L) p k n).2.2.2) → Q none (185, s, T, xI I q ((clvS (sgX I L) p k n).2.1 : Int) 0 ((k + 1 : Nat) : Int) ((n + (clvS (sgX I L) p k n).2.2.1.length + (clvS (sgX I L) p k n).2.2.2.length : Nat) : Int) S1 V1 (sx A (k + 1) ((n + (clvS (sgX I L) p k n).2.2.1.length + (clvS (sgX I L) p k n).2.2.2.length : Nat) : Int)) (sx C k ((n + (clvS (sgX I L) p k n).2.2.1.length : Nat) : Int)), J, R)) : wpc codeT mX (d + 1) 29 [.inr (.inr (some 79))] (185, s, T, xI I q (p : Int) 0 (k : Int) (n : Int) S V A C, J, R) Q := by
  obtain ⟨hh, hl, hL, hL2, hR, hR4, -⟩ := id hx
  obtain ⟨e, rfl⟩ : ∃ e, d = e + 7 := ⟨d - 7, by omega⟩
  have hq : 80 < q := hl.1
  have t0 := hl.2.2.1
  have u3 : q < 185 := by have := hl.2.1; omega
  have p2 : p ≤ 160 := by omega
  have ba : ∀ {m : Int} {p : Nat}, 1 ≤ m → ¬ (-1000 * m - (p : Int)) = 0 := fun {m p} hm => by omega
  unfold clvS at hB hO
  by_cases h1 : sgX I L p = 103
  · have hpL := sgX_lt (I := I) (L := L) (p := p) (by rw [h1]; decide)
    rw [if_pos h1] at hB hO
    by_cases h2 : 12 ≤ k
    · rw [if_pos h2] at hB
      have c1 : ¬ (k : Int) < 12 := by omega
      have f0 : ¬ (-1000 * 4 - (p : Int)) = 0 := by omega
      have fin := t29_15 (d := e) (S := S) (V := V) (C := C) (n := n) hx f0 hp hk (by omega) (hB _ rfl f0)
      simp only [s29_0, s29_1, s29_2, s29_3, s29_4, s29_5, s29_6, s29_7, s29_8, s29_9, s29_10, s29_11, s29_12, s29_13, s29_14, e29, Option.toList_some, Option.toList_none, List.cons_append, List.nil_append, Nat.le_refl, true_and, and_true, true_or, or_true, false_or, or_false, true_implies, false_implies, implies_true, not_true_eq_false, not_false_eq_true, eq_self, Nat.reduceLT, Nat.reduceLeDiff, Nat.reduceEqDiff, Nat.reduceAdd, Nat.reduceSub, Int.reduceLT, Int.reduceLE, Int.reduceEq, Int.reduceNeg, Int.reduceNe, Int.reduceAdd, Int.reduceSub, Int.reduceMul, Int.reduceToNat, Int.toNat_zero, Int.toNat_one, Int.toNat_natCast, am_cats, am_cat, am_st1, am_st2, am_clr, up2_na, up2_nj, up2_same, List.getElem?_cons_zero, List.getElem?_cons_succ, List.set_cons_zero, List.set_cons_succ, ne_eq, tk_79 hh, k30 hh hq hL hL2 hR, h1, hR4, xI_c hq, t0, u3, c1, k31 hh (by decide : (1 : Int) ≤ 4 ∧ (4 : Int) ≤ 9) p2]
      rw [k32f hh (by omega : ¬ -4000 - (p : Int) = 0) (by decide : ¬ (-1 : Int) = 103)]
      exact ⟨⟨Nat.le_refl _, Nat.le_refl _⟩, fin⟩
    · rw [if_neg h2] at hB hO
      have c1 : (k : Int) < 12 := by omega
      simp only [s29_0, s29_1, s29_2, s29_3, s29_4, s29_5, s29_6, s29_7, s29_8, s29_9, s29_10, s29_11, s29_12, s29_13, s29_14, s29_15, s29_16, s29_17, e29, Option.toList_some, Option.toList_none, List.cons_append, List.nil_append, Nat.le_refl, true_and, and_true, true_or, or_true, false_or, or_false, true_implies, false_implies, implies_true, not_true_eq_false, not_false_eq_true, eq_self, Nat.reduceLT, Nat.reduceLeDiff, Nat.reduceEqDiff, Nat.reduceAdd, Nat.reduceSub, Int.reduceLT, Int.reduceLE, Int.reduceEq, Int.reduceNeg, Int.reduceNe, Int.reduceAdd, Int.reduceSub, Int.reduceMul, Int.reduceToNat, Int.toNat_zero, Int.toNat_one, Int.toNat_natCast, am_cats, am_cat, am_st1, am_st2, am_clr, up2_na, up2_nj, up2_same, List.getElem?_cons_zero, List.getElem?_cons_succ, List.set_cons_zero, List.set_cons_succ, ne_eq, tk_79 hh, k30 hh hq hL hL2 hR, h1, hR4, xI_c hq, t0, u3, c1, k32y hh hq hL hL2 hR h1 hpL]
      unfold clvA at hB hO
      have a := rd_adv (sg := sgX I L) (L := L) sgX_hs 2000 2 0 (p + 1) n (by omega)
      have w1 := (crd_all (s := s) (J := J) (cl := (k : Int)) (A := A) (C := C) hx 2000).1 2 (by decide)
      refine w1 (e + 7) 0 (p + 1) n S V _ (by omega) (by omega) (by omega) (by omega) (by omega) (fun p1 n1 S1 V1 ho1 => ⟨⟨Nat.le_refl _, Nat.le_refl _⟩, ?_⟩)
      generalize prsS (sgX I L) 2000 2 0 (p + 1) n = X1 at *
      by_cases h3 : X1.1 = 0
      · rw [if_pos h3] at hB hO
        obtain ⟨a1, a2, a3⟩ := a h3
        have a3 := a3 (by decide)
        obtain ⟨o1, o2, o3⟩ := ho1
        obtain ⟨o4, o5, o6, o7⟩ := o3 h3
        subst o4
        rw [h3]
        by_cases h4 : sgX I L X1.2.1 = 40
        · rw [if_pos h4] at hB hO
          have q1 := sgX_lt (I := I) (L := L) (p := X1.2.1) (by rw [h4]; decide)
          simp only [s29_18, s29_19, s29_20, s29_21, s29_22, s29_23, s29_24, s29_25, s29_26, Option.toList_some, Option.toList_none, List.cons_append, List.nil_append, Nat.le_refl, true_and, and_true, true_or, or_true, false_or, or_false, true_implies, false_implies, implies_true, not_true_eq_false, not_false_eq_true, eq_self, Nat.reduceLT, Nat.reduceLeDiff, Nat.reduceEqDiff, Nat.reduceAdd, Nat.reduceSub, Int.reduceLT, Int.reduceLE, Int.reduceEq, Int.reduceNeg, Int.reduceNe, Int.reduceAdd, Int.reduceSub, Int.reduceMul, Int.reduceToNat, Int.toNat_zero, Int.toNat_one, Int.toNat_natCast, am_cats, am_cat, am_st1, am_st2, am_clr, up2_na, up2_nj, up2_same, List.getElem?_cons_zero, List.getElem?_cons_succ, List.set_cons_zero, List.set_cons_succ, ne_eq, tk_79 hh, hR4, k40 hl (show k < 12 by omega), k32y hh hq hL hL2 hR h4 q1, t0, u3]
          unfold clvB at hB hO
          rw [← o5] at hB hO
          have b := rd_adv (sg := sgX I L) (L := L) sgX_hs 2000 6 1 (X1.2.1 + 1) n1 (by omega)
          have w2 := (crd_all (s := s) (J := J) (cl := (k : Int)) (A := A) (C := sx C k (n1 : Int)) hx 2000).1 6 (by decide)
          refine w2 (e + 7) 1 (X1.2.1 + 1) n1 S1 V1 _ (by omega) (by omega) (by omega) (by omega) (by omega) (fun p2 n2 S2 V2 ho2 => ⟨⟨Nat.le_refl _, Nat.le_refl _⟩, ?_⟩)
          generalize prsS (sgX I L) 2000 6 1 (X1.2.1 + 1) n1 = X2 at *
          by_cases h5 : X2.1 = 0
          · rw [if_pos h5] at hB hO
            obtain ⟨b1, b2, b3⟩ := b h5
            have b3 := b3 (by decide)
            obtain ⟨r1, r2, r3⟩ := ho2
            obtain ⟨r4, r5, r6, r7⟩ := r3 h5
            subst r4
            rw [h5]
            by_cases h6 : sgX I L X2.2.1 = 41
            · rw [if_pos h6] at hO
              have q2 := sgX_lt (I := I) (L := L) (p := X2.2.1) (by rw [h6]; decide)
              have g12 : HC S2 V2 n (X1.2.2 ++ X2.2.2) := HC_app (HC_cg o7 (fun j hj => r6 j (by omega))) (by rw [← o5]; exact r7)
              have fin := hO rfl S2 V2 (fun j hj => ⟨((r6 j (by omega)).1).trans (o6 j hj).1, ((r6 j (by omega)).2).trans (o6 j hj).2⟩) g12
              have fin : Q none (185, s, T, xI I q ((X2.2.1 + 1 : Nat) : Int) 0 ((k + 1 : Nat) : Int) ((n + X1.2.2.length + X2.2.2.length : Nat) : Int) S2 V2 (sx A (k + 1) ((n + X1.2.2.length + X2.2.2.length : Nat) : Int)) (sx C k ((n + X1.2.2.length : Nat) : Int)), J, R) := fin
              rw [← o5, ← r5] at fin
              simp only [s29_27, s29_28, s29_29, s29_30, s29_31, s29_32, s29_33, Option.toList_some, Option.toList_none, List.cons_append, List.nil_append, Nat.le_refl, true_and, and_true, true_or, or_true, false_or, or_false, true_implies, false_implies, implies_true, not_true_eq_false, not_false_eq_true, eq_self, Nat.reduceLT, Nat.reduceLeDiff, Nat.reduceEqDiff, Nat.reduceAdd, Nat.reduceSub, Int.reduceLT, Int.reduceLE, Int.reduceEq, Int.reduceNeg, Int.reduceNe, Int.reduceAdd, Int.reduceSub, Int.reduceMul, Int.reduceToNat, Int.toNat_zero, Int.toNat_one, Int.toNat_natCast, am_cats, am_cat, am_st1, am_st2, am_clr, up2_na, up2_nj, up2_same, List.getElem?_cons_zero, List.getElem?_cons_succ, List.set_cons_zero, List.set_cons_succ, ne_eq, tk_79 hh, hR4, k32y hh hq hL hL2 hR h6 q2, k48 hl (show k < 12 by omega), t0, u3]
              exact fin
            · rw [if_neg h6] at hB
              have f0 : ¬ (-1000 * 1 - (X2.2.1 : Int)) = 0 := by omega
              have fin := t29_30 (d := e + 7) (S := S2) (V := V2) (C := sx C k (n1 : Int)) hx b1 hk r2 (hB _ rfl f0)
              simp only [s29_27, s29_28, s29_29, Option.toList_some, Option.toList_none, List.cons_append, List.nil_append, Nat.le_refl, true_and, and_true, true_or, or_true, false_or, or_false, true_implies, false_implies, implies_true, not_true_eq_false, not_false_eq_true, eq_self, Nat.reduceLT, Nat.reduceLeDiff, Nat.reduceEqDiff, Nat.reduceAdd, Nat.reduceSub, Int.reduceLT, Int.reduceLE, Int.reduceEq, Int.reduceNeg, Int.reduceNe, Int.reduceAdd, Int.reduceSub, Int.reduceMul, Int.reduceToNat, Int.toNat_zero, Int.toNat_one, Int.toNat_natCast, am_cats, am_cat, am_st1, am_st2, am_clr, up2_na, up2_nj, up2_same, List.getElem?_cons_zero, List.getElem?_cons_succ, List.set_cons_zero, List.set_cons_succ, ne_eq, tk_79 hh, k32n hh hq hL hL2 hR h6 b1]
              exact fin
          · rw [if_neg h5] at hB
            exact t29_27 (d := e + 6) (S := S2) (V := V2) (C := sx C k (n1 : Int)) hx h5 ho2.1 hk ho2.2.1 (hB _ rfl h5)
        · rw [if_neg h4] at hB
          have f0 : ¬ (-1000 * 1 - (X1.2.1 : Int)) = 0 := by omega
          have fin := t29_24 (d := e) (S := S1) (V := V1) (C := sx C k (n1 : Int)) hx f0 a1 hk o2 (hB _ rfl f0)
          simp only [s29_18, s29_19, s29_20, s29_21, s29_22, s29_23, Option.toList_some, Option.toList_none, List.cons_append, List.nil_append, Nat.le_refl, true_and, and_true, true_or, or_true, false_or, or_false, true_implies, false_implies, implies_true, not_true_eq_false, not_false_eq_true, eq_self, Nat.reduceLT, Nat.reduceLeDiff, Nat.reduceEqDiff, Nat.reduceAdd, Nat.reduceSub, Int.reduceLT, Int.reduceLE, Int.reduceEq, Int.reduceNeg, Int.reduceNe, Int.reduceAdd, Int.reduceSub, Int.reduceMul, Int.reduceToNat, Int.toNat_zero, Int.toNat_one, Int.toNat_natCast, am_cats, am_cat, am_st1, am_st2, am_clr, up2_na, up2_nj, up2_same, List.getElem?_cons_zero, List.getElem?_cons_succ, List.set_cons_zero, List.set_cons_succ, ne_eq, tk_79 hh, hR4, k40 hl (show k < 12 by omega), k32n hh hq hL hL2 hR h4 a1, t0, u3]
          exact fin
      · rw [if_neg h3] at hB
        exact t29_18 (d := e) (S := S1) (V := V1) (C := C) hx h3 ho1.1 hk ho1.2.1 (hB _ rfl h3)
  · rw [if_neg h1] at hB
    have f0 : ¬ (-1000 * 1 - (p : Int)) = 0 := by omega
    have fin := t29_15 (d := e) (S := S) (V := V) (C := C) (n := n) hx f0 hp hk (by omega) (hB _ rfl f0)
    simp only [s29_0, s29_1, s29_2, s29_3, s29_12, s29_13, s29_14, e29, Option.toList_some, Option.toList_none, List.cons_append, List.nil_append, Nat.le_refl, true_and, and_true, true_or, or_true, false_or, or_false, true_implies, false_implies, implies_true, not_true_eq_false, not_false_eq_true, eq_self, Nat.reduceLT, Nat.reduceLeDiff, Nat.reduceEqDiff, Nat.reduceAdd, Nat.reduceSub, Int.reduceLT, Int.reduceLE, Int.reduceEq, Int.reduceNeg, Int.reduceNe, Int.reduceAdd, Int.reduceSub, Int.reduceMul, Int.reduceToNat, Int.toNat_zero, Int.toNat_one, Int.toNat_natCast, am_cats, am_cat, am_st1, am_st2, am_clr, up2_na, up2_nj, up2_same, List.getElem?_cons_zero, List.getElem?_cons_succ, List.set_cons_zero, List.set_cons_succ, ne_eq, tk_79 hh, k30 hh hq hL hL2 hR, h1, k32n hh hq hL hL2 hR h1 hp]
    exact fin
end
/-- what the law's cells say of what was read -/
def xO (S V A C : Nat → Int) (k n : Nat) (S0 V0 A0 C0 : Nat → Int) (w : LR) : Prop := (∀ j, j < n → S j = S0 j ∧ V j = V0 j) ∧ HC S V n w.2.1 ∧ (∀ j, j ≤ k → A j = A0 j) ∧ (∀ j, j < k → C j = C0 j) ∧ ∀ j, j < w.2.2.length → C (k + j) = ((w.2.2.getD j (0, 0)).1 : Int) ∧ A (k + 1 + j) = ((w.2.2.getD j (0, 0)).2 : Int)
def xBr (s q L : Nat) (T : Nat → Nat × Nat) (I J : Nat → Nat → Int) (R : Nat → Nat → Option Nat) (f a0 : Int) (Q : Option AV → AH → Prop) : Prop := ∀ (p1 cl1 n1 : Nat) (S V A C : Nat → Int), p1 ≤ L → cl1 ≤ 12 → n1 ≤ 160 → A 0 = a0 → Q (some (.inl f)) (185, s, T, xI I q (p1 : Int) f (cl1 : Int) (n1 : Int) S V A C, J, R)
theorem t27 (hx : xHyp T R I q L) {d p : Nat} {f : Int} (hf : ¬ f = 0) {l1 l2 l3 : Option AV} {i cl sz : Int} (hQ : Q (some (.inl f)) (185, s, T, xI I q (p : Int) f cl sz S V A C, J, R)) : wp codeT mX (d + 1) 27 25 [some (.inr (.inr (some 79))), l1, l2, l3, some (.inl i)] [] (185, s, T, xI I q (p : Int) f cl sz S V A C, J, R) Q := by
  obtain ⟨hh, hl, hL, hL2, hR, hR4, -⟩ := id hx
  refine s27_25.mpr ?_
  simp only [s27_26, s27_27, s27_28, s27_29, s27_30, s27_31, s27_32, s27_43, s27_44, s27_45, s27_46, s27_47, s27_48, s27_49, s27_50, s27_51, s27_52, s27_53, Option.toList_some, Option.toList_none, List.cons_append, List.nil_append, Nat.le_refl, true_and, and_true, true_or, or_true, false_or, or_false, true_implies, false_implies, implies_true, not_true_eq_false, not_false_eq_true, eq_self, Nat.reduceLT, Nat.reduceLeDiff, Nat.reduceEqDiff, Nat.reduceAdd, Nat.reduceSub, Int.reduceLT, Int.reduceLE, Int.reduceEq, Int.reduceNeg, Int.reduceNe, Int.reduceAdd, Int.reduceSub, Int.reduceMul, Int.reduceToNat, Int.toNat_zero, Int.toNat_one, Int.toNat_natCast, am_cats, am_cat, am_st1, am_st2, am_clr, up2_na, up2_nj, up2_same, List.getElem?_cons_zero, List.getElem?_cons_succ, List.set_cons_zero, List.set_cons_succ, ne_eq, tk_79 hh, xI_1, xI_p, xI_f, hL, k30f hh hf, k31f hh hf]
  by_cases h : i < (L : Int)
  · by_cases h2 : (p : Int) < (L : Int)
    · exact ⟨fun _ => ⟨fun _ => hQ, fun z => absurd h2 z⟩, fun z => absurd h z⟩
    · exact ⟨fun _ => ⟨fun z => absurd z h2, fun _ => hQ⟩, fun z => absurd h z⟩
  · by_cases h2 : (p : Int) < (L : Int)
    · exact ⟨fun z => absurd z h, fun _ => ⟨fun _ => hQ, fun z => absurd h2 z⟩⟩
    · exact ⟨fun z => absurd z h, fun _ => ⟨fun z => absurd z h2, fun _ => hQ⟩⟩
theorem xO_cat {S V A C S0 V0 A0 C0 S1 V1 : Nat → Int} {k n : Nat} {la lc : List (Int × Int)} {w : LR} (h1 : ∀ j, j < n → S1 j = S0 j ∧ V1 j = V0 j) (h2 : HC S1 V1 n (la ++ lc)) (h : xO S V A C (k + 1) (n + la.length + lc.length) S1 V1 (sx A0 (k + 1) ((n + la.length + lc.length : Nat) : Int)) (sx C0 k ((n + la.length : Nat) : Int)) w) : xO S V A C k n S0 V0 A0 C0 (w.1, la ++ lc ++ w.2.1, (n + la.length, n + la.length + lc.length) :: w.2.2) := by
  obtain ⟨a1, a2, a3, a4, a5⟩ := h
  have e : (la ++ lc).length = la.length + lc.length := List.length_append
  refine ⟨fun j hj => ?_, HC_app (HC_cg h2 (fun j hj => a1 j (by omega))) (by rw [e, ← Nat.add_assoc]; exact a2), fun j hj => ?_, fun j hj => ?_, fun j hj => ?_⟩
  · obtain ⟨e1, e2⟩ := a1 j (by omega)
    obtain ⟨e3, e4⟩ := h1 j hj
    exact ⟨e1.trans e3, e2.trans e4⟩
  · rw [a3 j (by omega), sx_n (by omega)]
  · rw [a4 j (by omega), sx_n (by omega)]
  · match j, hj with
    | 0, _ =>
      refine ⟨?_, ?_⟩
      · show C k = _
        rw [a4 k (by omega), sx_s]
        rfl
      · show A (k + 1) = _
        rw [a3 (k + 1) (by omega), sx_s]
        rfl
    | j + 1, hj =>
      have hj : j + 1 < w.2.2.length + 1 := hj
      have := a5 j (by omega)
      rw [show k + 1 + j = k + (j + 1) by omega, show k + 1 + 1 + j = k + 1 + (j + 1) by omega] at this
      exact this
theorem xO_end {A0 C0 S1 V1 S0 V0 : Nat → Int} {k n : Nat} {la lc : List (Int × Int)} (h1 : ∀ j, j < n → S1 j = S0 j ∧ V1 j = V0 j) (h2 : HC S1 V1 n (la ++ lc)) {f : Int} : xO S1 V1 (sx A0 (k + 1) ((n + la.length + lc.length : Nat) : Int)) (sx C0 k ((n + la.length : Nat) : Int)) k n S0 V0 A0 C0 (f, la ++ lc, [(n + la.length, n + la.length + lc.length)]) := by
  refine ⟨h1, h2, fun j hj => sx_n (by omega), fun j hj => sx_n (by omega), fun j hj => ?_⟩
  have hj : j = 0 := by
    have : j < 1 := hj
    omega
  subst hj
  exact ⟨sx_s, sx_s⟩
theorem p27 (hx : xHyp T R I q L) {d : Nat} (hd : 32 ≤ d) {l1 l2 : Option AV} : ∀ (r p k n i : Nat) (S V A C : Nat → Int), L + 1 - p ≤ r → p ≤ L → n ≤ p → k ≤ 12 → i ≤ p → (∀ f, (lwS (sgX I L) L r p k n).1 = f → ¬ f = 0 → xBr s q L T I J R f (A 0) Q) → ((lwS (sgX I L) L r p k n).1 = 0 → ∀ (S1 V1 A1 C1 : Nat → Int), xO S1 V1 A1 C1 k n S V A C (lwS (sgX I L) L r p k n) → Q (some (.inl 0)) (185, s, T, xI I q (L : Int) 0 ((k + (lwS (sgX I L) L r p k n).2.2.length : Nat) : Int) ((n + (lwS (sgX I L) L r p k n).2.1.length : Nat) : Int) S1 V1 A1 C1, J, R)) → wpc codeT mX (d + 1) 29 [.inr (.inr (some 79))] (185, s, T, xI I q (p : Int) 0 (k : Int) (n : Int) S V A C, J, R) (fun v g => v = none ∧ (185 ≤ g.1 ∧ s ≤ g.2.1) ∧ wp codeT mX (d + 2) 27 25 [some (.inr (.inr (some 79))), l1, l2, some (.inr (.inr (some q))), some (.inl (i : Int))] [] g Q) := by
  intro r
  induction r with
  | zero =>
    intro p k n i S V A C hr hp
    omega
  | succ r ih =>
    intro p k n i S V A C hr hp hn hk hi hB hO
    have ad := cl_adv (sg := sgX I L) (L := L) (p := p) (k := k) (n := n) sgX_hs hp
    rw [lwS] at hB hO
    obtain ⟨hh, hl, hL, hL2, hR, hR4, -⟩ := id hx
    have hq : 80 < q := hl.1
    refine k29 hx hd hp hn hk (fun f hf h0 => ?_) (fun h0 S1 V1 g1 g2 => ?_)
    · intro p1 cl1 n1 S2 V2 A2 C2 y1 y2 y3 y4
      have hf0 : ¬ (clvS (sgX I L) p k n).1 = 0 := by rw [hf]; exact h0
      rw [if_neg hf0] at hB
      exact ⟨rfl, ⟨Nat.le_refl _, Nat.le_refl _⟩, t27 (d := d + 1) hx h0 (hB f hf h0 p1 cl1 n1 S2 V2 A2 C2 y1 y2 y3 y4)⟩
    · rw [if_pos h0] at hB hO
      obtain ⟨a1, a2, a3, a4⟩ := ad h0
      refine ⟨rfl, ⟨Nat.le_refl _, Nat.le_refl _⟩, ?_⟩
      generalize clvS (sgX I L) p k n = X1 at *
      obtain ⟨x1, p', la, lc⟩ := X1
      have h0 : x1 = 0 := h0
      subst h0
      have a1 : p < p' := a1
      have a2 : p' ≤ L := a2
      have a4 : p + la.length + lc.length ≤ p' := a4
      by_cases hpL : p' < L
      · rw [if_pos hpL] at hB hO
        have u1 : (i : Int) < (L : Int) := by omega
        have u2 : (p' : Int) < (L : Int) := by omega
        have p2 : p' ≤ 160 := by omega
        by_cases h59 : sgX I L p' = 59
        · rw [if_pos h59] at hB hO
          refine s27_25.mpr ?_
          simp only [s27_26, s27_27, s27_28, s27_29, s27_30, s27_31, s27_32, s27_33, s27_34, s27_35, s27_36, s27_37, s27_38, s27_39, s27_40, Option.toList_some, Option.toList_none, List.cons_append, List.nil_append, Nat.le_refl, true_and, and_true, true_or, or_true, false_or, or_false, true_implies, false_implies, implies_true, not_true_eq_false, not_false_eq_true, eq_self, Nat.reduceLT, Nat.reduceLeDiff, Nat.reduceEqDiff, Nat.reduceAdd, Nat.reduceSub, Int.reduceLT, Int.reduceLE, Int.reduceEq, Int.reduceNeg, Int.reduceNe, Int.reduceAdd, Int.reduceSub, Int.reduceMul, Int.reduceToNat, Int.toNat_zero, Int.toNat_one, Int.toNat_natCast, am_cats, am_cat, am_st1, am_st2, am_clr, up2_na, up2_nj, up2_same, List.getElem?_cons_zero, List.getElem?_cons_succ, List.set_cons_zero, List.set_cons_succ, ne_eq, tk_79 hh, xI_1, xI_p, xu_p, hL, k30 hh hq hL hL2 hR, h59, u1, w32_s (show p' ≤ 1080 by omega)]
          refine wpc_mono (ih (p' + 1) (k + 1) (n + la.length + lc.length) (i + 1) S1 V1 _ _ (by omega) (by omega) (by omega) (by omega) (by omega) (fun f hf h0 => ?_) (fun h0 S2 V2 A2 C2 hx2 => ?_)) (fun v g hv => ?_)
          · have := hB f hf h0
            rw [sx_n (by omega)]
            exact this
          · have := hO h0 S2 V2 A2 C2 (xO_cat g1 g2 hx2)
            have e1 : k + ((n + la.length, n + la.length + lc.length) :: (lwS (sgX I L) L r (p' + 1) (k + 1) (n + la.length + lc.length)).2.2).length = k + 1 + (lwS (sgX I L) L r (p' + 1) (k + 1) (n + la.length + lc.length)).2.2.length := by rw [List.length_cons]; omega
            have e2 : n + (la ++ lc ++ (lwS (sgX I L) L r (p' + 1) (k + 1) (n + la.length + lc.length)).2.1).length = n + la.length + lc.length + (lwS (sgX I L) L r (p' + 1) (k + 1) (n + la.length + lc.length)).2.1.length := by rw [List.length_append, List.length_append]; omega
            have this : Q (some (.inl 0)) (185, s, T, xI I q (L : Int) 0 ((k + ((n + la.length, n + la.length + lc.length) :: (lwS (sgX I L) L r (p' + 1) (k + 1) (n + la.length + lc.length)).2.2).length : Nat) : Int) ((n + (la ++ lc ++ (lwS (sgX I L) L r (p' + 1) (k + 1) (n + la.length + lc.length)).2.1).length : Nat) : Int) S2 V2 A2 C2, J, R) := this
            rw [e1, e2] at this
            exact this
          · obtain ⟨v0, v1, v2⟩ := hv
            subst v0
            refine ⟨v1, ?_⟩
            simp only [s27_41, s27_42, Option.toList_some, Option.toList_none, List.cons_append, List.nil_append, Nat.le_refl, true_and, and_true, true_or, or_true, false_or, or_false, true_implies, false_implies, implies_true, not_true_eq_false, not_false_eq_true, eq_self, Nat.reduceLT, Nat.reduceLeDiff, Nat.reduceEqDiff, Nat.reduceAdd, Nat.reduceSub, Int.reduceLT, Int.reduceLE, Int.reduceEq, Int.reduceNeg, Int.reduceNe, Int.reduceAdd, Int.reduceSub, Int.reduceMul, Int.reduceToNat, Int.toNat_zero, Int.toNat_one, Int.toNat_natCast, am_cats, am_cat, am_st1, am_st2, am_clr, up2_na, up2_nj, up2_same, List.getElem?_cons_zero, List.getElem?_cons_succ, List.set_cons_zero, List.set_cons_succ, ne_eq, w32_s (show i ≤ 1080 by omega)]
            exact v2
        · rw [if_neg h59] at hB
          have f0 : ¬ (-1000 * 1 - (p' : Int)) = 0 := by omega
          have fin := hB _ rfl f0 p' (k + 1) (n + la.length + lc.length) S1 V1 (sx A (k + 1) ((n + la.length + lc.length : Nat) : Int)) (sx C k ((n + la.length : Nat) : Int)) a2 (by omega) (by omega) (sx_n (by omega))
          refine s27_25.mpr ?_
          simp only [s27_26, s27_27, s27_28, s27_29, s27_30, s27_31, s27_32, s27_43, s27_44, s27_45, s27_46, s27_47, s27_48, s27_49, s27_50, s27_51, s27_52, s27_53, Option.toList_some, Option.toList_none, List.cons_append, List.nil_append, Nat.le_refl, true_and, and_true, true_or, or_true, false_or, or_false, true_implies, false_implies, implies_true, not_true_eq_false, not_false_eq_true, eq_self, Nat.reduceLT, Nat.reduceLeDiff, Nat.reduceEqDiff, Nat.reduceAdd, Nat.reduceSub, Int.reduceLT, Int.reduceLE, Int.reduceEq, Int.reduceNeg, Int.reduceNe, Int.reduceAdd, Int.reduceSub, Int.reduceMul, Int.reduceToNat, Int.toNat_zero, Int.toNat_one, Int.toNat_natCast, am_cats, am_cat, am_st1, am_st2, am_clr, up2_na, up2_nj, up2_same, List.getElem?_cons_zero, List.getElem?_cons_succ, List.set_cons_zero, List.set_cons_succ, ne_eq, tk_79 hh, xI_1, xI_p, xI_f, hL, k30 hh hq hL hL2 hR, h59, u1, u2, k31 hh (by decide : (1 : Int) ≤ 1 ∧ (1 : Int) ≤ 9) p2]
          exact fin
      · have e : p' = L := by omega
        subst e
        rw [if_neg (Nat.lt_irrefl _)] at hO
        have fin := hO rfl S1 V1 _ _ (xO_end g1 g2)
        have e2 : n + (la ++ lc).length = n + la.length + lc.length := by rw [List.length_append]; omega
        have fin : Q (some (.inl 0)) (185, s, T, xI I q (p' : Int) 0 ((k + 1 : Nat) : Int) ((n + (la ++ lc).length : Nat) : Int) S1 V1 (sx A (k + 1) ((n + la.length + lc.length : Nat) : Int)) (sx C k ((n + la.length : Nat) : Int)), J, R) := fin
        rw [e2] at fin
        have s1 : sgX I p' p' = -1 := if_neg (Nat.lt_irrefl _)
        refine s27_25.mpr ?_
        simp only [s27_26, s27_27, s27_28, s27_29, s27_30, s27_31, s27_32, s27_43, s27_44, s27_45, s27_46, s27_47, s27_48, s27_49, s27_50, s27_51, s27_52, s27_53, Option.toList_some, Option.toList_none, List.cons_append, List.nil_append, Nat.le_refl, true_and, and_true, true_or, or_true, false_or, or_false, true_implies, false_implies, implies_true, not_true_eq_false, not_false_eq_true, eq_self, Nat.reduceLT, Nat.reduceLeDiff, Nat.reduceEqDiff, Nat.reduceAdd, Nat.reduceSub, Int.reduceLT, Int.reduceLE, Int.reduceEq, Int.reduceNeg, Int.reduceNe, Int.reduceAdd, Int.reduceSub, Int.reduceMul, Int.reduceToNat, Int.toNat_zero, Int.toNat_one, Int.toNat_natCast, am_cats, am_cat, am_st1, am_st2, am_clr, up2_na, up2_nj, up2_same, List.getElem?_cons_zero, List.getElem?_cons_succ, List.set_cons_zero, List.set_cons_succ, ne_eq, tk_79 hh, xI_1, xI_p, xI_f, hL, k30 hh hq hL hL2 hR, s1, Int.lt_irrefl]
        by_cases h : (i : Int) < (p' : Int)
        · exact ⟨fun _ => fin, fun z => absurd h z⟩
        · exact ⟨fun z => absurd z h, fun _ => fin⟩
end
/-! the reader's entry -/
theorem xI_id {I : Nat → Nat → Int} {q : Nat} : I = xI I q (I 79 2) (I 79 3) (I q 0) (I q 6) (I (q + 1)) (I (q + 2)) (I (q + 3)) (I (q + 4)) := by
  funext a j
  unfold xI
  split
  · rename_i h; subst h
    split
    · rename_i h; rw [h]
    split
    · rename_i h; rw [h]
    rfl
  split
  · rename_i h; subst h
    split
    · rename_i h; rw [h]
    split
    · rename_i h; rw [h]
    rfl
  split
  · rename_i h; rw [h]
  split
  · rename_i h; rw [h]
  split
  · rename_i h; rw [h]
  split
  · rename_i h; rw [h]
  rfl
theorem hp_up {T : Nat → Nat × Nat} {R : Nat → Nat → Option Nat} (h : hp T R) {a j : Nat} {v : Option Nat} (hb : (bR a j).length ≠ 1) : hp T (up2 R a j v) := by
  refine ⟨h.1, fun x y i hx hy hr => ?_⟩
  by_cases e : x = a ∧ y = j
  · rw [e.1, e.2] at hr
    rw [hr] at hb
    exact absurd rfl hb
  · show (if x = a ∧ y = j then v else R x y) = _
    rw [if_neg e]
    exact h.2 x y i hx hy hr
theorem lawAt_up {T : Nat → Nat × Nat} {R : Nat → Nat → Option Nat} {q a j : Nat} {v : Option Nat} (h : lawAt T R q) (ha : a ≠ q) : lawAt T (up2 R a j v) q := by
  obtain ⟨h1, h2, t0, t1, t2, t3, t4, t5, r1, r2, r3, r4, r5⟩ := h
  have e : ∀ y, up2 R a j v q y = R q y := fun y => up2_na (fun z => ha z.symm)
  exact ⟨h1, h2, t0, t1, t2, t3, t4, t5, (e _).trans r1, (e _).trans r2, (e _).trans r3, (e _).trans r4, (e _).trans r5⟩
