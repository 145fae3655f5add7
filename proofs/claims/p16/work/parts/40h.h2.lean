/-! by hand, 2: the reference's counts, its odds -/
/-- of the first n answers: those of a head to a task; the right ones -/
def mny (I : Nat → Nat → Int) (h t : Int) : Nat → Int
  | 0 => 0
  | n + 1 => mny I h t n + (if I 157 n = h ∧ I 158 n = t then 1 else 0)
def rgt (I : Nat → Nat → Int) (h t : Int) : Nat → Int
  | 0 => 0
  | n + 1 => rgt I h t n + (if I 157 n = h ∧ I 158 n = t then I 160 n else 0)
theorem mny_bd (I : Nat → Nat → Int) (h t : Int) : ∀ n : Nat, 0 ≤ mny I h t n ∧ mny I h t n ≤ n
  | 0 => ⟨Int.le_refl 0, Int.le_refl 0⟩
  | n + 1 => by
    have := mny_bd I h t n
    rw [mny]
    split <;> omega
theorem rgt_bd {I : Nat → Nat → Int} {N : Nat} (hI : ∀ j, j < N → 0 ≤ I 160 j ∧ I 160 j ≤ 1) (h t : Int) : ∀ n : Nat, n ≤ N → 0 ≤ rgt I h t n ∧ rgt I h t n ≤ mny I h t n
  | 0, _ => ⟨Int.le_refl 0, Int.le_refl 0⟩
  | n + 1, hn => by
    have := rgt_bd hI h t n (by omega)
    have := hI n (by omega)
    rw [rgt, mny]
    split <;> omega
/-- the heap, as the reference's methods find it -/
def mdl (T : Nat → Nat × Nat) (R : Nat → Nat → Option Nat) : Prop := (∀ a, a < nO → T a = tT.getD a (0, 0)) ∧ ∀ j i, bR 152 j = [i] → j < 53 → R 152 j = some i
theorem mdl_of {c s : Nat} {T : Nat → Nat × Nat} {I J : Nat → Nat → Int} {R : Nat → Nat → Option Nat} (h : eH5 (c, s, T, I, J, R)) : mdl T R := ⟨h.2.1, fun j i hb hj => eR1 h (by decide) hj hb⟩
section
variable {d s : Nat} {T : Nat → Nat × Nat} {I J : Nat → Nat → Int} {R : Nat → Nat → Option Nat}
theorem many_loop (hm : mdl T R) {N : Nat} (hN : I 152 4 = (N : Int)) (hN2 : N ≤ 200) {h t : Int} : ∀ (r i : Nat), i + r = N → wp codeT mX d 177 4 [some (.inr (.inr (some 152))), some (.inl h), some (.inl t), some (.inl (mny I h t i)), some (.inl (i : Int))] [] (185, s, T, I, J, R) (fun v g => g = (185, s, T, I, J, R) ∧ v = some (.inl (mny I h t N))) := by
  have t152 : T 152 = (12, 53) := hm.1 152 (by decide)
  have t157 : T 157 = (100, 200) := hm.1 157 (by decide)
  have t158 : T 158 = (100, 200) := hm.1 158 (by decide)
  have r1 : R 152 11 = some 157 := hm.2 11 157 (by decide +kernel) (by decide)
  have r2 : R 152 12 = some 158 := hm.2 12 158 (by decide +kernel) (by decide)
  intro r
  induction r with
  | zero =>
    intro i hi
    have hi : i = N := by omega
    subst hi
    refine s177_4.mpr ?_
    simp only [s177_0, s177_1, s177_2, s177_3, s177_5, s177_6, s177_7, s177_8, s177_9, s177_10, s177_11, s177_12, s177_13, s177_14, s177_15, s177_16, s177_17, s177_18, s177_19, s177_20, s177_21, s177_22, s177_23, s177_24, s177_25, s177_26, s177_27, s177_28, s177_29, Option.toList_some, Option.toList_none, List.cons_append, List.nil_append, Nat.le_refl, true_and, and_true, true_or, or_true, false_or, or_false, true_implies, false_implies, implies_true, not_true_eq_false, not_false_eq_true, eq_self, Nat.reduceLT, Nat.reduceLeDiff, Nat.reduceEqDiff, Nat.reduceAdd, Nat.reduceSub, Int.reduceLT, Int.reduceLE, Int.reduceEq, Int.reduceNeg, Int.reduceNe, Int.reduceAdd, Int.reduceSub, Int.reduceMul, Int.reduceToNat, Int.toNat_zero, Int.toNat_one, Int.toNat_natCast, am_cats, am_cat, am_st1, am_st2, am_clr, up2_na, up2_nj, up2_same, List.getElem?_cons_zero, List.getElem?_cons_succ, List.set_cons_zero, List.set_cons_succ, ne_eq, t152, hN]
    exact fun z => absurd z (by omega)
  | succ r ih =>
    intro i hi
    have b := mny_bd I h t i
    have nx : wp codeT mX d 177 4 [some (.inr (.inr (some 152))), some (.inl h), some (.inl t), some (.inl (mny I h t i + (if I 157 i = h ∧ I 158 i = t then 1 else 0))), some (.inl ((i : Int) + 1))] [] (185, s, T, I, J, R) (fun v g => g = (185, s, T, I, J, R) ∧ v = some (.inl (mny I h t N))) := ih (i + 1) (by omega)
    have e1 : w32 ((i : Int) + 1) = (i : Int) + 1 := w32_eq (by omega) (by omega)
    refine s177_4.mpr ?_
    simp only [s177_0, s177_1, s177_2, s177_3, s177_5, s177_6, s177_7, s177_8, s177_9, s177_10, s177_11, s177_12, s177_13, s177_14, s177_15, s177_16, s177_17, s177_18, s177_19, s177_20, s177_21, s177_22, s177_23, s177_24, s177_25, s177_26, s177_27, s177_28, s177_29, Option.toList_some, Option.toList_none, List.cons_append, List.nil_append, Nat.le_refl, true_and, and_true, true_or, or_true, false_or, or_false, true_implies, false_implies, implies_true, not_true_eq_false, not_false_eq_true, eq_self, Nat.reduceLT, Nat.reduceLeDiff, Nat.reduceEqDiff, Nat.reduceAdd, Nat.reduceSub, Int.reduceLT, Int.reduceLE, Int.reduceEq, Int.reduceNeg, Int.reduceNe, Int.reduceAdd, Int.reduceSub, Int.reduceMul, Int.reduceToNat, Int.toNat_zero, Int.toNat_one, Int.toNat_natCast, am_cats, am_cat, am_st1, am_st2, am_clr, up2_na, up2_nj, up2_same, List.getElem?_cons_zero, List.getElem?_cons_succ, List.set_cons_zero, List.set_cons_succ, ne_eq, t152, t157, t158, r1, r2, hN, e1]
    refine ⟨fun _ => ?_, fun z => by omega⟩
    refine ⟨⟨by omega, by omega⟩, fun e2 => ⟨⟨by omega, by omega⟩, fun e3 => ?_, fun e3 => ?_⟩, fun e2 => ?_⟩
    · rw [if_pos ⟨e2, e3⟩] at nx
      rw [w32_eq (by omega) (by omega)]
      exact nx
    · rw [if_neg (fun z => e3 z.2)] at nx
      rw [w32_eq (by omega) (by omega)]
      exact nx
    · rw [if_neg (fun z => e2 z.1)] at nx
      rw [w32_eq (by omega) (by omega)]
      exact nx
theorem w_many (hm : mdl T R) {N : Nat} (hN : I 152 4 = (N : Int)) (hN2 : N ≤ 200) {h t : Int} : wpc codeT mX d 177 [.inr (.inr (some 152)), .inl h, .inl t] (185, s, T, I, J, R) (fun v g => g = (185, s, T, I, J, R) ∧ v = some (.inl (mny I h t N))) := by
  have := many_loop (d := d) (s := s) (J := J) hm hN hN2 (h := h) (t := t) N 0 (by omega)
  simp only [e177, s177_0, s177_1, s177_2, s177_3, s177_5, s177_6, s177_7, s177_8, s177_9, s177_10, s177_11, s177_12, s177_13, s177_14, s177_15, s177_16, s177_17, s177_18, s177_19, s177_20, s177_21, s177_22, s177_23, s177_24, s177_25, s177_26, s177_27, s177_28, s177_29, Option.toList_some, Option.toList_none, List.cons_append, List.nil_append, Nat.le_refl, true_and, and_true, true_or, or_true, false_or, or_false, true_implies, false_implies, implies_true, not_true_eq_false, not_false_eq_true, eq_self, Nat.reduceLT, Nat.reduceLeDiff, Nat.reduceEqDiff, Nat.reduceAdd, Nat.reduceSub, Int.reduceLT, Int.reduceLE, Int.reduceEq, Int.reduceNeg, Int.reduceNe, Int.reduceAdd, Int.reduceSub, Int.reduceMul, Int.reduceToNat, Int.toNat_zero, Int.toNat_one, Int.toNat_natCast, am_cats, am_cat, am_st1, am_st2, am_clr, up2_na, up2_nj, up2_same, List.getElem?_cons_zero, List.getElem?_cons_succ, List.set_cons_zero, List.set_cons_succ, ne_eq]
  exact this
theorem rights_loop (hm : mdl T R) {N : Nat} (hI : ∀ j, j < N → 0 ≤ I 160 j ∧ I 160 j ≤ 1) (hN : I 152 4 = (N : Int)) (hN2 : N ≤ 200) {h t : Int} : ∀ (r i : Nat), i + r = N → wp codeT mX d 178 4 [some (.inr (.inr (some 152))), some (.inl h), some (.inl t), some (.inl (rgt I h t i)), some (.inl (i : Int))] [] (185, s, T, I, J, R) (fun v g => g = (185, s, T, I, J, R) ∧ v = some (.inl (rgt I h t N))) := by
  have t152 : T 152 = (12, 53) := hm.1 152 (by decide)
  have t157 : T 157 = (100, 200) := hm.1 157 (by decide)
  have t158 : T 158 = (100, 200) := hm.1 158 (by decide)
  have t160 : T 160 = (100, 200) := hm.1 160 (by decide)
  have r1 : R 152 11 = some 157 := hm.2 11 157 (by decide +kernel) (by decide)
  have r2 : R 152 12 = some 158 := hm.2 12 158 (by decide +kernel) (by decide)
  have r3 : R 152 14 = some 160 := hm.2 14 160 (by decide +kernel) (by decide)
  intro r
  induction r with
  | zero =>
    intro i hi
    have hi : i = N := by omega
    subst hi
    refine s178_4.mpr ?_
    simp only [s178_0, s178_1, s178_2, s178_3, s178_5, s178_6, s178_7, s178_8, s178_9, s178_10, s178_11, s178_12, s178_13, s178_14, s178_15, s178_16, s178_17, s178_18, s178_19, s178_20, s178_21, s178_22, s178_23, s178_24, s178_25, s178_26, s178_27, s178_28, s178_29, s178_30, s178_31, s178_32, Option.toList_some, Option.toList_none, List.cons_append, List.nil_append, Nat.le_refl, true_and, and_true, true_or, or_true, false_or, or_false, true_implies, false_implies, implies_true, not_true_eq_false, not_false_eq_true, eq_self, Nat.reduceLT, Nat.reduceLeDiff, Nat.reduceEqDiff, Nat.reduceAdd, Nat.reduceSub, Int.reduceLT, Int.reduceLE, Int.reduceEq, Int.reduceNeg, Int.reduceNe, Int.reduceAdd, Int.reduceSub, Int.reduceMul, Int.reduceToNat, Int.toNat_zero, Int.toNat_one, Int.toNat_natCast, am_cats, am_cat, am_st1, am_st2, am_clr, up2_na, up2_nj, up2_same, List.getElem?_cons_zero, List.getElem?_cons_succ, List.set_cons_zero, List.set_cons_succ, ne_eq, t152, hN]
    exact fun z => absurd z (by omega)
  | succ r ih =>
    intro i hi
    have b := rgt_bd hI h t i (by omega)
    have b2 := mny_bd I h t i
    have b3 := hI i (by omega)
    have nx : wp codeT mX d 178 4 [some (.inr (.inr (some 152))), some (.inl h), some (.inl t), some (.inl (rgt I h t i + (if I 157 i = h ∧ I 158 i = t then I 160 i else 0))), some (.inl ((i : Int) + 1))] [] (185, s, T, I, J, R) (fun v g => g = (185, s, T, I, J, R) ∧ v = some (.inl (rgt I h t N))) := ih (i + 1) (by omega)
    have e1 : w32 ((i : Int) + 1) = (i : Int) + 1 := w32_eq (by omega) (by omega)
    refine s178_4.mpr ?_
    simp only [s178_0, s178_1, s178_2, s178_3, s178_5, s178_6, s178_7, s178_8, s178_9, s178_10, s178_11, s178_12, s178_13, s178_14, s178_15, s178_16, s178_17, s178_18, s178_19, s178_20, s178_21, s178_22, s178_23, s178_24, s178_25, s178_26, s178_27, s178_28, s178_29, s178_30, s178_31, s178_32, Option.toList_some, Option.toList_none, List.cons_append, List.nil_append, Nat.le_refl, true_and, and_true, true_or, or_true, false_or, or_false, true_implies, false_implies, implies_true, not_true_eq_false, not_false_eq_true, eq_self, Nat.reduceLT, Nat.reduceLeDiff, Nat.reduceEqDiff, Nat.reduceAdd, Nat.reduceSub, Int.reduceLT, Int.reduceLE, Int.reduceEq, Int.reduceNeg, Int.reduceNe, Int.reduceAdd, Int.reduceSub, Int.reduceMul, Int.reduceToNat, Int.toNat_zero, Int.toNat_one, Int.toNat_natCast, am_cats, am_cat, am_st1, am_st2, am_clr, up2_na, up2_nj, up2_same, List.getElem?_cons_zero, List.getElem?_cons_succ, List.set_cons_zero, List.set_cons_succ, ne_eq, t152, t157, t158, t160, r1, r2, r3, hN, e1]
    refine ⟨fun _ => ?_, fun z => by omega⟩
    refine ⟨⟨by omega, by omega⟩, fun e2 => ⟨⟨by omega, by omega⟩, fun e3 => ⟨⟨by omega, by omega⟩, ?_⟩, fun e3 => ?_⟩, fun e2 => ?_⟩
    · rw [if_pos ⟨e2, e3⟩] at nx
      rw [w32_eq (by omega) (by omega)]
      exact nx
    · rw [if_neg (fun z => e3 z.2)] at nx
      rw [w32_eq (by omega) (by omega)]
      exact nx
    · rw [if_neg (fun z => e2 z.1)] at nx
      rw [w32_eq (by omega) (by omega)]
      exact nx
theorem w_rights (hm : mdl T R) {N : Nat} (hI : ∀ j, j < N → 0 ≤ I 160 j ∧ I 160 j ≤ 1) (hN : I 152 4 = (N : Int)) (hN2 : N ≤ 200) {h t : Int} : wpc codeT mX d 178 [.inr (.inr (some 152)), .inl h, .inl t] (185, s, T, I, J, R) (fun v g => g = (185, s, T, I, J, R) ∧ v = some (.inl (rgt I h t N))) := by
  have := rights_loop (d := d) (s := s) (J := J) hm hI hN hN2 (h := h) (t := t) N 0 (by omega)
  simp only [e178, s178_0, s178_1, s178_2, s178_3, s178_5, s178_6, s178_7, s178_8, s178_9, s178_10, s178_11, s178_12, s178_13, s178_14, s178_15, s178_16, s178_17, s178_18, s178_19, s178_20, s178_21, s178_22, s178_23, s178_24, s178_25, s178_26, s178_27, s178_28, s178_29, s178_30, s178_31, s178_32, Option.toList_some, Option.toList_none, List.cons_append, List.nil_append, Nat.le_refl, true_and, and_true, true_or, or_true, false_or, or_false, true_implies, false_implies, implies_true, not_true_eq_false, not_false_eq_true, eq_self, Nat.reduceLT, Nat.reduceLeDiff, Nat.reduceEqDiff, Nat.reduceAdd, Nat.reduceSub, Int.reduceLT, Int.reduceLE, Int.reduceEq, Int.reduceNeg, Int.reduceNe, Int.reduceAdd, Int.reduceSub, Int.reduceMul, Int.reduceToNat, Int.toNat_zero, Int.toNat_one, Int.toNat_natCast, am_cats, am_cat, am_st1, am_st2, am_clr, up2_na, up2_nj, up2_same, List.getElem?_cons_zero, List.getElem?_cons_succ, List.set_cons_zero, List.set_cons_succ, ne_eq]
  exact this
end
/-- how many sets of so many there are, as it is reckoned -/
def chI (n k : Int) : Nat → Int
  | 0 => 1
  | q + 1 => w64 (Int.tdiv (w64 (chI n k q * w32 (w32 (n - k) + ((q : Int) + 1)))) ((q : Int) + 1))
def chP (n k : Int) : Int := if k < 0 ∨ n < k then 0 else chI n k k.toNat
theorem ch_ne : ∀ n : Nat, n ≤ 50 → ∀ k : Nat, k ≤ n → chP n k ≠ 0 := by decide +kernel
theorem w64_lo (z : Int) : -9223372036854775808 ≤ w64 z ∧ w64 z ≤ 9223372036854775807 := by unfold w64; omega
theorem ch_rg (n k : Int) : ∀ q, -9223372036854775808 ≤ chI n k q ∧ chI n k q ≤ 9223372036854775807
  | 0 => by show _ ≤ (1 : Int) ∧ (1 : Int) ≤ _; decide
  | q + 1 => w64_lo _
theorem chP_rg (n k : Int) : -9223372036854775808 ≤ chP n k ∧ chP n k ≤ 9223372036854775807 := by
  unfold chP
  split
  · decide
  · exact ch_rg n k _
theorem choose_loop {d : Nat} {h : AH} {n : Int} {K : Nat} (hK : K ≤ 1000) : ∀ (r q : Nat), q + r = K → wp codeT mX d 183 11 [some (.inl n), some (.inl (K : Int)), some (.inr (.inl (chI n K q))), none, some (.inl ((q : Int) + 1))] [] h (fun v g => g = h ∧ v = some (.inr (.inl (chI n K K)))) := by
  intro r
  induction r with
  | zero =>
    intro q hq
    have hq : q = K := by omega
    subst hq
    refine s183_11.mpr ?_
    simp only [s183_0, s183_1, s183_2, s183_3, s183_4, s183_5, s183_6, s183_7, s183_8, s183_9, s183_10, s183_12, s183_13, s183_14, s183_15, s183_16, s183_17, s183_18, s183_19, s183_20, s183_21, s183_22, s183_23, s183_24, s183_25, s183_26, s183_27, s183_28, s183_29, Option.toList_some, Option.toList_none, List.cons_append, List.nil_append, Nat.le_refl, true_and, and_true, true_or, or_true, false_or, or_false, true_implies, false_implies, implies_true, not_true_eq_false, not_false_eq_true, eq_self, Nat.reduceLT, Nat.reduceLeDiff, Nat.reduceEqDiff, Nat.reduceAdd, Nat.reduceSub, Int.reduceLT, Int.reduceLE, Int.reduceEq, Int.reduceNeg, Int.reduceNe, Int.reduceAdd, Int.reduceSub, Int.reduceMul, Int.reduceToNat, Int.toNat_zero, Int.toNat_one, Int.toNat_natCast, am_cats, am_cat, am_st1, am_st2, am_clr, up2_na, up2_nj, up2_same, List.getElem?_cons_zero, List.getElem?_cons_succ, List.set_cons_zero, List.set_cons_succ, ne_eq]
    exact fun z => absurd (show (q : Int) < (q : Int) + 1 by omega) z
  | succ r ih =>
    intro q hq
    have nx : wp codeT mX d 183 11 [some (.inl n), some (.inl (K : Int)), some (.inr (.inl (w64 (Int.tdiv (w64 (chI n K q * w32 (w32 (n - K) + ((q : Int) + 1)))) ((q : Int) + 1))))), none, some (.inl ((q : Int) + 1 + 1))] [] h (fun v g => g = h ∧ v = some (.inr (.inl (chI n K K)))) := ih (q + 1) (by omega)
    have e1 : w32 ((q : Int) + 1 + 1) = (q : Int) + 1 + 1 := w32_eq (by omega) (by omega)
    refine s183_11.mpr ?_
    simp only [s183_0, s183_1, s183_2, s183_3, s183_4, s183_5, s183_6, s183_7, s183_8, s183_9, s183_10, s183_12, s183_13, s183_14, s183_15, s183_16, s183_17, s183_18, s183_19, s183_20, s183_21, s183_22, s183_23, s183_24, s183_25, s183_26, s183_27, s183_28, s183_29, Option.toList_some, Option.toList_none, List.cons_append, List.nil_append, Nat.le_refl, true_and, and_true, true_or, or_true, false_or, or_false, true_implies, false_implies, implies_true, not_true_eq_false, not_false_eq_true, eq_self, Nat.reduceLT, Nat.reduceLeDiff, Nat.reduceEqDiff, Nat.reduceAdd, Nat.reduceSub, Int.reduceLT, Int.reduceLE, Int.reduceEq, Int.reduceNeg, Int.reduceNe, Int.reduceAdd, Int.reduceSub, Int.reduceMul, Int.reduceToNat, Int.toNat_zero, Int.toNat_one, Int.toNat_natCast, am_cats, am_cat, am_st1, am_st2, am_clr, up2_na, up2_nj, up2_same, List.getElem?_cons_zero, List.getElem?_cons_succ, List.set_cons_zero, List.set_cons_succ, ne_eq, e1]
    exact ⟨fun z => absurd z (by omega), fun _ => ⟨by omega, nx⟩⟩
theorem w_choose {d : Nat} {h : AH} {n k : Int} (hn : n ≤ 1000) : wpc codeT mX d 183 [.inl n, .inl k] h (fun v g => g = h ∧ v = some (.inr (.inl (chP n k)))) := by
  simp only [e183, s183_0, s183_1, s183_2, s183_3, s183_4, s183_5, s183_6, s183_7, s183_8, s183_9, s183_10, s183_12, s183_13, s183_14, s183_15, s183_16, s183_17, s183_18, s183_19, s183_20, s183_21, s183_22, s183_23, s183_24, s183_25, s183_26, s183_27, s183_28, s183_29, Option.toList_some, Option.toList_none, List.cons_append, List.nil_append, Nat.le_refl, true_and, and_true, true_or, or_true, false_or, or_false, true_implies, false_implies, implies_true, not_true_eq_false, not_false_eq_true, eq_self, Nat.reduceLT, Nat.reduceLeDiff, Nat.reduceEqDiff, Nat.reduceAdd, Nat.reduceSub, Int.reduceLT, Int.reduceLE, Int.reduceEq, Int.reduceNeg, Int.reduceNe, Int.reduceAdd, Int.reduceSub, Int.reduceMul, Int.reduceToNat, Int.toNat_zero, Int.toNat_one, Int.toNat_natCast, am_cats, am_cat, am_st1, am_st2, am_clr, up2_na, up2_nj, up2_same, List.getElem?_cons_zero, List.getElem?_cons_succ, List.set_cons_zero, List.set_cons_succ, ne_eq]
  refine ⟨fun h1 => ?_, fun h1 => ⟨fun h2 => ?_, fun h2 => ?_⟩⟩
  · unfold chP
    rw [if_pos (Or.inl h1)]
  · unfold chP
    rw [if_pos (Or.inr h2)]
  · obtain ⟨K, rfl⟩ : ∃ K : Nat, k = K := ⟨k.toNat, by omega⟩
    unfold chP
    rw [if_neg (by omega), Int.toNat_natCast]
    exact choose_loop (n := n) (by omega) K 0 (by omega)
