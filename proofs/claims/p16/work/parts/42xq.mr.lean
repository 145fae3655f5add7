/-! the law's two readers, 27: worse, parted answer alike -/
theorem w64_o {z : Int} (h1 : -9223372036854775808 ≤ z) (h2 : z ≤ 9223372036854775807) : w64 z = z := by unfold w64; omega
theorem chB25 : ∀ n : Nat, n ≤ 25 → ∀ k : Nat, k ≤ n → 0 ≤ chP n k ∧ chP n k ≤ 5200300 := by decide +kernel
theorem chB50 : ∀ n : Nat, n ≤ 50 → ∀ k : Nat, k ≤ n → 1 ≤ chP n k ∧ chP n k ≤ 126410606437752 := by decide +kernel
theorem ch25 {A k : Int} (hA : 0 ≤ A ∧ A ≤ 25) : 0 ≤ chP A k ∧ chP A k ≤ 5200300 := by
  by_cases z : k < 0 ∨ A < k
  · unfold chP
    rw [if_pos z]
    decide
  · obtain ⟨n, rfl⟩ : ∃ n : Nat, A = n := ⟨A.toNat, by omega⟩
    obtain ⟨m, rfl⟩ : ∃ m : Nat, k = m := ⟨k.toNat, by omega⟩
    exact chB25 n (by omega) m (by omega)
theorem odA_b {A B all : Int} (hA : 0 ≤ A ∧ A ≤ 25) (hB : 0 ≤ B ∧ B ≤ 25) : ∀ i : Nat, i ≤ 26 → 0 ≤ odA A B all i ∧ odA A B all i ≤ 27043120090000 * (i : Int)
  | 0, _ => ⟨Int.le_refl _, Int.le_refl _⟩
  | i + 1, hi => by
    have ih := odA_b (all := all) hA hB i (by omega)
    obtain ⟨a1, a2⟩ := ch25 (A := A) (k := i) hA
    obtain ⟨b1, b2⟩ := ch25 (A := B) (k := w32 (all - i)) hB
    rw [odA]
    generalize chP A i = p at *
    generalize chP B (w32 (all - i)) = q at *
    have m0 : 0 ≤ p * q := Int.mul_nonneg a1 b1
    have m1 : p * q ≤ 5200300 * 5200300 := Int.mul_le_mul a2 b2 b1 (by decide)
    generalize p * q = m at *
    generalize odA A B all i = o at *
    rw [w64_o (z := m) (by omega) (by omega), w64_o (by omega) (by omega)]
    omega
/-- the greatest common divisor, step by step -/
theorem gcd_st (a b : Nat) : Nat.gcd a b = Nat.gcd b (a % b) := (Nat.gcd_comm a b).trans ((Nat.gcd_rec b a).trans (Nat.gcd_comm _ _))
theorem tm_nat (A B : Nat) : (A : Int) - Int.tdiv (A : Int) (B : Int) * (B : Int) = ((A % B : Nat) : Int) := by
  have h : (B : Int) * ((A / B : Nat) : Int) + ((A % B : Nat) : Int) = (A : Int) := by rw [← Int.natCast_mul, ← Int.natCast_add, Nat.div_add_mod]
  show (A : Int) - ((A / B : Nat) : Int) * (B : Int) = ((A % B : Nat) : Int)
  generalize ((A / B : Nat) : Int) = q at *
  generalize ((A % B : Nat) : Int) = r at *
  rw [Int.mul_comm q]
  generalize (B : Int) * q = m at *
  omega
theorem lc0 {b : Nat} : ((if (0 : Int) < (b : Int) then (1 : Int) else if (b : Int) < 0 then -1 else 0) = 0) = (b = 0) := by
  refine propext ⟨fun h => ?_, fun h => ?_⟩
  · by_cases z : b = 0
    · exact z
    · rw [if_pos (by omega)] at h
      exact absurd h (by decide)
  · subst h
    rfl
theorem half_lt {b r n : Nat} (hr : 0 < r) (hb : r < b) (hn : b < 2 ^ (n + 1)) : b % r < 2 ^ n := by
  have h1 : b % r < r := Nat.mod_lt _ hr
  have h2 : b % r ≤ b - r := by
    rw [Nat.mod_eq_sub_mod (Nat.le_of_lt hb)]
    exact Nat.mod_le _ _
  rw [Nat.pow_succ] at hn
  omega
section
variable {s d : Nat} {T : Nat → Nat × Nat} {I J : Nat → Nat → Int} {R : Nat → Nat → Option Nat} {Q : Option AV → AH → Prop}
theorem ways_l {h : AH} {n : Int} {K : Nat} (hK : K ≤ 1000) : ∀ (r q : Nat), q + r = K → wp codeT mX d 83 11 [some (.inl n), some (.inl (K : Int)), some (.inr (.inl (chI n K q))), none, some (.inl ((q : Int) + 1))] [] h (fun v g => g = h ∧ v = some (.inr (.inl (chI n K K)))) := by
  intro r
  induction r with
  | zero =>
    intro q hq
    have hq : q = K := by omega
    subst hq
    refine s83_11.mpr ?_
    simp only [s83_0, s83_1, s83_2, s83_3, s83_4, s83_5, s83_6, s83_7, s83_8, s83_9, s83_10, s83_12, s83_13, s83_14, s83_15, s83_16, s83_17, s83_18, s83_19, s83_20, s83_21, s83_22, s83_23, s83_24, s83_25, s83_26, s83_27, s83_28, s83_29, Option.toList_some, Option.toList_none, List.cons_append, List.nil_append, Nat.le_refl, true_and, and_true, true_or, or_true, false_or, or_false, true_implies, false_implies, implies_true, not_true_eq_false, not_false_eq_true, eq_self, Nat.reduceLT, Nat.reduceLeDiff, Nat.reduceEqDiff, Nat.reduceAdd, Nat.reduceSub, Int.reduceLT, Int.reduceLE, Int.reduceEq, Int.reduceNeg, Int.reduceNe, Int.reduceAdd, Int.reduceSub, Int.reduceMul, Int.reduceToNat, Int.toNat_zero, Int.toNat_one, Int.toNat_natCast, am_cats, am_cat, am_st1, am_st2, am_clr, up2_na, up2_nj, up2_same, List.getElem?_cons_zero, List.getElem?_cons_succ, List.set_cons_zero, List.set_cons_succ, ne_eq]
    exact fun z => absurd (show (q : Int) < (q : Int) + 1 by omega) z
  | succ r ih =>
    intro q hq
    have nx : wp codeT mX d 83 11 [some (.inl n), some (.inl (K : Int)), some (.inr (.inl (w64 (Int.tdiv (w64 (chI n K q * w32 (w32 (n - K) + ((q : Int) + 1)))) ((q : Int) + 1))))), none, some (.inl ((q : Int) + 1 + 1))] [] h (fun v g => g = h ∧ v = some (.inr (.inl (chI n K K)))) := ih (q + 1) (by omega)
    have e1 : w32 ((q : Int) + 1 + 1) = (q : Int) + 1 + 1 := w32_eq (by omega) (by omega)
    refine s83_11.mpr ?_
    simp only [s83_0, s83_1, s83_2, s83_3, s83_4, s83_5, s83_6, s83_7, s83_8, s83_9, s83_10, s83_12, s83_13, s83_14, s83_15, s83_16, s83_17, s83_18, s83_19, s83_20, s83_21, s83_22, s83_23, s83_24, s83_25, s83_26, s83_27, s83_28, s83_29, Option.toList_some, Option.toList_none, List.cons_append, List.nil_append, Nat.le_refl, true_and, and_true, true_or, or_true, false_or, or_false, true_implies, false_implies, implies_true, not_true_eq_false, not_false_eq_true, eq_self, Nat.reduceLT, Nat.reduceLeDiff, Nat.reduceEqDiff, Nat.reduceAdd, Nat.reduceSub, Int.reduceLT, Int.reduceLE, Int.reduceEq, Int.reduceNeg, Int.reduceNe, Int.reduceAdd, Int.reduceSub, Int.reduceMul, Int.reduceToNat, Int.toNat_zero, Int.toNat_one, Int.toNat_natCast, am_cats, am_cat, am_st1, am_st2, am_clr, up2_na, up2_nj, up2_same, List.getElem?_cons_zero, List.getElem?_cons_succ, List.set_cons_zero, List.set_cons_succ, ne_eq, e1]
    exact ⟨fun z => absurd z (by omega), fun _ => ⟨by omega, nx⟩⟩
theorem w_ways {h : AH} {n k : Int} (hn : n ≤ 1000) : wpc codeT mX d 83 [.inl n, .inl k] h (fun v g => g = h ∧ v = some (.inr (.inl (chP n k)))) := by
  simp only [e83, s83_0, s83_1, s83_2, s83_3, s83_4, s83_5, s83_6, s83_7, s83_8, s83_9, s83_10, s83_12, s83_13, s83_14, s83_15, s83_16, s83_17, s83_18, s83_19, s83_20, s83_21, s83_22, s83_23, s83_24, s83_25, s83_26, s83_27, s83_28, s83_29, Option.toList_some, Option.toList_none, List.cons_append, List.nil_append, Nat.le_refl, true_and, and_true, true_or, or_true, false_or, or_false, true_implies, false_implies, implies_true, not_true_eq_false, not_false_eq_true, eq_self, Nat.reduceLT, Nat.reduceLeDiff, Nat.reduceEqDiff, Nat.reduceAdd, Nat.reduceSub, Int.reduceLT, Int.reduceLE, Int.reduceEq, Int.reduceNeg, Int.reduceNe, Int.reduceAdd, Int.reduceSub, Int.reduceMul, Int.reduceToNat, Int.toNat_zero, Int.toNat_one, Int.toNat_natCast, am_cats, am_cat, am_st1, am_st2, am_clr, up2_na, up2_nj, up2_same, List.getElem?_cons_zero, List.getElem?_cons_succ, List.set_cons_zero, List.set_cons_succ, ne_eq]
  refine ⟨fun h1 => ?_, fun h1 => ⟨fun h2 => ?_, fun h2 => ?_⟩⟩
  · unfold chP
    rw [if_pos (Or.inl h1)]
  · unfold chP
    rw [if_pos (Or.inr h2)]
  · obtain ⟨K, rfl⟩ : ∃ K : Nat, k = K := ⟨k.toNat, by omega⟩
    unfold chP
    rw [if_neg (by omega), Int.toNat_natCast]
    exact ways_l (n := n) (by omega) K 0 (by omega)
theorem k83 {h : AH} {n k : Int} (hn : n ≤ 1000) : wpc codeT mX d 83 [.inl n, .inl k] h Q ↔ Q (some (.inr (.inl (chP n k)))) h := wpc_det (w_ways hn)
theorem k213 {g : AH} {a b : Int} : wpc codeT mX d 213 [.inr (.inl a), .inr (.inl b)] g Q ↔ Q (some (.inr (.inl (if a < b then b else a)))) g := wpc_det (by
  by_cases z : a < b
  · have z2 : ¬ b < a := by omega
    rw [if_pos z]
    simp only [e213, s213_0, s213_1, s213_2, s213_3, s213_4, s213_5, s213_6, s213_7, Option.toList_some, Option.toList_none, List.cons_append, List.nil_append, Nat.le_refl, true_and, and_true, true_or, or_true, false_or, or_false, true_implies, false_implies, implies_true, not_true_eq_false, not_false_eq_true, eq_self, Nat.reduceLT, Nat.reduceLeDiff, Nat.reduceEqDiff, Nat.reduceAdd, Nat.reduceSub, Int.reduceLT, Int.reduceLE, Int.reduceEq, Int.reduceNeg, Int.reduceNe, Int.reduceAdd, Int.reduceSub, Int.reduceMul, Int.reduceToNat, Int.toNat_zero, Int.toNat_one, Int.toNat_natCast, am_cats, am_cat, am_st1, am_st2, am_clr, up2_na, up2_nj, up2_same, List.getElem?_cons_zero, List.getElem?_cons_succ, List.set_cons_zero, List.set_cons_succ, ne_eq, z, z2, if_true, if_false]
  · rw [if_neg z]
    by_cases z2 : b < a
    · simp only [e213, s213_0, s213_1, s213_2, s213_3, s213_4, s213_5, s213_6, s213_7, Option.toList_some, Option.toList_none, List.cons_append, List.nil_append, Nat.le_refl, true_and, and_true, true_or, or_true, false_or, or_false, true_implies, false_implies, implies_true, not_true_eq_false, not_false_eq_true, eq_self, Nat.reduceLT, Nat.reduceLeDiff, Nat.reduceEqDiff, Nat.reduceAdd, Nat.reduceSub, Int.reduceLT, Int.reduceLE, Int.reduceEq, Int.reduceNeg, Int.reduceNe, Int.reduceAdd, Int.reduceSub, Int.reduceMul, Int.reduceToNat, Int.toNat_zero, Int.toNat_one, Int.toNat_natCast, am_cats, am_cat, am_st1, am_st2, am_clr, up2_na, up2_nj, up2_same, List.getElem?_cons_zero, List.getElem?_cons_succ, List.set_cons_zero, List.set_cons_succ, ne_eq, z, z2, if_true, if_false]
    · simp only [e213, s213_0, s213_1, s213_2, s213_3, s213_4, s213_5, s213_6, s213_7, Option.toList_some, Option.toList_none, List.cons_append, List.nil_append, Nat.le_refl, true_and, and_true, true_or, or_true, false_or, or_false, true_implies, false_implies, implies_true, not_true_eq_false, not_false_eq_true, eq_self, Nat.reduceLT, Nat.reduceLeDiff, Nat.reduceEqDiff, Nat.reduceAdd, Nat.reduceSub, Int.reduceLT, Int.reduceLE, Int.reduceEq, Int.reduceNeg, Int.reduceNe, Int.reduceAdd, Int.reduceSub, Int.reduceMul, Int.reduceToNat, Int.toNat_zero, Int.toNat_one, Int.toNat_natCast, am_cats, am_cat, am_st1, am_st2, am_clr, up2_na, up2_nj, up2_same, List.getElem?_cons_zero, List.getElem?_cons_succ, List.set_cons_zero, List.set_cons_succ, ne_eq, z, z2, if_true, if_false])
/-- class: one step -/
theorem gx_st {h : AH} {a b i : Nat} {l5 l6 : Option AV} (hb : b ≠ 0) (hi : i < 1000) (ha : a < 2 ^ 62) (hb2 : b < 2 ^ 62) (nx : wp codeT mX d 84 2 [some (.inr (.inl (b : Int))), none, some (.inr (.inl ((a % b : Nat) : Int))), none, some (.inl ((i + 1 : Nat) : Int)), some (.inr (.inl ((a % b : Nat) : Int))), none] [] h Q) : wp codeT mX d 84 2 [some (.inr (.inl (a : Int))), none, some (.inr (.inl (b : Int))), none, some (.inl (i : Int)), l5, l6] [] h Q := by
  have u1 : (i : Int) < 1000 := by omega
  have hb0 : ¬ (b : Int) = 0 := by omega
  have m1 : a % b < b := Nat.mod_lt _ (by omega)
  have e1 := tm_nat a b
  have e2 : w64 ((a % b : Nat) : Int) = ((a % b : Nat) : Int) := w64_o (by omega) (by omega)
  have i2 : i ≤ 1080 := by omega
  refine s84_2.mpr ?_
  simp only [s84_3, s84_4, s84_5, s84_6, s84_7, s84_8, s84_9, s84_10, s84_11, s84_12, s84_13, s84_14, s84_15, s84_16, s84_17, s84_18, Option.toList_some, Option.toList_none, List.cons_append, List.nil_append, Nat.le_refl, true_and, and_true, true_or, or_true, false_or, or_false, true_implies, false_implies, implies_true, not_true_eq_false, not_false_eq_true, eq_self, Nat.reduceLT, Nat.reduceLeDiff, Nat.reduceEqDiff, Nat.reduceAdd, Nat.reduceSub, Int.reduceLT, Int.reduceLE, Int.reduceEq, Int.reduceNeg, Int.reduceNe, Int.reduceAdd, Int.reduceSub, Int.reduceMul, Int.reduceToNat, Int.toNat_zero, Int.toNat_one, Int.toNat_natCast, am_cats, am_cat, am_st1, am_st2, am_clr, up2_na, up2_nj, up2_same, List.getElem?_cons_zero, List.getElem?_cons_succ, List.set_cons_zero, List.set_cons_succ, ne_eq, u1, lc0, hb, hb0, e1, e2, w32_s i2]
  exact nx
theorem gx_0 {h : AH} {a b i : Nat} {l5 l6 : Option AV} (hb : b = 0) (hQ : Q (some (.inr (.inl (a : Int)))) h) : wp codeT mX d 84 2 [some (.inr (.inl (a : Int))), none, some (.inr (.inl (b : Int))), none, some (.inl (i : Int)), l5, l6] [] h Q := by
  subst hb
  refine s84_2.mpr ?_
  by_cases u1 : (i : Int) < 1000
  · simp only [s84_3, s84_4, s84_5, s84_6, s84_7, s84_8, s84_19, s84_20, Option.toList_some, Option.toList_none, List.cons_append, List.nil_append, Nat.le_refl, true_and, and_true, true_or, or_true, false_or, or_false, true_implies, false_implies, implies_true, not_true_eq_false, not_false_eq_true, eq_self, Nat.reduceLT, Nat.reduceLeDiff, Nat.reduceEqDiff, Nat.reduceAdd, Nat.reduceSub, Int.reduceLT, Int.reduceLE, Int.reduceEq, Int.reduceNeg, Int.reduceNe, Int.reduceAdd, Int.reduceSub, Int.reduceMul, Int.reduceToNat, Int.toNat_zero, Int.toNat_one, Int.toNat_natCast, am_cats, am_cat, am_st1, am_st2, am_clr, up2_na, up2_nj, up2_same, List.getElem?_cons_zero, List.getElem?_cons_succ, List.set_cons_zero, List.set_cons_succ, ne_eq, u1, lc0]
    exact hQ
  · simp only [s84_3, s84_4, s84_19, s84_20, Option.toList_some, Option.toList_none, List.cons_append, List.nil_append, Nat.le_refl, true_and, and_true, true_or, or_true, false_or, or_false, true_implies, false_implies, implies_true, not_true_eq_false, not_false_eq_true, eq_self, Nat.reduceLT, Nat.reduceLeDiff, Nat.reduceEqDiff, Nat.reduceAdd, Nat.reduceSub, Int.reduceLT, Int.reduceLE, Int.reduceEq, Int.reduceNeg, Int.reduceNe, Int.reduceAdd, Int.reduceSub, Int.reduceMul, Int.reduceToNat, Int.toNat_zero, Int.toNat_one, Int.toNat_natCast, am_cats, am_cat, am_st1, am_st2, am_clr, up2_na, up2_nj, up2_same, List.getElem?_cons_zero, List.getElem?_cons_succ, List.set_cons_zero, List.set_cons_succ, ne_eq, u1]
    exact hQ
theorem gx_l {h : AH} : ∀ (n a b i : Nat) (l5 l6 : Option AV), b < 2 ^ n → i + 2 * n ≤ 900 → a < 2 ^ 62 → b < 2 ^ 62 → Q (some (.inr (.inl ((Nat.gcd a b : Nat) : Int)))) h → wp codeT mX d 84 2 [some (.inr (.inl (a : Int))), none, some (.inr (.inl (b : Int))), none, some (.inl (i : Int)), l5, l6] [] h Q := by
  intro n
  induction n with
  | zero =>
    intro a b i l5 l6 hb hi ha hb2 hQ
    have hb0 : b = 0 := by
      rw [Nat.pow_zero] at hb
      omega
    subst hb0
    rw [Nat.gcd_zero_right] at hQ
    exact gx_0 rfl hQ
  | succ n ih =>
    intro a b i l5 l6 hb hi ha hb2 hQ
    by_cases b0 : b = 0
    · subst b0
      rw [Nat.gcd_zero_right] at hQ
      exact gx_0 rfl hQ
    · have m1 : a % b < b := Nat.mod_lt _ (by omega)
      rw [gcd_st] at hQ
      refine gx_st b0 (by omega) ha hb2 ?_
      by_cases r0 : a % b = 0
      · rw [r0, Nat.gcd_zero_right] at hQ
        exact gx_0 r0 hQ
      · have m2 : b % (a % b) < a % b := Nat.mod_lt _ (by omega)
        rw [gcd_st] at hQ
        refine gx_st r0 (by omega) hb2 (by omega) ?_
        exact ih _ _ _ _ _ (half_lt (by omega) m1 hb) (by omega) (by omega) (by omega) hQ
theorem k84 {h : AH} {a b : Nat} (ha : a < 2 ^ 62) (hb : b < 2 ^ 62) : wpc codeT mX d 84 [.inr (.inl (a : Int)), .inr (.inl (b : Int))] h Q ↔ Q (some (.inr (.inl ((Nat.gcd a b : Nat) : Int)))) h := wpc_det (by
  have go := gx_l (d := d) (h := h) (Q := fun v g => g = h ∧ v = some (.inr (.inl ((Nat.gcd a b : Nat) : Int)))) 62 a b 0 none none hb (by decide) ha hb ⟨rfl, rfl⟩
  simp only [s84_0, s84_1, e84, Option.toList_some, Option.toList_none, List.cons_append, List.nil_append, Nat.le_refl, true_and, and_true, true_or, or_true, false_or, or_false, true_implies, false_implies, implies_true, not_true_eq_false, not_false_eq_true, eq_self, Nat.reduceLT, Nat.reduceLeDiff, Nat.reduceEqDiff, Nat.reduceAdd, Nat.reduceSub, Int.reduceLT, Int.reduceLE, Int.reduceEq, Int.reduceNeg, Int.reduceNe, Int.reduceAdd, Int.reduceSub, Int.reduceMul, Int.reduceToNat, Int.toNat_zero, Int.toNat_one, Int.toNat_natCast, am_cats, am_cat, am_st1, am_st2, am_clr, up2_na, up2_nj, up2_same, List.getElem?_cons_zero, List.getElem?_cons_succ, List.set_cons_zero, List.set_cons_succ, ne_eq]
  exact go)
/-- reference: the same -/
theorem gm_l {h : AH} {x y t w : Int} : ∀ (n a b : Nat) (l l' : Option AV), b ≤ n → a < 2 ^ 62 → b < 2 ^ 62 → (∀ l l', wp codeT mX d 180 43 [some (.inr (.inr (some 152))), some (.inl x), some (.inl y), some (.inl t), some (.inl w), some (.inr (.inl ((Nat.gcd a b : Nat) : Int))), none, some (.inr (.inl 0)), none, l, l'] [] h Q) → wp codeT mX d 180 30 [some (.inr (.inr (some 152))), some (.inl x), some (.inl y), some (.inl t), some (.inl w), some (.inr (.inl (a : Int))), none, some (.inr (.inl (b : Int))), none, l, l'] [] h Q := by
  intro n
  induction n with
  | zero =>
    intro a b l l' hb ha hb2 hQ
    have hb0 : b = 0 := by omega
    subst hb0
    rw [Nat.gcd_zero_right] at hQ
    refine s180_30.mpr ?_
    simp only [s180_31, s180_32, s180_33, Option.toList_some, Option.toList_none, List.cons_append, List.nil_append, Nat.le_refl, true_and, and_true, true_or, or_true, false_or, or_false, true_implies, false_implies, implies_true, not_true_eq_false, not_false_eq_true, eq_self, Nat.reduceLT, Nat.reduceLeDiff, Nat.reduceEqDiff, Nat.reduceAdd, Nat.reduceSub, Int.reduceLT, Int.reduceLE, Int.reduceEq, Int.reduceNeg, Int.reduceNe, Int.reduceAdd, Int.reduceSub, Int.reduceMul, Int.reduceToNat, Int.toNat_zero, Int.toNat_one, Int.toNat_natCast, am_cats, am_cat, am_st1, am_st2, am_clr, up2_na, up2_nj, up2_same, List.getElem?_cons_zero, List.getElem?_cons_succ, List.set_cons_zero, List.set_cons_succ, ne_eq, lc0]
    exact hQ _ _
  | succ n ih =>
    intro a b l l' hb ha hb2 hQ
    by_cases b0 : b = 0
    · subst b0
      rw [Nat.gcd_zero_right] at hQ
      refine s180_30.mpr ?_
      simp only [s180_31, s180_32, s180_33, Option.toList_some, Option.toList_none, List.cons_append, List.nil_append, Nat.le_refl, true_and, and_true, true_or, or_true, false_or, or_false, true_implies, false_implies, implies_true, not_true_eq_false, not_false_eq_true, eq_self, Nat.reduceLT, Nat.reduceLeDiff, Nat.reduceEqDiff, Nat.reduceAdd, Nat.reduceSub, Int.reduceLT, Int.reduceLE, Int.reduceEq, Int.reduceNeg, Int.reduceNe, Int.reduceAdd, Int.reduceSub, Int.reduceMul, Int.reduceToNat, Int.toNat_zero, Int.toNat_one, Int.toNat_natCast, am_cats, am_cat, am_st1, am_st2, am_clr, up2_na, up2_nj, up2_same, List.getElem?_cons_zero, List.getElem?_cons_succ, List.set_cons_zero, List.set_cons_succ, ne_eq, lc0]
      exact hQ _ _
    · have m1 : a % b < b := Nat.mod_lt _ (by omega)
      rw [gcd_st] at hQ
      have hb0 : ¬ (b : Int) = 0 := by omega
      have e1 := tm_nat a b
      have e2 : w64 ((a % b : Nat) : Int) = ((a % b : Nat) : Int) := w64_o (by omega) (by omega)
      have nx := fun l l' => ih b (a % b) l l' (by omega) hb2 (by omega) hQ
      refine s180_30.mpr ?_
      simp only [s180_31, s180_32, s180_33, s180_34, s180_35, s180_36, s180_37, s180_38, s180_39, s180_40, s180_41, s180_42, Option.toList_some, Option.toList_none, List.cons_append, List.nil_append, Nat.le_refl, true_and, and_true, true_or, or_true, false_or, or_false, true_implies, false_implies, implies_true, not_true_eq_false, not_false_eq_true, eq_self, Nat.reduceLT, Nat.reduceLeDiff, Nat.reduceEqDiff, Nat.reduceAdd, Nat.reduceSub, Int.reduceLT, Int.reduceLE, Int.reduceEq, Int.reduceNeg, Int.reduceNe, Int.reduceAdd, Int.reduceSub, Int.reduceMul, Int.reduceToNat, Int.toNat_zero, Int.toNat_one, Int.toNat_natCast, am_cats, am_cat, am_st1, am_st2, am_clr, up2_na, up2_nj, up2_same, List.getElem?_cons_zero, List.getElem?_cons_succ, List.set_cons_zero, List.set_cons_succ, ne_eq, lc0, b0, hb0, e1, e2]
      exact nx _ _
/-- odds: of a and b answers r and q right -/
abbrev okO (a b : Int) : Prop := ¬ (a = 0 ∨ b = 0 ∨ 25 < a ∨ 25 < b)
def loN (a b r q : Int) : Nat := (odA a b (r + q) (r.toNat + 1)).toNat
def alN (a b r q : Int) : Nat := (chP (a + b) (r + q)).toNat
theorem od_b {a b r q : Int} (ha : 0 ≤ r ∧ r ≤ a) (hb : 0 ≤ q ∧ q ≤ b) (ok : okO a b) : odA a b (r + q) (r.toNat + 1) = (loN a b r q : Int) ∧ chP (a + b) (r + q) = (alN a b r q : Int) ∧ loN a b r q ≤ 703121122340000 ∧ 1 ≤ alN a b r q ∧ alN a b r q ≤ 126410606437752 := by
  unfold okO at ok
  have b1 := odA_b (A := a) (B := b) (all := r + q) (by omega) (by omega) (r.toNat + 1) (by omega)
  obtain ⟨n, hn⟩ : ∃ n : Nat, a + b = (n : Int) := ⟨(a + b).toNat, by omega⟩
  obtain ⟨k, hk⟩ : ∃ k : Nat, r + q = (k : Int) := ⟨(r + q).toNat, by omega⟩
  have b2 := chB50 n (by omega) k (by omega)
  rw [← hn, ← hk] at b2
  unfold loN alN
  omega
set_option maxHeartbeats 1000000 in
theorem x82 (hh : hp T R) {a b r q : Int} (ha : 0 ≤ r ∧ r ≤ a) (hb : 0 ≤ q ∧ q ≤ b) (ok : okO a b) (hQ : Q none (185, s, T, I, up2 (up2 J 94 0 ((loN a b r q / Nat.gcd (alN a b r q) (loN a b r q) : Nat) : Int)) 94 1 ((alN a b r q / Nat.gcd (alN a b r q) (loN a b r q) : Nat) : Int), R)) : wpc codeT mX (d + 1) 82 [.inr (.inr (some 94)), .inl a, .inl r, .inl b, .inl q] (185, s, T, I, J, R) Q := by
  obtain ⟨o1, o2, o3, o4, o5⟩ := od_b ha hb ok
  unfold okO at ok
  have w1 : w32 (r + q) = r + q := w32_eq (by omega) (by omega)
  have w2 : w32 (a + b) = a + b := w32_eq (by clear w1; omega) (by clear w1; omega)
  obtain ⟨K, hK⟩ : ∃ K : Nat, r = (K : Int) := ⟨r.toNat, by omega⟩
  have eK : r.toNat = K := by omega
  rw [eK] at o1
  have lp : ∀ (m i : Nat), i + m = K + 1 → ∀ l9 l10 l11, wp codeT mX (d + 1) 82 8 [some (.inr (.inr (some 94))), some (.inl a), some (.inl r), some (.inl b), some (.inl q), some (.inl (r + q)), some (.inr (.inl (odA a b (r + q) i))), none, some (.inl (i : Int)), l9, l10, l11] [] (185, s, T, I, J, R) Q := by
    intro m
    induction m with
    | zero =>
      intro i hi l9 l10 l11
      have hi : i = K + 1 := by omega
      subst hi
      have u1 : r < ((K + 1 : Nat) : Int) := by omega
      generalize loN a b r q = lo at *
      generalize alN a b r q = al at *
      have gp : 0 < Nat.gcd al lo := Nat.gcd_pos_of_pos_left _ (by omega)
      have g1 : (if (1 : Int) < ((Nat.gcd al lo : Nat) : Int) then ((Nat.gcd al lo : Nat) : Int) else 1) = ((Nat.gcd al lo : Nat) : Int) := by
        by_cases z : (1 : Int) < ((Nat.gcd al lo : Nat) : Int)
        · rw [if_pos z]
        · rw [if_neg z]
          omega
      have d1 : w64 (Int.tdiv (lo : Int) ((Nat.gcd al lo : Nat) : Int)) = ((lo / Nat.gcd al lo : Nat) : Int) := by
        have hb3 : lo / Nat.gcd al lo ≤ 703121122340000 := Nat.le_trans (Nat.div_le_self lo (Nat.gcd al lo)) o3
        show w64 ((lo / Nat.gcd al lo : Nat) : Int) = _
        generalize lo / Nat.gcd al lo = z at hb3 ⊢
        exact w64_o (by omega) (by omega)
      have d2 : w64 (Int.tdiv (al : Int) ((Nat.gcd al lo : Nat) : Int)) = ((al / Nat.gcd al lo : Nat) : Int) := by
        have hb3 : al / Nat.gcd al lo ≤ 126410606437752 := Nat.le_trans (Nat.div_le_self al (Nat.gcd al lo)) o5
        show w64 ((al / Nat.gcd al lo : Nat) : Int) = _
        generalize al / Nat.gcd al lo = z at hb3 ⊢
        exact w64_o (by clear d1; omega) (by clear d1; omega)
      have n0 : ¬ ((Nat.gcd al lo : Nat) : Int) = 0 := by clear d1 d2; omega
      have ka : al < 2 ^ 62 := by clear d1 d2; omega
      have kb : lo < 2 ^ 62 := by clear d1 d2; omega
      have hn : a + b ≤ 1000 := by clear d1 d2; omega
      refine s82_8.mpr ?_
      simp only [s82_9, s82_10, s82_25, s82_26, s82_27, s82_28, s82_29, s82_30, s82_31, s82_32, s82_33, s82_34, s82_35, s82_36, s82_37, s82_38, s82_39, s82_40, s82_41, s82_42, s82_43, s82_44, s82_45, s82_46, s82_47, Option.toList_some, Option.toList_none, List.cons_append, List.nil_append, Nat.le_refl, true_and, and_true, true_or, or_true, false_or, or_false, true_implies, false_implies, implies_true, not_true_eq_false, not_false_eq_true, eq_self, Nat.reduceLT, Nat.reduceLeDiff, Nat.reduceEqDiff, Nat.reduceAdd, Nat.reduceSub, Int.reduceLT, Int.reduceLE, Int.reduceEq, Int.reduceNeg, Int.reduceNe, Int.reduceAdd, Int.reduceSub, Int.reduceMul, Int.reduceToNat, Int.toNat_zero, Int.toNat_one, Int.toNat_natCast, am_cats, am_cat, am_st1, am_st2, am_clr, up2_na, up2_nj, up2_same, List.getElem?_cons_zero, List.getElem?_cons_succ, List.set_cons_zero, List.set_cons_succ, ne_eq, tk_94 hh, u1, w2, k83 hn, o1, o2, k84 ka kb, k213, g1, n0, d1, d2]
      exact hQ
    | succ m ih =>
      intro i hi l9 l10 l11
      have u1 : ¬ r < (i : Int) := by omega
      have i2 : i ≤ 1080 := by omega
      have h1 : a ≤ 1000 := by omega
      have h2 : b ≤ 1000 := by omega
      have nx := fun l9 l10 l11 => ih (i + 1) (by omega) l9 l10 l11
      rw [odA] at nx
      refine s82_8.mpr ?_
      simp only [s82_9, s82_10, s82_11, s82_12, s82_13, s82_14, s82_15, s82_16, s82_17, s82_18, s82_19, s82_20, s82_21, s82_22, s82_23, s82_24, Option.toList_some, Option.toList_none, List.cons_append, List.nil_append, Nat.le_refl, true_and, and_true, true_or, or_true, false_or, or_false, true_implies, false_implies, implies_true, not_true_eq_false, not_false_eq_true, eq_self, Nat.reduceLT, Nat.reduceLeDiff, Nat.reduceEqDiff, Nat.reduceAdd, Nat.reduceSub, Int.reduceLT, Int.reduceLE, Int.reduceEq, Int.reduceNeg, Int.reduceNe, Int.reduceAdd, Int.reduceSub, Int.reduceMul, Int.reduceToNat, Int.toNat_zero, Int.toNat_one, Int.toNat_natCast, am_cats, am_cat, am_st1, am_st2, am_clr, up2_na, up2_nj, up2_same, List.getElem?_cons_zero, List.getElem?_cons_succ, List.set_cons_zero, List.set_cons_succ, ne_eq, u1, k83 h1, k83 h2, w32_s i2]
      exact nx _ _ _
  have go := lp (K + 1) 0 (Nat.zero_add _) none none none
  rw [odA] at go
  simp only [s82_0, s82_1, s82_2, s82_3, s82_4, s82_5, s82_6, s82_7, e82, Option.toList_some, Option.toList_none, List.cons_append, List.nil_append, Nat.le_refl, true_and, and_true, true_or, or_true, false_or, or_false, true_implies, false_implies, implies_true, not_true_eq_false, not_false_eq_true, eq_self, Nat.reduceLT, Nat.reduceLeDiff, Nat.reduceEqDiff, Nat.reduceAdd, Nat.reduceSub, Int.reduceLT, Int.reduceLE, Int.reduceEq, Int.reduceNeg, Int.reduceNe, Int.reduceAdd, Int.reduceSub, Int.reduceMul, Int.reduceToNat, Int.toNat_zero, Int.toNat_one, Int.toNat_natCast, am_cats, am_cat, am_st1, am_st2, am_clr, up2_na, up2_nj, up2_same, List.getElem?_cons_zero, List.getElem?_cons_succ, List.set_cons_zero, List.set_cons_succ, ne_eq, w1]
  exact go
theorem k80 (hh : hp T R) {a b : Int} : wpc codeT mX (d + 1) 80 [.inr (.inr (some 0)), .inl a, .inl b] (185, s, T, I, J, R) Q ↔ Q (some (.inl (if (0 ≤ a ∧ a < I 0 2) ∧ (0 ≤ b ∧ b < I 0 2) ∧ a ≠ b then 1 else 0))) (185, s, T, I, J, R) := wpc_det (by
  by_cases g1 : 0 ≤ a ∧ a < I 0 2
  · by_cases g2 : 0 ≤ b ∧ b < I 0 2
    · by_cases g3 : a = b
      · rw [if_neg (fun z => z.2.2 g3)]
        simp only [e80, s80_0, s80_1, s80_2, s80_3, s80_4, s80_5, s80_6, s80_7, s80_8, s80_9, s80_10, s80_11, s80_12, s80_13, s80_14, Option.toList_some, Option.toList_none, List.cons_append, List.nil_append, Nat.le_refl, true_and, and_true, true_or, or_true, false_or, or_false, true_implies, false_implies, implies_true, not_true_eq_false, not_false_eq_true, eq_self, Nat.reduceLT, Nat.reduceLeDiff, Nat.reduceEqDiff, Nat.reduceAdd, Nat.reduceSub, Int.reduceLT, Int.reduceLE, Int.reduceEq, Int.reduceNeg, Int.reduceNe, Int.reduceAdd, Int.reduceSub, Int.reduceMul, Int.reduceToNat, Int.toNat_zero, Int.toNat_one, Int.toNat_natCast, am_cats, am_cat, am_st1, am_st2, am_clr, up2_na, up2_nj, up2_same, List.getElem?_cons_zero, List.getElem?_cons_succ, List.set_cons_zero, List.set_cons_succ, ne_eq, tk_0 hh, k16 hh, i10, g1, g2, g3]
      · rw [if_pos ⟨g1, g2, g3⟩]
        simp only [e80, s80_0, s80_1, s80_2, s80_3, s80_4, s80_5, s80_6, s80_7, s80_8, s80_9, s80_10, s80_11, s80_12, s80_13, s80_14, Option.toList_some, Option.toList_none, List.cons_append, List.nil_append, Nat.le_refl, true_and, and_true, true_or, or_true, false_or, or_false, true_implies, false_implies, implies_true, not_true_eq_false, not_false_eq_true, eq_self, Nat.reduceLT, Nat.reduceLeDiff, Nat.reduceEqDiff, Nat.reduceAdd, Nat.reduceSub, Int.reduceLT, Int.reduceLE, Int.reduceEq, Int.reduceNeg, Int.reduceNe, Int.reduceAdd, Int.reduceSub, Int.reduceMul, Int.reduceToNat, Int.toNat_zero, Int.toNat_one, Int.toNat_natCast, am_cats, am_cat, am_st1, am_st2, am_clr, up2_na, up2_nj, up2_same, List.getElem?_cons_zero, List.getElem?_cons_succ, List.set_cons_zero, List.set_cons_succ, ne_eq, tk_0 hh, k16 hh, i10, g1, g2, g3]
    · rw [if_neg (fun z => g2 z.2.1)]
      simp only [e80, s80_0, s80_1, s80_2, s80_3, s80_4, s80_5, s80_6, s80_7, s80_8, s80_9, s80_10, s80_11, s80_12, s80_13, s80_14, Option.toList_some, Option.toList_none, List.cons_append, List.nil_append, Nat.le_refl, true_and, and_true, true_or, or_true, false_or, or_false, true_implies, false_implies, implies_true, not_true_eq_false, not_false_eq_true, eq_self, Nat.reduceLT, Nat.reduceLeDiff, Nat.reduceEqDiff, Nat.reduceAdd, Nat.reduceSub, Int.reduceLT, Int.reduceLE, Int.reduceEq, Int.reduceNeg, Int.reduceNe, Int.reduceAdd, Int.reduceSub, Int.reduceMul, Int.reduceToNat, Int.toNat_zero, Int.toNat_one, Int.toNat_natCast, am_cats, am_cat, am_st1, am_st2, am_clr, up2_na, up2_nj, up2_same, List.getElem?_cons_zero, List.getElem?_cons_succ, List.set_cons_zero, List.set_cons_succ, ne_eq, tk_0 hh, k16 hh, i10, g1, g2]
  · rw [if_neg (fun z => g1 z.1)]
    simp only [e80, s80_0, s80_1, s80_2, s80_3, s80_4, s80_5, s80_6, s80_7, s80_8, s80_9, s80_10, s80_11, s80_12, s80_13, s80_14, Option.toList_some, Option.toList_none, List.cons_append, List.nil_append, Nat.le_refl, true_and, and_true, true_or, or_true, false_or, or_false, true_implies, false_implies, implies_true, not_true_eq_false, not_false_eq_true, eq_self, Nat.reduceLT, Nat.reduceLeDiff, Nat.reduceEqDiff, Nat.reduceAdd, Nat.reduceSub, Int.reduceLT, Int.reduceLE, Int.reduceEq, Int.reduceNeg, Int.reduceNe, Int.reduceAdd, Int.reduceSub, Int.reduceMul, Int.reduceToNat, Int.toNat_zero, Int.toNat_one, Int.toNat_natCast, am_cats, am_cat, am_st1, am_st2, am_clr, up2_na, up2_nj, up2_same, List.getElem?_cons_zero, List.getElem?_cons_succ, List.set_cons_zero, List.set_cons_succ, ne_eq, tk_0 hh, k16 hh, i10, g1])
theorem k181 (hh : hp T R) {a b : Int} : wpc codeT mX (d + 1) 181 [.inr (.inr (some 152)), .inl a, .inl b] (185, s, T, I, J, R) Q ↔ Q (some (.inl (if (0 ≤ a ∧ a < I 152 2) ∧ (0 ≤ b ∧ b < I 152 2) ∧ a ≠ b then 1 else 0))) (185, s, T, I, J, R) := wpc_det (by
  by_cases g1 : 0 ≤ a ∧ a < I 152 2
  · by_cases g2 : 0 ≤ b ∧ b < I 152 2
    · by_cases g3 : a = b
      · rw [if_neg (fun z => z.2.2 g3)]
        simp only [e181, s181_0, s181_1, s181_2, s181_3, s181_4, s181_5, s181_6, s181_7, s181_8, s181_9, s181_10, s181_11, s181_12, s181_13, s181_14, Option.toList_some, Option.toList_none, List.cons_append, List.nil_append, Nat.le_refl, true_and, and_true, true_or, or_true, false_or, or_false, true_implies, false_implies, implies_true, not_true_eq_false, not_false_eq_true, eq_self, Nat.reduceLT, Nat.reduceLeDiff, Nat.reduceEqDiff, Nat.reduceAdd, Nat.reduceSub, Int.reduceLT, Int.reduceLE, Int.reduceEq, Int.reduceNeg, Int.reduceNe, Int.reduceAdd, Int.reduceSub, Int.reduceMul, Int.reduceToNat, Int.toNat_zero, Int.toNat_one, Int.toNat_natCast, am_cats, am_cat, am_st1, am_st2, am_clr, up2_na, up2_nj, up2_same, List.getElem?_cons_zero, List.getElem?_cons_succ, List.set_cons_zero, List.set_cons_succ, ne_eq, tk_152 hh, k134 hh, i10, g1, g2, g3]
      · rw [if_pos ⟨g1, g2, g3⟩]
        simp only [e181, s181_0, s181_1, s181_2, s181_3, s181_4, s181_5, s181_6, s181_7, s181_8, s181_9, s181_10, s181_11, s181_12, s181_13, s181_14, Option.toList_some, Option.toList_none, List.cons_append, List.nil_append, Nat.le_refl, true_and, and_true, true_or, or_true, false_or, or_false, true_implies, false_implies, implies_true, not_true_eq_false, not_false_eq_true, eq_self, Nat.reduceLT, Nat.reduceLeDiff, Nat.reduceEqDiff, Nat.reduceAdd, Nat.reduceSub, Int.reduceLT, Int.reduceLE, Int.reduceEq, Int.reduceNeg, Int.reduceNe, Int.reduceAdd, Int.reduceSub, Int.reduceMul, Int.reduceToNat, Int.toNat_zero, Int.toNat_one, Int.toNat_natCast, am_cats, am_cat, am_st1, am_st2, am_clr, up2_na, up2_nj, up2_same, List.getElem?_cons_zero, List.getElem?_cons_succ, List.set_cons_zero, List.set_cons_succ, ne_eq, tk_152 hh, k134 hh, i10, g1, g2, g3]
    · rw [if_neg (fun z => g2 z.2.1)]
      simp only [e181, s181_0, s181_1, s181_2, s181_3, s181_4, s181_5, s181_6, s181_7, s181_8, s181_9, s181_10, s181_11, s181_12, s181_13, s181_14, Option.toList_some, Option.toList_none, List.cons_append, List.nil_append, Nat.le_refl, true_and, and_true, true_or, or_true, false_or, or_false, true_implies, false_implies, implies_true, not_true_eq_false, not_false_eq_true, eq_self, Nat.reduceLT, Nat.reduceLeDiff, Nat.reduceEqDiff, Nat.reduceAdd, Nat.reduceSub, Int.reduceLT, Int.reduceLE, Int.reduceEq, Int.reduceNeg, Int.reduceNe, Int.reduceAdd, Int.reduceSub, Int.reduceMul, Int.reduceToNat, Int.toNat_zero, Int.toNat_one, Int.toNat_natCast, am_cats, am_cat, am_st1, am_st2, am_clr, up2_na, up2_nj, up2_same, List.getElem?_cons_zero, List.getElem?_cons_succ, List.set_cons_zero, List.set_cons_succ, ne_eq, tk_152 hh, k134 hh, i10, g1, g2]
  · rw [if_neg (fun z => g1 z.1)]
    simp only [e181, s181_0, s181_1, s181_2, s181_3, s181_4, s181_5, s181_6, s181_7, s181_8, s181_9, s181_10, s181_11, s181_12, s181_13, s181_14, Option.toList_some, Option.toList_none, List.cons_append, List.nil_append, Nat.le_refl, true_and, and_true, true_or, or_true, false_or, or_false, true_implies, false_implies, implies_true, not_true_eq_false, not_false_eq_true, eq_self, Nat.reduceLT, Nat.reduceLeDiff, Nat.reduceEqDiff, Nat.reduceAdd, Nat.reduceSub, Int.reduceLT, Int.reduceLE, Int.reduceEq, Int.reduceNeg, Int.reduceNe, Int.reduceAdd, Int.reduceSub, Int.reduceMul, Int.reduceToNat, Int.toNat_zero, Int.toNat_one, Int.toNat_natCast, am_cats, am_cat, am_st1, am_st2, am_clr, up2_na, up2_nj, up2_same, List.getElem?_cons_zero, List.getElem?_cons_succ, List.set_cons_zero, List.set_cons_succ, ne_eq, tk_152 hh, k134 hh, i10, g1])
theorem x81 (hh : hp T R) {x y t : Nat} (x6 : x < 6) (y6 : y < 6) (t8 : t < 8) {a b r q : Int} (e1 : I (33 + x) t = a) (e2 : I (33 + y) t = b) (e3 : I (25 + x) t = r) (e4 : I (25 + y) t = q) (ha : 0 ≤ r ∧ r ≤ a) (hb : 0 ≤ q ∧ q ≤ b) (q1 : okO a b → Q (some (.inl 1)) (185, s, T, I, up2 (up2 J 94 0 ((loN a b r q / Nat.gcd (alN a b r q) (loN a b r q) : Nat) : Int)) 94 1 ((alN a b r q / Nat.gcd (alN a b r q) (loN a b r q) : Nat) : Int), R)) (q0 : ¬ okO a b → Q (some (.inl 0)) (185, s, T, I, J, R)) : wpc codeT mX (d + 2) 81 [.inr (.inr (some 0)), .inl (x : Int), .inl (y : Int), .inl (t : Int)] (185, s, T, I, J, R) Q := by
  have u1 : 0 ≤ (x : Int) ∧ (x : Int) < ((6 : Nat) : Int) := by omega
  have u2 : 0 ≤ (y : Int) ∧ (y : Int) < ((6 : Nat) : Int) := by omega
  have u3 : 0 ≤ (t : Int) ∧ (t : Int) < ((8 : Nat) : Int) := by omega
  have u4 : 25 + x < 185 ∧ 25 + y < 185 := by omega
  by_cases c1 : 1 ≤ a ∧ a ≤ 25
  · by_cases c2 : 1 ≤ b ∧ b ≤ 25
    · have ok : okO a b := by unfold okO; omega
      have fin := q1 ok
      simp only [s81_0, s81_1, s81_2, s81_3, s81_4, s81_5, s81_6, s81_7, s81_8, s81_9, s81_10, s81_11, s81_12, s81_13, s81_14, s81_15, s81_16, s81_17, s81_18, s81_19, s81_20, s81_21, s81_22, s81_23, s81_24, s81_25, s81_26, s81_27, s81_28, s81_29, s81_30, s81_31, s81_32, s81_33, s81_34, s81_35, s81_36, s81_37, s81_38, s81_39, s81_40, s81_41, s81_42, e81, Option.toList_some, Option.toList_none, List.cons_append, List.nil_append, Nat.le_refl, true_and, and_true, true_or, or_true, false_or, or_false, true_implies, false_implies, implies_true, not_true_eq_false, not_false_eq_true, eq_self, Nat.reduceLT, Nat.reduceLeDiff, Nat.reduceEqDiff, Nat.reduceAdd, Nat.reduceSub, Int.reduceLT, Int.reduceLE, Int.reduceEq, Int.reduceNeg, Int.reduceNe, Int.reduceAdd, Int.reduceSub, Int.reduceMul, Int.reduceToNat, Int.toNat_zero, Int.toNat_one, Int.toNat_natCast, am_cats, am_cat, am_st1, am_st2, am_clr, up2_na, up2_nj, up2_same, List.getElem?_cons_zero, List.getElem?_cons_succ, List.set_cons_zero, List.set_cons_succ, ne_eq, tk_0 hh, tk_17 hh, tk_24 hh, tk_94 hh, tg_25 hh x6, tg_25 hh y6, rk_0_7 hh, rk_0_14 hh, rk_17_1 hh, gk_24 hh x6, gk_24 hh y6, k77 hh x6 t8, k77 hh y6 t8, k18, i10, c1, c2, e1, e2, e3, e4, u1, u2, u3, u4]
      refine x82 (d := d) hh ha hb ok ⟨⟨Nat.le_refl _, Nat.le_refl _⟩, ?_⟩
      simp only [s81_43, s81_44, Option.toList_some, Option.toList_none, List.cons_append, List.nil_append, Nat.le_refl, true_and, and_true, true_or, or_true, false_or, or_false, true_implies, false_implies, implies_true, not_true_eq_false, not_false_eq_true, eq_self, Nat.reduceLT, Nat.reduceLeDiff, Nat.reduceEqDiff, Nat.reduceAdd, Nat.reduceSub, Int.reduceLT, Int.reduceLE, Int.reduceEq, Int.reduceNeg, Int.reduceNe, Int.reduceAdd, Int.reduceSub, Int.reduceMul, Int.reduceToNat, Int.toNat_zero, Int.toNat_one, Int.toNat_natCast, am_cats, am_cat, am_st1, am_st2, am_clr, up2_na, up2_nj, up2_same, List.getElem?_cons_zero, List.getElem?_cons_succ, List.set_cons_zero, List.set_cons_succ, ne_eq]
      exact fin
    · have fin := q0 (by unfold okO; omega)
      simp only [s81_0, s81_1, s81_2, s81_3, s81_4, s81_5, s81_6, s81_7, s81_8, s81_9, s81_10, s81_11, s81_12, s81_13, s81_14, s81_15, s81_16, s81_17, s81_18, s81_19, s81_20, s81_21, s81_22, s81_23, e81, Option.toList_some, Option.toList_none, List.cons_append, List.nil_append, Nat.le_refl, true_and, and_true, true_or, or_true, false_or, or_false, true_implies, false_implies, implies_true, not_true_eq_false, not_false_eq_true, eq_self, Nat.reduceLT, Nat.reduceLeDiff, Nat.reduceEqDiff, Nat.reduceAdd, Nat.reduceSub, Int.reduceLT, Int.reduceLE, Int.reduceEq, Int.reduceNeg, Int.reduceNe, Int.reduceAdd, Int.reduceSub, Int.reduceMul, Int.reduceToNat, Int.toNat_zero, Int.toNat_one, Int.toNat_natCast, am_cats, am_cat, am_st1, am_st2, am_clr, up2_na, up2_nj, up2_same, List.getElem?_cons_zero, List.getElem?_cons_succ, List.set_cons_zero, List.set_cons_succ, ne_eq, tk_0 hh, tk_17 hh, rk_0_7 hh, k77 hh x6 t8, k77 hh y6 t8, k18, i10, c1, c2, e1, e2]
      exact fin
  · have fin := q0 (by unfold okO; omega)
    simp only [s81_0, s81_1, s81_2, s81_3, s81_4, s81_5, s81_6, s81_7, s81_8, s81_9, s81_10, s81_11, s81_12, s81_13, s81_14, s81_15, s81_16, s81_17, s81_18, s81_19, s81_20, s81_21, s81_22, s81_23, e81, Option.toList_some, Option.toList_none, List.cons_append, List.nil_append, Nat.le_refl, true_and, and_true, true_or, or_true, false_or, or_false, true_implies, false_implies, implies_true, not_true_eq_false, not_false_eq_true, eq_self, Nat.reduceLT, Nat.reduceLeDiff, Nat.reduceEqDiff, Nat.reduceAdd, Nat.reduceSub, Int.reduceLT, Int.reduceLE, Int.reduceEq, Int.reduceNeg, Int.reduceNe, Int.reduceAdd, Int.reduceSub, Int.reduceMul, Int.reduceToNat, Int.toNat_zero, Int.toNat_one, Int.toNat_natCast, am_cats, am_cat, am_st1, am_st2, am_clr, up2_na, up2_nj, up2_same, List.getElem?_cons_zero, List.getElem?_cons_succ, List.set_cons_zero, List.set_cons_succ, ne_eq, tk_0 hh, tk_17 hh, rk_0_7 hh, k77 hh x6 t8, k77 hh y6 t8, k18, i10, c1, e1, e2]
    exact fin
theorem x182 (hh : hp T R) {N : Nat} (hI : ∀ j, j < N → 0 ≤ I 160 j ∧ I 160 j ≤ 1) (hN : I 152 4 = (N : Int)) (N2 : N ≤ 200) {x y t : Int} {a b r q : Int} (e1 : mny I x t N = a) (e2 : mny I y t N = b) (e3 : rgt I x t N = r) (e4 : rgt I y t N = q) (q1 : okO a b → Q (some (.inl 1)) (185, s, T, I, up2 (up2 J 152 38 (odA a b (r + q) (r.toNat + 1))) 152 39 (chP (a + b) (r + q)), R)) (q0 : ¬ okO a b → Q (some (.inl 0)) (185, s, T, I, J, R)) : wpc codeT mX (d + 1) 182 [.inr (.inr (some 152)), .inl x, .inl y, .inl t] (185, s, T, I, J, R) Q := by
  subst e1 e2 e3 e4
  have w := wpc_det (Q := Q) (w_weighs (s := s) (x := x) (y := y) (t := t) (J := J) (d := d) (mdl_hp hh) hI hN N2)
  by_cases z : mny I x t N = 0 ∨ mny I y t N = 0 ∨ 25 < mny I x t N ∨ 25 < mny I y t N
  · rw [if_pos z, if_pos z] at w
    exact w.mpr (q0 (fun q => q z))
  · rw [if_neg z, if_neg z] at w
    exact w.mpr (q1 z)
theorem lcg {a b : Int} : (0 < (if b < a then (1 : Int) else if a < b then -1 else 0)) = (b < a) := by
  refine propext ⟨fun h => ?_, fun h => ?_⟩
  · by_cases z : b < a
    · exact z
    · rw [if_neg z] at h
      split at h
      · exact absurd h (by decide)
      · exact absurd h (by decide)
  · rw [if_pos h]
    decide
theorem dv_lt {al lo G : Nat} {th : Int} (g0 : 0 < G) (h1 : G ∣ al) (h2 : G ∣ lo) : (((al / G : Nat) : Int) * th < ((lo / G : Nat) : Int) * 1000) = ((al : Int) * th < (lo : Int) * 1000) := by
  obtain ⟨p, rfl⟩ := h1
  obtain ⟨q, rfl⟩ := h2
  rw [Nat.mul_div_cancel_left _ g0, Nat.mul_div_cancel_left _ g0, Int.natCast_mul, Int.natCast_mul, Int.mul_assoc, Int.mul_assoc]
  have g1 : (0 : Int) < (G : Int) := by omega
  exact propext ⟨fun h => Int.mul_lt_mul_of_pos_left h g1, fun h => Int.lt_of_mul_lt_mul_left h (Int.le_of_lt g1)⟩
/-- worse than by luck, by so many thousandths -/
def iwF (a b r q th : Int) : Int := if okO a b ∧ ¬ (alN a b r q : Int) * th < (loN a b r q : Int) * 1000 then 1 else 0
theorem th_b {z : Nat} {th : Int} (hz : z ≤ 703121122340000) (ht : 1 ≤ th ∧ th ≤ 1000) : w64 ((z : Int) * th) = (z : Int) * th := by
  have m0 : 0 ≤ (z : Int) * th := Int.mul_nonneg (by omega) (by omega)
  have m1 : (z : Int) * th ≤ 703121122340000 * 1000 := Int.mul_le_mul (by omega) ht.2 (by omega) (by decide)
  exact w64_o (by omega) (by omega)
theorem x87 (hh : hp T R) {x y t : Nat} (x6 : x < 6) (y6 : y < 6) (t8 : t < 8) {a b r q th : Int} (ht : 1 ≤ th ∧ th ≤ 1000) (e1 : I (33 + x) t = a) (e2 : I (33 + y) t = b) (e3 : I (25 + x) t = r) (e4 : I (25 + y) t = q) (ha : 0 ≤ r ∧ r ≤ a) (hb : 0 ≤ q ∧ q ≤ b) (hQ : ∀ J1, Q (some (.inl (iwF a b r q th))) (185, s, T, I, J1, R)) : wpc codeT mX (d + 3) 87 [.inr (.inr (some 0)), .inl (x : Int), .inl (y : Int), .inl (t : Int), .inl th] (185, s, T, I, J, R) Q := by
  unfold iwF at hQ
  have c0 : wpc codeT mX (d + 2) 81 [.inr (.inr (some 0)), .inl (x : Int), .inl (y : Int), .inl (t : Int)] (185, s, T, I, J, R) (fun v h1 => (185 ≤ h1.1 ∧ s ≤ h1.2.1) ∧ wp codeT mX (d + 3) 87 5 [some (.inr (.inr (some 0))), some (.inl (x : Int)), some (.inl (y : Int)), some (.inl (t : Int)), some (.inl th)] (v.toList ++ []) h1 Q) := by
    refine x81 (d := d) hh x6 y6 t8 e1 e2 e3 e4 ha hb (fun ok => ⟨⟨Nat.le_refl _, Nat.le_refl _⟩, ?_⟩) (fun ok => ⟨⟨Nat.le_refl _, Nat.le_refl _⟩, ?_⟩)
    · obtain ⟨-, -, o3, o4, o5⟩ := od_b ha hb ok
      generalize loN a b r q = lo at *
      generalize alN a b r q = al at *
      have gp : 0 < Nat.gcd al lo := Nat.gcd_pos_of_pos_left _ (by omega)
      have dv := dv_lt (th := th) gp (Nat.gcd_dvd_left al lo) (Nat.gcd_dvd_right al lo)
      have t1 := th_b (z := al / Nat.gcd al lo) (Nat.le_trans (Nat.div_le_self _ _) (by omega)) ht
      have t2 := th_b (z := lo / Nat.gcd al lo) (Nat.le_trans (Nat.div_le_self _ _) (by omega)) (show (1 : Int) ≤ 1000 ∧ (1000 : Int) ≤ 1000 by decide)
      by_cases z : (al : Int) * th < (lo : Int) * 1000
      · have fin := fun J1 => hQ J1
        rw [if_neg (fun q => q.2 z)] at fin
        have l1 : 0 < (if ((al / Nat.gcd al lo : Nat) : Int) * th < ((lo / Nat.gcd al lo : Nat) : Int) * 1000 then (1 : Int) else if ((lo / Nat.gcd al lo : Nat) : Int) * 1000 < ((al / Nat.gcd al lo : Nat) : Int) * th then -1 else 0) := by rw [lcg, dv]; exact z
        simp only [s87_5, s87_6, s87_7, s87_8, s87_9, s87_10, s87_11, s87_12, s87_13, s87_14, s87_15, s87_16, s87_17, s87_18, s87_19, s87_20, s87_21, s87_22, Option.toList_some, Option.toList_none, List.cons_append, List.nil_append, Nat.le_refl, true_and, and_true, true_or, or_true, false_or, or_false, true_implies, false_implies, implies_true, not_true_eq_false, not_false_eq_true, eq_self, Nat.reduceLT, Nat.reduceLeDiff, Nat.reduceEqDiff, Nat.reduceAdd, Nat.reduceSub, Int.reduceLT, Int.reduceLE, Int.reduceEq, Int.reduceNeg, Int.reduceNe, Int.reduceAdd, Int.reduceSub, Int.reduceMul, Int.reduceToNat, Int.toNat_zero, Int.toNat_one, Int.toNat_natCast, am_cats, am_cat, am_st1, am_st2, am_clr, up2_na, up2_nj, up2_same, List.getElem?_cons_zero, List.getElem?_cons_succ, List.set_cons_zero, List.set_cons_succ, ne_eq, tk_0 hh, tk_94 hh, rk_0_14 hh, t1, t2, l1]
        exact fin _
      · have fin := fun J1 => hQ J1
        rw [if_pos ⟨ok, z⟩] at fin
        have l1 : ¬ 0 < (if ((al / Nat.gcd al lo : Nat) : Int) * th < ((lo / Nat.gcd al lo : Nat) : Int) * 1000 then (1 : Int) else if ((lo / Nat.gcd al lo : Nat) : Int) * 1000 < ((al / Nat.gcd al lo : Nat) : Int) * th then -1 else 0) := by rw [lcg, dv]; exact z
        simp only [s87_5, s87_6, s87_7, s87_8, s87_9, s87_10, s87_11, s87_12, s87_13, s87_14, s87_15, s87_16, s87_17, s87_18, s87_19, s87_20, s87_21, s87_22, Option.toList_some, Option.toList_none, List.cons_append, List.nil_append, Nat.le_refl, true_and, and_true, true_or, or_true, false_or, or_false, true_implies, false_implies, implies_true, not_true_eq_false, not_false_eq_true, eq_self, Nat.reduceLT, Nat.reduceLeDiff, Nat.reduceEqDiff, Nat.reduceAdd, Nat.reduceSub, Int.reduceLT, Int.reduceLE, Int.reduceEq, Int.reduceNeg, Int.reduceNe, Int.reduceAdd, Int.reduceSub, Int.reduceMul, Int.reduceToNat, Int.toNat_zero, Int.toNat_one, Int.toNat_natCast, am_cats, am_cat, am_st1, am_st2, am_clr, up2_na, up2_nj, up2_same, List.getElem?_cons_zero, List.getElem?_cons_succ, List.set_cons_zero, List.set_cons_succ, ne_eq, tk_0 hh, tk_94 hh, rk_0_14 hh, t1, t2, l1]
        exact fin _
    · have fin := hQ J
      rw [if_neg (fun q => ok q.1)] at fin
      simp only [s87_5, s87_21, s87_22, Option.toList_some, Option.toList_none, List.cons_append, List.nil_append, Nat.le_refl, true_and, and_true, true_or, or_true, false_or, or_false, true_implies, false_implies, implies_true, not_true_eq_false, not_false_eq_true, eq_self, Nat.reduceLT, Nat.reduceLeDiff, Nat.reduceEqDiff, Nat.reduceAdd, Nat.reduceSub, Int.reduceLT, Int.reduceLE, Int.reduceEq, Int.reduceNeg, Int.reduceNe, Int.reduceAdd, Int.reduceSub, Int.reduceMul, Int.reduceToNat, Int.toNat_zero, Int.toNat_one, Int.toNat_natCast, am_cats, am_cat, am_st1, am_st2, am_clr, up2_na, up2_nj, up2_same, List.getElem?_cons_zero, List.getElem?_cons_succ, List.set_cons_zero, List.set_cons_succ, ne_eq]
      exact fin
  simp only [s87_0, s87_1, s87_2, s87_3, s87_4, e87, Option.toList_some, Option.toList_none, List.cons_append, List.nil_append, Nat.le_refl, true_and, and_true, true_or, or_true, false_or, or_false, true_implies, false_implies, implies_true, not_true_eq_false, not_false_eq_true, eq_self, Nat.reduceLT, Nat.reduceLeDiff, Nat.reduceEqDiff, Nat.reduceAdd, Nat.reduceSub, Int.reduceLT, Int.reduceLE, Int.reduceEq, Int.reduceNeg, Int.reduceNe, Int.reduceAdd, Int.reduceSub, Int.reduceMul, Int.reduceToNat, Int.toNat_zero, Int.toNat_one, Int.toNat_natCast, am_cats, am_cat, am_st1, am_st2, am_clr, up2_na, up2_nj, up2_same, List.getElem?_cons_zero, List.getElem?_cons_succ, List.set_cons_zero, List.set_cons_succ, ne_eq, tk_0 hh]
  exact c0
theorem x186 (hh : hp T R) {N : Nat} (hI : ∀ j, j < N → 0 ≤ I 160 j ∧ I 160 j ≤ 1) (hN : I 152 4 = (N : Int)) (N2 : N ≤ 200) {x y t : Int} {a b r q th : Int} (ht : 1 ≤ th ∧ th ≤ 1000) (e1 : mny I x t N = a) (e2 : mny I y t N = b) (e3 : rgt I x t N = r) (e4 : rgt I y t N = q) (ha : 0 ≤ r ∧ r ≤ a) (hb : 0 ≤ q ∧ q ≤ b) (hQ : ∀ J1, Q (some (.inl (iwF a b r q th))) (185, s, T, I, J1, R)) : wpc codeT mX (d + 2) 186 [.inr (.inr (some 152)), .inl x, .inl y, .inl t, .inl th] (185, s, T, I, J, R) Q := by
  unfold iwF at hQ
  have c0 : wpc codeT mX (d + 1) 182 [.inr (.inr (some 152)), .inl x, .inl y, .inl t] (185, s, T, I, J, R) (fun v h1 => (185 ≤ h1.1 ∧ s ≤ h1.2.1) ∧ wp codeT mX (d + 2) 186 5 [some (.inr (.inr (some 152))), some (.inl x), some (.inl y), some (.inl t), some (.inl th)] (v.toList ++ []) h1 Q) := by
    refine x182 (d := d) hh hI hN N2 e1 e2 e3 e4 (fun ok => ⟨⟨Nat.le_refl _, Nat.le_refl _⟩, ?_⟩) (fun ok => ⟨⟨Nat.le_refl _, Nat.le_refl _⟩, ?_⟩)
    · obtain ⟨o1, o2, o3, o4, o5⟩ := od_b ha hb ok
      rw [o1, o2]
      generalize loN a b r q = lo at *
      generalize alN a b r q = al at *
      have t1 := th_b (z := al) (by omega) ht
      have t2 := th_b (z := lo) (by omega) (show (1 : Int) ≤ 1000 ∧ (1000 : Int) ≤ 1000 by decide)
      by_cases z : (al : Int) * th < (lo : Int) * 1000
      · have fin := fun J1 => hQ J1
        rw [if_neg (fun q => q.2 z)] at fin
        have l1 : 0 < (if (al : Int) * th < (lo : Int) * 1000 then (1 : Int) else if (lo : Int) * 1000 < (al : Int) * th then -1 else 0) := by rw [lcg]; exact z
        simp only [s186_5, s186_6, s186_7, s186_8, s186_9, s186_10, s186_11, s186_12, s186_13, s186_14, s186_15, s186_16, s186_17, s186_18, s186_19, s186_20, Option.toList_some, Option.toList_none, List.cons_append, List.nil_append, Nat.le_refl, true_and, and_true, true_or, or_true, false_or, or_false, true_implies, false_implies, implies_true, not_true_eq_false, not_false_eq_true, eq_self, Nat.reduceLT, Nat.reduceLeDiff, Nat.reduceEqDiff, Nat.reduceAdd, Nat.reduceSub, Int.reduceLT, Int.reduceLE, Int.reduceEq, Int.reduceNeg, Int.reduceNe, Int.reduceAdd, Int.reduceSub, Int.reduceMul, Int.reduceToNat, Int.toNat_zero, Int.toNat_one, Int.toNat_natCast, am_cats, am_cat, am_st1, am_st2, am_clr, up2_na, up2_nj, up2_same, List.getElem?_cons_zero, List.getElem?_cons_succ, List.set_cons_zero, List.set_cons_succ, ne_eq, tk_152 hh, t1, t2, l1]
        exact fin _
      · have fin := fun J1 => hQ J1
        rw [if_pos ⟨ok, z⟩] at fin
        have l1 : ¬ 0 < (if (al : Int) * th < (lo : Int) * 1000 then (1 : Int) else if (lo : Int) * 1000 < (al : Int) * th then -1 else 0) := by rw [lcg]; exact z
        simp only [s186_5, s186_6, s186_7, s186_8, s186_9, s186_10, s186_11, s186_12, s186_13, s186_14, s186_15, s186_16, s186_17, s186_18, s186_19, s186_20, Option.toList_some, Option.toList_none, List.cons_append, List.nil_append, Nat.le_refl, true_and, and_true, true_or, or_true, false_or, or_false, true_implies, false_implies, implies_true, not_true_eq_false, not_false_eq_true, eq_self, Nat.reduceLT, Nat.reduceLeDiff, Nat.reduceEqDiff, Nat.reduceAdd, Nat.reduceSub, Int.reduceLT, Int.reduceLE, Int.reduceEq, Int.reduceNeg, Int.reduceNe, Int.reduceAdd, Int.reduceSub, Int.reduceMul, Int.reduceToNat, Int.toNat_zero, Int.toNat_one, Int.toNat_natCast, am_cats, am_cat, am_st1, am_st2, am_clr, up2_na, up2_nj, up2_same, List.getElem?_cons_zero, List.getElem?_cons_succ, List.set_cons_zero, List.set_cons_succ, ne_eq, tk_152 hh, t1, t2, l1]
        exact fin _
    · have fin := hQ J
      rw [if_neg (fun q => ok q.1)] at fin
      simp only [s186_5, s186_19, s186_20, Option.toList_some, Option.toList_none, List.cons_append, List.nil_append, Nat.le_refl, true_and, and_true, true_or, or_true, false_or, or_false, true_implies, false_implies, implies_true, not_true_eq_false, not_false_eq_true, eq_self, Nat.reduceLT, Nat.reduceLeDiff, Nat.reduceEqDiff, Nat.reduceAdd, Nat.reduceSub, Int.reduceLT, Int.reduceLE, Int.reduceEq, Int.reduceNeg, Int.reduceNe, Int.reduceAdd, Int.reduceSub, Int.reduceMul, Int.reduceToNat, Int.toNat_zero, Int.toNat_one, Int.toNat_natCast, am_cats, am_cat, am_st1, am_st2, am_clr, up2_na, up2_nj, up2_same, List.getElem?_cons_zero, List.getElem?_cons_succ, List.set_cons_zero, List.set_cons_succ, ne_eq]
      exact fin
  simp only [s186_0, s186_1, s186_2, s186_3, s186_4, e186, Option.toList_some, Option.toList_none, List.cons_append, List.nil_append, Nat.le_refl, true_and, and_true, true_or, or_true, false_or, or_false, true_implies, false_implies, implies_true, not_true_eq_false, not_false_eq_true, eq_self, Nat.reduceLT, Nat.reduceLeDiff, Nat.reduceEqDiff, Nat.reduceAdd, Nat.reduceSub, Int.reduceLT, Int.reduceLE, Int.reduceEq, Int.reduceNeg, Int.reduceNe, Int.reduceAdd, Int.reduceSub, Int.reduceMul, Int.reduceToNat, Int.toNat_zero, Int.toNat_one, Int.toNat_natCast, am_cats, am_cat, am_st1, am_st2, am_clr, up2_na, up2_nj, up2_same, List.getElem?_cons_zero, List.getElem?_cons_succ, List.set_cons_zero, List.set_cons_succ, ne_eq, tk_152 hh]
  exact c0
theorem iw01 {a b r q th : Int} : iwF a b r q th = 0 ∨ iwF a b r q th = 1 := by
  unfold iwF
  split
  · exact Or.inr rfl
  · exact Or.inl rfl
/-- parted -/
def apF (u v : Int) : Int := if u = 0 then 0 else if v = 0 then 1 else 0
theorem x86 (hh : hp T R) {x y t t2 : Nat} (x6 : x < 6) (y6 : y < 6) (t8 : t < 8) (s8 : t2 < 8) {th : Int} (ht : 1 ≤ th ∧ th ≤ 1000) {M W : Nat → Nat → Int} (e1 : ∀ h t, h < 6 → t < 8 → I (33 + h) t = M h t) (e2 : ∀ h t, h < 6 → t < 8 → I (25 + h) t = W h t) (hb : ∀ h t, h < 6 → t < 8 → 0 ≤ W h t ∧ W h t ≤ M h t) (hQ : ∀ J1, Q (some (.inl (apF (iwF (M x t) (M y t) (W x t) (W y t) th) (iwF (M x t2) (M y t2) (W x t2) (W y t2) th)))) (185, s, T, I, J1, R)) : wpc codeT mX (d + 4) 86 [.inr (.inr (some 0)), .inl (x : Int), .inl (y : Int), .inl (t : Int), .inl (t2 : Int), .inl th] (185, s, T, I, J, R) Q := by
  unfold apF at hQ
  have c0 : wpc codeT mX (d + 3) 87 [.inr (.inr (some 0)), .inl (x : Int), .inl (y : Int), .inl (t : Int), .inl th] (185, s, T, I, J, R) (fun v h1 => (185 ≤ h1.1 ∧ s ≤ h1.2.1) ∧ wp codeT mX (d + 4) 86 6 [some (.inr (.inr (some 0))), some (.inl (x : Int)), some (.inl (y : Int)), some (.inl (t : Int)), some (.inl (t2 : Int)), some (.inl th)] (v.toList ++ []) h1 Q) := by
    refine x87 (d := d) hh x6 y6 t8 ht (e1 x t x6 t8) (e1 y t y6 t8) (e2 x t x6 t8) (e2 y t y6 t8) (hb x t x6 t8) (hb y t y6 t8) (fun J1 => ⟨⟨Nat.le_refl _, Nat.le_refl _⟩, ?_⟩)
    by_cases z : iwF (M x t) (M y t) (W x t) (W y t) th = 0
    · have fin := hQ J1
      rw [if_pos z] at fin
      simp only [s86_6, s86_16, s86_17, Option.toList_some, Option.toList_none, List.cons_append, List.nil_append, Nat.le_refl, true_and, and_true, true_or, or_true, false_or, or_false, true_implies, false_implies, implies_true, not_true_eq_false, not_false_eq_true, eq_self, Nat.reduceLT, Nat.reduceLeDiff, Nat.reduceEqDiff, Nat.reduceAdd, Nat.reduceSub, Int.reduceLT, Int.reduceLE, Int.reduceEq, Int.reduceNeg, Int.reduceNe, Int.reduceAdd, Int.reduceSub, Int.reduceMul, Int.reduceToNat, Int.toNat_zero, Int.toNat_one, Int.toNat_natCast, am_cats, am_cat, am_st1, am_st2, am_clr, up2_na, up2_nj, up2_same, List.getElem?_cons_zero, List.getElem?_cons_succ, List.set_cons_zero, List.set_cons_succ, ne_eq, z]
      exact fin
    · have c1 : wpc codeT mX (d + 3) 87 [.inr (.inr (some 0)), .inl (x : Int), .inl (y : Int), .inl (t2 : Int), .inl th] (185, s, T, I, J1, R) (fun v h1 => (185 ≤ h1.1 ∧ s ≤ h1.2.1) ∧ wp codeT mX (d + 4) 86 13 [some (.inr (.inr (some 0))), some (.inl (x : Int)), some (.inl (y : Int)), some (.inl (t : Int)), some (.inl (t2 : Int)), some (.inl th)] (v.toList ++ []) h1 Q) := by
        refine x87 (d := d) hh x6 y6 s8 ht (e1 x t2 x6 s8) (e1 y t2 y6 s8) (e2 x t2 x6 s8) (e2 y t2 y6 s8) (hb x t2 x6 s8) (hb y t2 y6 s8) (fun J2 => ⟨⟨Nat.le_refl _, Nat.le_refl _⟩, ?_⟩)
        have fin := hQ J2
        rw [if_neg z] at fin
        by_cases z2 : iwF (M x t2) (M y t2) (W x t2) (W y t2) th = 0
        · rw [if_pos z2] at fin
          simp only [s86_13, s86_14, s86_15, s86_16, s86_17, Option.toList_some, Option.toList_none, List.cons_append, List.nil_append, Nat.le_refl, true_and, and_true, true_or, or_true, false_or, or_false, true_implies, false_implies, implies_true, not_true_eq_false, not_false_eq_true, eq_self, Nat.reduceLT, Nat.reduceLeDiff, Nat.reduceEqDiff, Nat.reduceAdd, Nat.reduceSub, Int.reduceLT, Int.reduceLE, Int.reduceEq, Int.reduceNeg, Int.reduceNe, Int.reduceAdd, Int.reduceSub, Int.reduceMul, Int.reduceToNat, Int.toNat_zero, Int.toNat_one, Int.toNat_natCast, am_cats, am_cat, am_st1, am_st2, am_clr, up2_na, up2_nj, up2_same, List.getElem?_cons_zero, List.getElem?_cons_succ, List.set_cons_zero, List.set_cons_succ, ne_eq, z2]
          exact fin
        · rw [if_neg z2] at fin
          simp only [s86_13, s86_14, s86_15, s86_16, s86_17, Option.toList_some, Option.toList_none, List.cons_append, List.nil_append, Nat.le_refl, true_and, and_true, true_or, or_true, false_or, or_false, true_implies, false_implies, implies_true, not_true_eq_false, not_false_eq_true, eq_self, Nat.reduceLT, Nat.reduceLeDiff, Nat.reduceEqDiff, Nat.reduceAdd, Nat.reduceSub, Int.reduceLT, Int.reduceLE, Int.reduceEq, Int.reduceNeg, Int.reduceNe, Int.reduceAdd, Int.reduceSub, Int.reduceMul, Int.reduceToNat, Int.toNat_zero, Int.toNat_one, Int.toNat_natCast, am_cats, am_cat, am_st1, am_st2, am_clr, up2_na, up2_nj, up2_same, List.getElem?_cons_zero, List.getElem?_cons_succ, List.set_cons_zero, List.set_cons_succ, ne_eq, z2]
          exact fin
      simp only [s86_6, s86_7, s86_8, s86_9, s86_10, s86_11, s86_12, Option.toList_some, Option.toList_none, List.cons_append, List.nil_append, Nat.le_refl, true_and, and_true, true_or, or_true, false_or, or_false, true_implies, false_implies, implies_true, not_true_eq_false, not_false_eq_true, eq_self, Nat.reduceLT, Nat.reduceLeDiff, Nat.reduceEqDiff, Nat.reduceAdd, Nat.reduceSub, Int.reduceLT, Int.reduceLE, Int.reduceEq, Int.reduceNeg, Int.reduceNe, Int.reduceAdd, Int.reduceSub, Int.reduceMul, Int.reduceToNat, Int.toNat_zero, Int.toNat_one, Int.toNat_natCast, am_cats, am_cat, am_st1, am_st2, am_clr, up2_na, up2_nj, up2_same, List.getElem?_cons_zero, List.getElem?_cons_succ, List.set_cons_zero, List.set_cons_succ, ne_eq, tk_0 hh, z]
      exact c1
  simp only [s86_0, s86_1, s86_2, s86_3, s86_4, s86_5, e86, Option.toList_some, Option.toList_none, List.cons_append, List.nil_append, Nat.le_refl, true_and, and_true, true_or, or_true, false_or, or_false, true_implies, false_implies, implies_true, not_true_eq_false, not_false_eq_true, eq_self, Nat.reduceLT, Nat.reduceLeDiff, Nat.reduceEqDiff, Nat.reduceAdd, Nat.reduceSub, Int.reduceLT, Int.reduceLE, Int.reduceEq, Int.reduceNeg, Int.reduceNe, Int.reduceAdd, Int.reduceSub, Int.reduceMul, Int.reduceToNat, Int.toNat_zero, Int.toNat_one, Int.toNat_natCast, am_cats, am_cat, am_st1, am_st2, am_clr, up2_na, up2_nj, up2_same, List.getElem?_cons_zero, List.getElem?_cons_succ, List.set_cons_zero, List.set_cons_succ, ne_eq, tk_0 hh]
  exact c0
theorem x185 (hh : hp T R) {N : Nat} (hI : ∀ j, j < N → 0 ≤ I 160 j ∧ I 160 j ≤ 1) (hN : I 152 4 = (N : Int)) (N2 : N ≤ 200) {x y t t2 th : Int} (ht : 1 ≤ th ∧ th ≤ 1000) (hQ : ∀ J1, Q (some (.inl (apF (iwF (mny I x t N) (mny I y t N) (rgt I x t N) (rgt I y t N) th) (iwF (mny I x t2 N) (mny I y t2 N) (rgt I x t2 N) (rgt I y t2 N) th)))) (185, s, T, I, J1, R)) : wpc codeT mX (d + 3) 185 [.inr (.inr (some 152)), .inl x, .inl y, .inl t, .inl t2, .inl th] (185, s, T, I, J, R) Q := by
  unfold apF at hQ
  have rb : ∀ h t, 0 ≤ rgt I h t N ∧ rgt I h t N ≤ mny I h t N := fun h t => rgt_bd hI h t N (Nat.le_refl _)
  have c0 : wpc codeT mX (d + 2) 186 [.inr (.inr (some 152)), .inl x, .inl y, .inl t, .inl th] (185, s, T, I, J, R) (fun v h1 => (185 ≤ h1.1 ∧ s ≤ h1.2.1) ∧ wp codeT mX (d + 3) 185 6 [some (.inr (.inr (some 152))), some (.inl x), some (.inl y), some (.inl t), some (.inl t2), some (.inl th)] (v.toList ++ []) h1 Q) := by
    refine x186 (d := d) hh hI hN N2 ht rfl rfl rfl rfl (rb x t) (rb y t) (fun J1 => ⟨⟨Nat.le_refl _, Nat.le_refl _⟩, ?_⟩)
    by_cases z : iwF (mny I x t N) (mny I y t N) (rgt I x t N) (rgt I y t N) th = 0
    · have fin := hQ J1
      rw [if_pos z] at fin
      simp only [s185_6, s185_16, s185_17, Option.toList_some, Option.toList_none, List.cons_append, List.nil_append, Nat.le_refl, true_and, and_true, true_or, or_true, false_or, or_false, true_implies, false_implies, implies_true, not_true_eq_false, not_false_eq_true, eq_self, Nat.reduceLT, Nat.reduceLeDiff, Nat.reduceEqDiff, Nat.reduceAdd, Nat.reduceSub, Int.reduceLT, Int.reduceLE, Int.reduceEq, Int.reduceNeg, Int.reduceNe, Int.reduceAdd, Int.reduceSub, Int.reduceMul, Int.reduceToNat, Int.toNat_zero, Int.toNat_one, Int.toNat_natCast, am_cats, am_cat, am_st1, am_st2, am_clr, up2_na, up2_nj, up2_same, List.getElem?_cons_zero, List.getElem?_cons_succ, List.set_cons_zero, List.set_cons_succ, ne_eq, z]
      exact fin
    · have c1 : wpc codeT mX (d + 2) 186 [.inr (.inr (some 152)), .inl x, .inl y, .inl t2, .inl th] (185, s, T, I, J1, R) (fun v h1 => (185 ≤ h1.1 ∧ s ≤ h1.2.1) ∧ wp codeT mX (d + 3) 185 13 [some (.inr (.inr (some 152))), some (.inl x), some (.inl y), some (.inl t), some (.inl t2), some (.inl th)] (v.toList ++ []) h1 Q) := by
        refine x186 (d := d) hh hI hN N2 ht rfl rfl rfl rfl (rb x t2) (rb y t2) (fun J2 => ⟨⟨Nat.le_refl _, Nat.le_refl _⟩, ?_⟩)
        have fin := hQ J2
        rw [if_neg z] at fin
        by_cases z2 : iwF (mny I x t2 N) (mny I y t2 N) (rgt I x t2 N) (rgt I y t2 N) th = 0
        · rw [if_pos z2] at fin
          simp only [s185_13, s185_14, s185_15, s185_16, s185_17, Option.toList_some, Option.toList_none, List.cons_append, List.nil_append, Nat.le_refl, true_and, and_true, true_or, or_true, false_or, or_false, true_implies, false_implies, implies_true, not_true_eq_false, not_false_eq_true, eq_self, Nat.reduceLT, Nat.reduceLeDiff, Nat.reduceEqDiff, Nat.reduceAdd, Nat.reduceSub, Int.reduceLT, Int.reduceLE, Int.reduceEq, Int.reduceNeg, Int.reduceNe, Int.reduceAdd, Int.reduceSub, Int.reduceMul, Int.reduceToNat, Int.toNat_zero, Int.toNat_one, Int.toNat_natCast, am_cats, am_cat, am_st1, am_st2, am_clr, up2_na, up2_nj, up2_same, List.getElem?_cons_zero, List.getElem?_cons_succ, List.set_cons_zero, List.set_cons_succ, ne_eq, z2]
          exact fin
        · rw [if_neg z2] at fin
          simp only [s185_13, s185_14, s185_15, s185_16, s185_17, Option.toList_some, Option.toList_none, List.cons_append, List.nil_append, Nat.le_refl, true_and, and_true, true_or, or_true, false_or, or_false, true_implies, false_implies, implies_true, not_true_eq_false, not_false_eq_true, eq_self, Nat.reduceLT, Nat.reduceLeDiff, Nat.reduceEqDiff, Nat.reduceAdd, Nat.reduceSub, Int.reduceLT, Int.reduceLE, Int.reduceEq, Int.reduceNeg, Int.reduceNe, Int.reduceAdd, Int.reduceSub, Int.reduceMul, Int.reduceToNat, Int.toNat_zero, Int.toNat_one, Int.toNat_natCast, am_cats, am_cat, am_st1, am_st2, am_clr, up2_na, up2_nj, up2_same, List.getElem?_cons_zero, List.getElem?_cons_succ, List.set_cons_zero, List.set_cons_succ, ne_eq, z2]
          exact fin
      simp only [s185_6, s185_7, s185_8, s185_9, s185_10, s185_11, s185_12, Option.toList_some, Option.toList_none, List.cons_append, List.nil_append, Nat.le_refl, true_and, and_true, true_or, or_true, false_or, or_false, true_implies, false_implies, implies_true, not_true_eq_false, not_false_eq_true, eq_self, Nat.reduceLT, Nat.reduceLeDiff, Nat.reduceEqDiff, Nat.reduceAdd, Nat.reduceSub, Int.reduceLT, Int.reduceLE, Int.reduceEq, Int.reduceNeg, Int.reduceNe, Int.reduceAdd, Int.reduceSub, Int.reduceMul, Int.reduceToNat, Int.toNat_zero, Int.toNat_one, Int.toNat_natCast, am_cats, am_cat, am_st1, am_st2, am_clr, up2_na, up2_nj, up2_same, List.getElem?_cons_zero, List.getElem?_cons_succ, List.set_cons_zero, List.set_cons_succ, ne_eq, tk_152 hh, z]
      exact c1
  simp only [s185_0, s185_1, s185_2, s185_3, s185_4, s185_5, e185, Option.toList_some, Option.toList_none, List.cons_append, List.nil_append, Nat.le_refl, true_and, and_true, true_or, or_true, false_or, or_false, true_implies, false_implies, implies_true, not_true_eq_false, not_false_eq_true, eq_self, Nat.reduceLT, Nat.reduceLeDiff, Nat.reduceEqDiff, Nat.reduceAdd, Nat.reduceSub, Int.reduceLT, Int.reduceLE, Int.reduceEq, Int.reduceNeg, Int.reduceNe, Int.reduceAdd, Int.reduceSub, Int.reduceMul, Int.reduceToNat, Int.toNat_zero, Int.toNat_one, Int.toNat_natCast, am_cats, am_cat, am_st1, am_st2, am_clr, up2_na, up2_nj, up2_same, List.getElem?_cons_zero, List.getElem?_cons_succ, List.set_cons_zero, List.set_cons_succ, ne_eq, tk_152 hh]
  exact c0
end
section
variable {L s d : Nat} {X : Nat → Int}
set_option maxHeartbeats 1000000 in
theorem px_worse (hL : L ≤ 3072) (hX : ∀ j, rg32 (X j)) (hd : 40 ≤ d) : prx L X s LAL LKP d 79 180 4 true true := by
  refine px_ans (cx := cn89) (cm := cn179) (nx := 0) (nm := 6) hL hX (cn_all 89 (by decide) cn89 rfl) (cn_all 179 (by decide) cn179 rfl) rfl hd (by decide +kernel) (fun g h => h.1) (fun as s T I J R hl hr hH hP => ?_)
  obtain ⟨a, b, z, w, rfl⟩ := len4 hl
  obtain ⟨e, rfl⟩ : ∃ e, d = e + 3 := ⟨d - 3, by omega⟩
  have hh := hp_of (eH5_of hH)
  have b2 : 0 ≤ I 0 2 ∧ I 0 2 ≤ 6 := ebd hH (by decide) (by decide) (by decide)
  have b3 : 0 ≤ I 3 3 ∧ I 3 3 ≤ 8 := ebd hH (by decide) (by decide) (by decide)
  have b4 : 0 ≤ I 17 3 ∧ I 17 3 ≤ 200 := ebd hH (by decide) (by decide) (by decide)
  obtain ⟨N, hN0⟩ : ∃ n : Nat, I 17 3 = n := ⟨(I 17 3).toNat, by omega⟩
  have N2 : N ≤ 200 := by omega
  have hK : LK I := hP.1
  obtain ⟨-, -, l2, -, -, l5, l6, -⟩ := hK
  have l2 : I 0 2 = I 152 2 := l2
  have l5 : I 3 3 = I 152 3 := l5
  have l6 : I 17 3 = I 152 4 := l6
  have hN : I 152 4 = (N : Int) := l6.symm.trans hN0
  have hI : ∀ j, j < N → 0 ≤ I 160 j ∧ I 160 j ≤ 1 := fun j hj => ebd hH (by decide) (by show j < 200; omega) ((bI_hi (by decide)).trans (by decide))
  have hG : lkG I := hP.2.1.1.2.1
  have hPP : lkP I := hP.2.1.1.2.2
  show ∃ a' : Int, wpc codeT mX (e + 3) 79 [.inr (.inr (some 0)), .inl a, .inl b, .inl z, .inl w] (185, s, T, I, J, R) (fun v g1 => v = some (ansV true a') ∧ (eH g1 → eM cn89.2.2.2.1 (185, s, T, I, J, R) g1 → wpc codeT mX (e + 3) 180 [.inr (.inr (some 152)), .inl a, .inl b, .inl z, .inl w] g1 (fun v2 _ => v2 = some (ansV true a'))))
  by_cases g1 : (0 ≤ a ∧ a < I 0 2) ∧ (0 ≤ b ∧ b < I 0 2) ∧ a ≠ b
  · have g1' : (0 ≤ a ∧ a < I 152 2) ∧ (0 ≤ b ∧ b < I 152 2) ∧ a ≠ b := by rw [← l2]; exact g1
    by_cases g2 : 0 ≤ z ∧ z < I 3 3
    · have g2' : 0 ≤ z ∧ z < I 152 3 := by omega
      by_cases g3 : 0 ≤ w ∧ w ≤ 1
      · obtain ⟨x, rfl⟩ : ∃ k : Nat, a = (k : Int) := ⟨a.toNat, by omega⟩
        obtain ⟨y, rfl⟩ : ∃ k : Nat, b = (k : Int) := ⟨b.toNat, by omega⟩
        obtain ⟨t, rfl⟩ : ∃ k : Nat, z = (k : Int) := ⟨z.toNat, by omega⟩
        have x6 : x < 6 := by omega
        have y6 : y < 6 := by omega
        have t8 : t < 8 := by omega
        have rb : ∀ h : Nat, 0 ≤ rgt I h t N ∧ rgt I h t N ≤ mny I h t N := fun h => rgt_bd hI h t N (Nat.le_refl _)
        by_cases ok : okO (mny I x t N) (mny I y t N)
        · obtain ⟨o1, o2, o3, o4, o5⟩ := od_b (rb x) (rb y) ok
          have q1 : ∀ {Q : Option AV → AH → Prop}, Q (some (.inl 1)) (185, s, T, I, up2 (up2 J 94 0 ((loN (mny I x t N) (mny I y t N) (rgt I x t N) (rgt I y t N) / Nat.gcd (alN (mny I x t N) (mny I y t N) (rgt I x t N) (rgt I y t N)) (loN (mny I x t N) (mny I y t N) (rgt I x t N) (rgt I y t N)) : Nat) : Int)) 94 1 ((alN (mny I x t N) (mny I y t N) (rgt I x t N) (rgt I y t N) / Nat.gcd (alN (mny I x t N) (mny I y t N) (rgt I x t N) (rgt I y t N)) (loN (mny I x t N) (mny I y t N) (rgt I x t N) (rgt I y t N)) : Nat) : Int), R) → wpc codeT mX (e + 2) 81 [.inr (.inr (some 0)), .inl (x : Int), .inl (y : Int), .inl (t : Int)] (185, s, T, I, J, R) Q := fun hq => x81 (d := e) hh x6 y6 t8 (((hPP N hN0 x x6).2 t t8).1) (((hPP N hN0 y y6).2 t t8).1) (hG N hN0 x t x6 t8) (hG N hN0 y t y6 t8) (rb x) (rb y) (fun _ => hq) (fun q => absurd ok q)
          have q2 : ∀ {J1 : Nat → Nat → Int} {Q : Option AV → AH → Prop}, Q (some (.inl 1)) (185, s, T, I, up2 (up2 J1 152 38 (odA (mny I x t N) (mny I y t N) (rgt I x t N + rgt I y t N) ((rgt I x t N).toNat + 1))) 152 39 (chP (mny I x t N + mny I y t N) (rgt I x t N + rgt I y t N)), R) → wpc codeT mX (e + 2) 182 [.inr (.inr (some 152)), .inl (x : Int), .inl (y : Int), .inl (t : Int)] (185, s, T, I, J1, R) Q := fun hq => x182 (d := e + 1) hh hI hN N2 rfl rfl rfl rfl (fun _ => hq) (fun q => absurd ok q)
          rw [o1, o2] at q2
          generalize loN (mny I x t N) (mny I y t N) (rgt I x t N) (rgt I y t N) = lo at *
          generalize alN (mny I x t N) (mny I y t N) (rgt I x t N) (rgt I y t N) = al at *
          have gp : 0 < Nat.gcd al lo := Nat.gcd_pos_of_pos_left _ (by omega)
          have n0 : ¬ ((Nat.gcd al lo : Nat) : Int) = 0 := by omega
          have d1 : w64 (Int.tdiv (lo : Int) ((Nat.gcd al lo : Nat) : Int)) = ((lo / Nat.gcd al lo : Nat) : Int) := by
            have hb3 : lo / Nat.gcd al lo ≤ 703121122340000 := Nat.le_trans (Nat.div_le_self lo (Nat.gcd al lo)) o3
            show w64 ((lo / Nat.gcd al lo : Nat) : Int) = _
            generalize lo / Nat.gcd al lo = z at hb3 ⊢
            exact w64_o (by omega) (by omega)
          have d2 : w64 (Int.tdiv (al : Int) ((Nat.gcd al lo : Nat) : Int)) = ((al / Nat.gcd al lo : Nat) : Int) := by
            have hb3 : al / Nat.gcd al lo ≤ 126410606437752 := Nat.le_trans (Nat.div_le_self al (Nat.gcd al lo)) o5
            show w64 ((al / Nat.gcd al lo : Nat) : Int) = _
            generalize al / Nat.gcd al lo = z at hb3 ⊢
            exact w64_o (by clear d1; omega) (by clear d1; omega)
          have gm := fun J1 (Q : Option AV → AH → Prop) l l' h => gm_l (d := e + 3) (Q := Q) (h := (185, s, T, I, up2 (up2 J1 152 38 (lo : Int)) 152 39 (al : Int), R)) (x := (x : Int)) (y := (y : Int)) (t := (t : Int)) (w := w) al lo al l l' (Nat.le_refl _) (by clear d1 d2; omega) (by clear d1 d2; omega) h
          rw [Nat.gcd_comm lo al] at gm
          by_cases w0 : w = 0
          · subst w0
            refine ⟨((lo / Nat.gcd al lo : Nat) : Int), ?_⟩
            simp only [s79_0, s79_1, s79_2, s79_3, s79_4, s79_5, s79_6, s79_7, s79_8, s79_9, s79_10, s79_11, s79_12, s79_13, s79_14, s79_15, s79_16, s79_17, s79_18, s79_19, s79_20, e79, Option.toList_some, Option.toList_none, List.cons_append, List.nil_append, Nat.le_refl, true_and, and_true, true_or, or_true, false_or, or_false, true_implies, false_implies, implies_true, not_true_eq_false, not_false_eq_true, eq_self, Nat.reduceLT, Nat.reduceLeDiff, Nat.reduceEqDiff, Nat.reduceAdd, Nat.reduceSub, Int.reduceLT, Int.reduceLE, Int.reduceEq, Int.reduceNeg, Int.reduceNe, Int.reduceAdd, Int.reduceSub, Int.reduceMul, Int.reduceToNat, Int.toNat_zero, Int.toNat_one, Int.toNat_natCast, am_cats, am_cat, am_st1, am_st2, am_clr, up2_na, up2_nj, up2_same, List.getElem?_cons_zero, List.getElem?_cons_succ, List.set_cons_zero, List.set_cons_succ, ne_eq, tk_0 hh, k80 hh, k51 hh, k18, i10, g1, g2]
            refine q1 ⟨⟨Nat.le_refl _, Nat.le_refl _⟩, ?_⟩
            simp only [s79_21, s79_22, s79_23, s79_24, s79_25, s79_26, s79_27, s79_28, s79_29, s79_30, s79_31, s79_32, s79_33, Option.toList_some, Option.toList_none, List.cons_append, List.nil_append, Nat.le_refl, true_and, and_true, true_or, or_true, false_or, or_false, true_implies, false_implies, implies_true, not_true_eq_false, not_false_eq_true, eq_self, Nat.reduceLT, Nat.reduceLeDiff, Nat.reduceEqDiff, Nat.reduceAdd, Nat.reduceSub, Int.reduceLT, Int.reduceLE, Int.reduceEq, Int.reduceNeg, Int.reduceNe, Int.reduceAdd, Int.reduceSub, Int.reduceMul, Int.reduceToNat, Int.toNat_zero, Int.toNat_one, Int.toNat_natCast, am_cats, am_cat, am_st1, am_st2, am_clr, up2_na, up2_nj, up2_same, List.getElem?_cons_zero, List.getElem?_cons_succ, List.set_cons_zero, List.set_cons_succ, ne_eq, tk_0 hh, tk_94 hh, rk_0_14 hh]
            refine ⟨rfl, fun _ _ => ?_⟩
            simp only [s180_0, s180_1, s180_2, s180_3, s180_4, s180_5, s180_6, s180_7, s180_8, s180_9, s180_10, s180_11, s180_12, s180_13, s180_14, s180_15, s180_16, s180_17, s180_18, s180_19, s180_20, e180, Option.toList_some, Option.toList_none, List.cons_append, List.nil_append, Nat.le_refl, true_and, and_true, true_or, or_true, false_or, or_false, true_implies, false_implies, implies_true, not_true_eq_false, not_false_eq_true, eq_self, Nat.reduceLT, Nat.reduceLeDiff, Nat.reduceEqDiff, Nat.reduceAdd, Nat.reduceSub, Int.reduceLT, Int.reduceLE, Int.reduceEq, Int.reduceNeg, Int.reduceNe, Int.reduceAdd, Int.reduceSub, Int.reduceMul, Int.reduceToNat, Int.toNat_zero, Int.toNat_one, Int.toNat_natCast, am_cats, am_cat, am_st1, am_st2, am_clr, up2_na, up2_nj, up2_same, List.getElem?_cons_zero, List.getElem?_cons_succ, List.set_cons_zero, List.set_cons_succ, ne_eq, tk_152 hh, k181 hh, k164 hh, k136, i10, g1', g2']
            refine q2 ⟨⟨Nat.le_refl _, Nat.le_refl _⟩, ?_⟩
            simp only [s180_21, s180_22, s180_23, s180_24, s180_25, s180_26, s180_27, s180_28, s180_29, Option.toList_some, Option.toList_none, List.cons_append, List.nil_append, Nat.le_refl, true_and, and_true, true_or, or_true, false_or, or_false, true_implies, false_implies, implies_true, not_true_eq_false, not_false_eq_true, eq_self, Nat.reduceLT, Nat.reduceLeDiff, Nat.reduceEqDiff, Nat.reduceAdd, Nat.reduceSub, Int.reduceLT, Int.reduceLE, Int.reduceEq, Int.reduceNeg, Int.reduceNe, Int.reduceAdd, Int.reduceSub, Int.reduceMul, Int.reduceToNat, Int.toNat_zero, Int.toNat_one, Int.toNat_natCast, am_cats, am_cat, am_st1, am_st2, am_clr, up2_na, up2_nj, up2_same, List.getElem?_cons_zero, List.getElem?_cons_succ, List.set_cons_zero, List.set_cons_succ, ne_eq, tk_152 hh]
            refine gm _ _ _ _ (fun l l' => ?_)
            refine s180_43.mpr ?_
            simp only [s180_44, s180_45, s180_46, s180_47, s180_48, s180_49, s180_50, s180_51, s180_52, s180_53, s180_54, Option.toList_some, Option.toList_none, List.cons_append, List.nil_append, Nat.le_refl, true_and, and_true, true_or, or_true, false_or, or_false, true_implies, false_implies, implies_true, not_true_eq_false, not_false_eq_true, eq_self, Nat.reduceLT, Nat.reduceLeDiff, Nat.reduceEqDiff, Nat.reduceAdd, Nat.reduceSub, Int.reduceLT, Int.reduceLE, Int.reduceEq, Int.reduceNeg, Int.reduceNe, Int.reduceAdd, Int.reduceSub, Int.reduceMul, Int.reduceToNat, Int.toNat_zero, Int.toNat_one, Int.toNat_natCast, am_cats, am_cat, am_st1, am_st2, am_clr, up2_na, up2_nj, up2_same, List.getElem?_cons_zero, List.getElem?_cons_succ, List.set_cons_zero, List.set_cons_succ, ne_eq, tk_152 hh, n0, d1]
            rfl
          · refine ⟨((al / Nat.gcd al lo : Nat) : Int), ?_⟩
            simp only [s79_0, s79_1, s79_2, s79_3, s79_4, s79_5, s79_6, s79_7, s79_8, s79_9, s79_10, s79_11, s79_12, s79_13, s79_14, s79_15, s79_16, s79_17, s79_18, s79_19, s79_20, e79, Option.toList_some, Option.toList_none, List.cons_append, List.nil_append, Nat.le_refl, true_and, and_true, true_or, or_true, false_or, or_false, true_implies, false_implies, implies_true, not_true_eq_false, not_false_eq_true, eq_self, Nat.reduceLT, Nat.reduceLeDiff, Nat.reduceEqDiff, Nat.reduceAdd, Nat.reduceSub, Int.reduceLT, Int.reduceLE, Int.reduceEq, Int.reduceNeg, Int.reduceNe, Int.reduceAdd, Int.reduceSub, Int.reduceMul, Int.reduceToNat, Int.toNat_zero, Int.toNat_one, Int.toNat_natCast, am_cats, am_cat, am_st1, am_st2, am_clr, up2_na, up2_nj, up2_same, List.getElem?_cons_zero, List.getElem?_cons_succ, List.set_cons_zero, List.set_cons_succ, ne_eq, tk_0 hh, k80 hh, k51 hh, k18, i10, g1, g2, g3]
            refine q1 ⟨⟨Nat.le_refl _, Nat.le_refl _⟩, ?_⟩
            simp only [s79_21, s79_22, s79_23, s79_24, s79_25, s79_26, s79_27, s79_28, s79_29, s79_30, s79_31, s79_32, s79_33, Option.toList_some, Option.toList_none, List.cons_append, List.nil_append, Nat.le_refl, true_and, and_true, true_or, or_true, false_or, or_false, true_implies, false_implies, implies_true, not_true_eq_false, not_false_eq_true, eq_self, Nat.reduceLT, Nat.reduceLeDiff, Nat.reduceEqDiff, Nat.reduceAdd, Nat.reduceSub, Int.reduceLT, Int.reduceLE, Int.reduceEq, Int.reduceNeg, Int.reduceNe, Int.reduceAdd, Int.reduceSub, Int.reduceMul, Int.reduceToNat, Int.toNat_zero, Int.toNat_one, Int.toNat_natCast, am_cats, am_cat, am_st1, am_st2, am_clr, up2_na, up2_nj, up2_same, List.getElem?_cons_zero, List.getElem?_cons_succ, List.set_cons_zero, List.set_cons_succ, ne_eq, tk_0 hh, tk_94 hh, rk_0_14 hh, w0]
            refine ⟨rfl, fun _ _ => ?_⟩
            simp only [s180_0, s180_1, s180_2, s180_3, s180_4, s180_5, s180_6, s180_7, s180_8, s180_9, s180_10, s180_11, s180_12, s180_13, s180_14, s180_15, s180_16, s180_17, s180_18, s180_19, s180_20, e180, Option.toList_some, Option.toList_none, List.cons_append, List.nil_append, Nat.le_refl, true_and, and_true, true_or, or_true, false_or, or_false, true_implies, false_implies, implies_true, not_true_eq_false, not_false_eq_true, eq_self, Nat.reduceLT, Nat.reduceLeDiff, Nat.reduceEqDiff, Nat.reduceAdd, Nat.reduceSub, Int.reduceLT, Int.reduceLE, Int.reduceEq, Int.reduceNeg, Int.reduceNe, Int.reduceAdd, Int.reduceSub, Int.reduceMul, Int.reduceToNat, Int.toNat_zero, Int.toNat_one, Int.toNat_natCast, am_cats, am_cat, am_st1, am_st2, am_clr, up2_na, up2_nj, up2_same, List.getElem?_cons_zero, List.getElem?_cons_succ, List.set_cons_zero, List.set_cons_succ, ne_eq, tk_152 hh, k181 hh, k164 hh, k136, i10, g1', g2', g3]
            refine q2 ⟨⟨Nat.le_refl _, Nat.le_refl _⟩, ?_⟩
            simp only [s180_21, s180_22, s180_23, s180_24, s180_25, s180_26, s180_27, s180_28, s180_29, Option.toList_some, Option.toList_none, List.cons_append, List.nil_append, Nat.le_refl, true_and, and_true, true_or, or_true, false_or, or_false, true_implies, false_implies, implies_true, not_true_eq_false, not_false_eq_true, eq_self, Nat.reduceLT, Nat.reduceLeDiff, Nat.reduceEqDiff, Nat.reduceAdd, Nat.reduceSub, Int.reduceLT, Int.reduceLE, Int.reduceEq, Int.reduceNeg, Int.reduceNe, Int.reduceAdd, Int.reduceSub, Int.reduceMul, Int.reduceToNat, Int.toNat_zero, Int.toNat_one, Int.toNat_natCast, am_cats, am_cat, am_st1, am_st2, am_clr, up2_na, up2_nj, up2_same, List.getElem?_cons_zero, List.getElem?_cons_succ, List.set_cons_zero, List.set_cons_succ, ne_eq, tk_152 hh]
            refine gm _ _ _ _ (fun l l' => ?_)
            refine s180_43.mpr ?_
            simp only [s180_44, s180_45, s180_46, s180_47, s180_48, s180_49, s180_50, s180_51, s180_52, s180_53, s180_54, Option.toList_some, Option.toList_none, List.cons_append, List.nil_append, Nat.le_refl, true_and, and_true, true_or, or_true, false_or, or_false, true_implies, false_implies, implies_true, not_true_eq_false, not_false_eq_true, eq_self, Nat.reduceLT, Nat.reduceLeDiff, Nat.reduceEqDiff, Nat.reduceAdd, Nat.reduceSub, Int.reduceLT, Int.reduceLE, Int.reduceEq, Int.reduceNeg, Int.reduceNe, Int.reduceAdd, Int.reduceSub, Int.reduceMul, Int.reduceToNat, Int.toNat_zero, Int.toNat_one, Int.toNat_natCast, am_cats, am_cat, am_st1, am_st2, am_clr, up2_na, up2_nj, up2_same, List.getElem?_cons_zero, List.getElem?_cons_succ, List.set_cons_zero, List.set_cons_succ, ne_eq, tk_152 hh, n0, d2, w0]
            rfl
        · refine ⟨-2, ?_⟩
          have q1 : ∀ {Q : Option AV → AH → Prop}, Q (some (.inl 0)) (185, s, T, I, J, R) → wpc codeT mX (e + 2) 81 [.inr (.inr (some 0)), .inl (x : Int), .inl (y : Int), .inl (t : Int)] (185, s, T, I, J, R) Q := fun hq => x81 (d := e) hh x6 y6 t8 (((hPP N hN0 x x6).2 t t8).1) (((hPP N hN0 y y6).2 t t8).1) (hG N hN0 x t x6 t8) (hG N hN0 y t y6 t8) (rb x) (rb y) (fun q => absurd q ok) (fun _ => hq)
          have q2 : ∀ {J1 : Nat → Nat → Int} {Q : Option AV → AH → Prop}, Q (some (.inl 0)) (185, s, T, I, J1, R) → wpc codeT mX (e + 2) 182 [.inr (.inr (some 152)), .inl (x : Int), .inl (y : Int), .inl (t : Int)] (185, s, T, I, J1, R) Q := fun hq => x182 (d := e + 1) hh hI hN N2 rfl rfl rfl rfl (fun q => absurd q ok) (fun _ => hq)
          simp only [s79_0, s79_1, s79_2, s79_3, s79_4, s79_5, s79_6, s79_7, s79_8, s79_9, s79_10, s79_11, s79_12, s79_13, s79_14, s79_15, s79_16, s79_17, s79_18, s79_19, s79_20, e79, Option.toList_some, Option.toList_none, List.cons_append, List.nil_append, Nat.le_refl, true_and, and_true, true_or, or_true, false_or, or_false, true_implies, false_implies, implies_true, not_true_eq_false, not_false_eq_true, eq_self, Nat.reduceLT, Nat.reduceLeDiff, Nat.reduceEqDiff, Nat.reduceAdd, Nat.reduceSub, Int.reduceLT, Int.reduceLE, Int.reduceEq, Int.reduceNeg, Int.reduceNe, Int.reduceAdd, Int.reduceSub, Int.reduceMul, Int.reduceToNat, Int.toNat_zero, Int.toNat_one, Int.toNat_natCast, am_cats, am_cat, am_st1, am_st2, am_clr, up2_na, up2_nj, up2_same, List.getElem?_cons_zero, List.getElem?_cons_succ, List.set_cons_zero, List.set_cons_succ, ne_eq, tk_0 hh, k80 hh, k51 hh, k18, i10, g1, g2, g3]
          refine q1 ⟨⟨Nat.le_refl _, Nat.le_refl _⟩, ?_⟩
          simp only [s79_21, s79_22, s79_23, Option.toList_some, Option.toList_none, List.cons_append, List.nil_append, Nat.le_refl, true_and, and_true, true_or, or_true, false_or, or_false, true_implies, false_implies, implies_true, not_true_eq_false, not_false_eq_true, eq_self, Nat.reduceLT, Nat.reduceLeDiff, Nat.reduceEqDiff, Nat.reduceAdd, Nat.reduceSub, Int.reduceLT, Int.reduceLE, Int.reduceEq, Int.reduceNeg, Int.reduceNe, Int.reduceAdd, Int.reduceSub, Int.reduceMul, Int.reduceToNat, Int.toNat_zero, Int.toNat_one, Int.toNat_natCast, am_cats, am_cat, am_st1, am_st2, am_clr, up2_na, up2_nj, up2_same, List.getElem?_cons_zero, List.getElem?_cons_succ, List.set_cons_zero, List.set_cons_succ, ne_eq]
          refine ⟨rfl, fun _ _ => ?_⟩
          simp only [s180_0, s180_1, s180_2, s180_3, s180_4, s180_5, s180_6, s180_7, s180_8, s180_9, s180_10, s180_11, s180_12, s180_13, s180_14, s180_15, s180_16, s180_17, s180_18, s180_19, s180_20, e180, Option.toList_some, Option.toList_none, List.cons_append, List.nil_append, Nat.le_refl, true_and, and_true, true_or, or_true, false_or, or_false, true_implies, false_implies, implies_true, not_true_eq_false, not_false_eq_true, eq_self, Nat.reduceLT, Nat.reduceLeDiff, Nat.reduceEqDiff, Nat.reduceAdd, Nat.reduceSub, Int.reduceLT, Int.reduceLE, Int.reduceEq, Int.reduceNeg, Int.reduceNe, Int.reduceAdd, Int.reduceSub, Int.reduceMul, Int.reduceToNat, Int.toNat_zero, Int.toNat_one, Int.toNat_natCast, am_cats, am_cat, am_st1, am_st2, am_clr, up2_na, up2_nj, up2_same, List.getElem?_cons_zero, List.getElem?_cons_succ, List.set_cons_zero, List.set_cons_succ, ne_eq, tk_152 hh, k181 hh, k164 hh, k136, i10, g1', g2', g3]
          refine q2 ⟨⟨Nat.le_refl _, Nat.le_refl _⟩, ?_⟩
          simp only [s180_21, s180_22, s180_23, Option.toList_some, Option.toList_none, List.cons_append, List.nil_append, Nat.le_refl, true_and, and_true, true_or, or_true, false_or, or_false, true_implies, false_implies, implies_true, not_true_eq_false, not_false_eq_true, eq_self, Nat.reduceLT, Nat.reduceLeDiff, Nat.reduceEqDiff, Nat.reduceAdd, Nat.reduceSub, Int.reduceLT, Int.reduceLE, Int.reduceEq, Int.reduceNeg, Int.reduceNe, Int.reduceAdd, Int.reduceSub, Int.reduceMul, Int.reduceToNat, Int.toNat_zero, Int.toNat_one, Int.toNat_natCast, am_cats, am_cat, am_st1, am_st2, am_clr, up2_na, up2_nj, up2_same, List.getElem?_cons_zero, List.getElem?_cons_succ, List.set_cons_zero, List.set_cons_succ, ne_eq]
          rfl
      · refine ⟨-1, ?_⟩
        simp only [s79_0, s79_1, s79_2, s79_3, s79_4, s79_5, s79_6, s79_7, s79_8, s79_9, s79_10, s79_11, s79_12, s79_13, s79_14, s79_15, e79, Option.toList_some, Option.toList_none, List.cons_append, List.nil_append, Nat.le_refl, true_and, and_true, true_or, or_true, false_or, or_false, true_implies, false_implies, implies_true, not_true_eq_false, not_false_eq_true, eq_self, Nat.reduceLT, Nat.reduceLeDiff, Nat.reduceEqDiff, Nat.reduceAdd, Nat.reduceSub, Int.reduceLT, Int.reduceLE, Int.reduceEq, Int.reduceNeg, Int.reduceNe, Int.reduceAdd, Int.reduceSub, Int.reduceMul, Int.reduceToNat, Int.toNat_zero, Int.toNat_one, Int.toNat_natCast, am_cats, am_cat, am_st1, am_st2, am_clr, up2_na, up2_nj, up2_same, List.getElem?_cons_zero, List.getElem?_cons_succ, List.set_cons_zero, List.set_cons_succ, ne_eq, tk_0 hh, k80 hh, k51 hh, k18, i10, g1, g2, g3]
        refine ⟨rfl, fun _ _ => ?_⟩
        simp only [s180_0, s180_1, s180_2, s180_3, s180_4, s180_5, s180_6, s180_7, s180_8, s180_9, s180_10, s180_11, s180_12, s180_13, s180_14, s180_15, e180, Option.toList_some, Option.toList_none, List.cons_append, List.nil_append, Nat.le_refl, true_and, and_true, true_or, or_true, false_or, or_false, true_implies, false_implies, implies_true, not_true_eq_false, not_false_eq_true, eq_self, Nat.reduceLT, Nat.reduceLeDiff, Nat.reduceEqDiff, Nat.reduceAdd, Nat.reduceSub, Int.reduceLT, Int.reduceLE, Int.reduceEq, Int.reduceNeg, Int.reduceNe, Int.reduceAdd, Int.reduceSub, Int.reduceMul, Int.reduceToNat, Int.toNat_zero, Int.toNat_one, Int.toNat_natCast, am_cats, am_cat, am_st1, am_st2, am_clr, up2_na, up2_nj, up2_same, List.getElem?_cons_zero, List.getElem?_cons_succ, List.set_cons_zero, List.set_cons_succ, ne_eq, tk_152 hh, k181 hh, k164 hh, k136, i10, g1', g2', g3]
        rfl
    · have g2' : ¬ (0 ≤ z ∧ z < I 152 3) := by omega
      refine ⟨-1, ?_⟩
      simp only [s79_0, s79_1, s79_2, s79_3, s79_4, s79_5, s79_6, s79_7, s79_8, s79_9, s79_10, s79_11, s79_12, s79_13, s79_14, s79_15, e79, Option.toList_some, Option.toList_none, List.cons_append, List.nil_append, Nat.le_refl, true_and, and_true, true_or, or_true, false_or, or_false, true_implies, false_implies, implies_true, not_true_eq_false, not_false_eq_true, eq_self, Nat.reduceLT, Nat.reduceLeDiff, Nat.reduceEqDiff, Nat.reduceAdd, Nat.reduceSub, Int.reduceLT, Int.reduceLE, Int.reduceEq, Int.reduceNeg, Int.reduceNe, Int.reduceAdd, Int.reduceSub, Int.reduceMul, Int.reduceToNat, Int.toNat_zero, Int.toNat_one, Int.toNat_natCast, am_cats, am_cat, am_st1, am_st2, am_clr, up2_na, up2_nj, up2_same, List.getElem?_cons_zero, List.getElem?_cons_succ, List.set_cons_zero, List.set_cons_succ, ne_eq, tk_0 hh, k80 hh, k51 hh, i10, g1, g2]
      refine ⟨rfl, fun _ _ => ?_⟩
      simp only [s180_0, s180_1, s180_2, s180_3, s180_4, s180_5, s180_6, s180_7, s180_8, s180_9, s180_10, s180_11, s180_12, s180_13, s180_14, s180_15, e180, Option.toList_some, Option.toList_none, List.cons_append, List.nil_append, Nat.le_refl, true_and, and_true, true_or, or_true, false_or, or_false, true_implies, false_implies, implies_true, not_true_eq_false, not_false_eq_true, eq_self, Nat.reduceLT, Nat.reduceLeDiff, Nat.reduceEqDiff, Nat.reduceAdd, Nat.reduceSub, Int.reduceLT, Int.reduceLE, Int.reduceEq, Int.reduceNeg, Int.reduceNe, Int.reduceAdd, Int.reduceSub, Int.reduceMul, Int.reduceToNat, Int.toNat_zero, Int.toNat_one, Int.toNat_natCast, am_cats, am_cat, am_st1, am_st2, am_clr, up2_na, up2_nj, up2_same, List.getElem?_cons_zero, List.getElem?_cons_succ, List.set_cons_zero, List.set_cons_succ, ne_eq, tk_152 hh, k181 hh, k164 hh, i10, g1', g2']
      rfl
  · have g1' : ¬ ((0 ≤ a ∧ a < I 152 2) ∧ (0 ≤ b ∧ b < I 152 2) ∧ a ≠ b) := by rw [← l2]; exact g1
    refine ⟨-1, ?_⟩
    simp only [s79_0, s79_1, s79_2, s79_3, s79_4, s79_5, s79_6, s79_7, s79_8, s79_9, s79_10, s79_11, s79_12, s79_13, s79_14, s79_15, e79, tk_0 hh, k80 hh, i10, if_neg g1, Option.toList_some, Option.toList_none, List.cons_append, List.nil_append, Nat.le_refl, true_and, and_true, true_or, or_true, false_or, or_false, true_implies, false_implies, implies_true, not_true_eq_false, not_false_eq_true, eq_self, Nat.reduceLT, Nat.reduceLeDiff, Nat.reduceEqDiff, Nat.reduceAdd, Nat.reduceSub, Int.reduceLT, Int.reduceLE, Int.reduceEq, Int.reduceNeg, Int.reduceNe, Int.reduceAdd, Int.reduceSub, Int.reduceMul, Int.reduceToNat, Int.toNat_zero, Int.toNat_one, Int.toNat_natCast, am_cats, am_cat, am_st1, am_st2, am_clr, up2_na, up2_nj, up2_same, List.getElem?_cons_zero, List.getElem?_cons_succ, List.set_cons_zero, List.set_cons_succ, ne_eq]
    refine ⟨rfl, fun _ _ => ?_⟩
    simp only [s180_0, s180_1, s180_2, s180_3, s180_4, s180_5, s180_6, s180_7, s180_8, s180_9, s180_10, s180_11, s180_12, s180_13, s180_14, s180_15, e180, tk_152 hh, k181 hh, i10, if_neg g1', Option.toList_some, Option.toList_none, List.cons_append, List.nil_append, Nat.le_refl, true_and, and_true, true_or, or_true, false_or, or_false, true_implies, false_implies, implies_true, not_true_eq_false, not_false_eq_true, eq_self, Nat.reduceLT, Nat.reduceLeDiff, Nat.reduceEqDiff, Nat.reduceAdd, Nat.reduceSub, Int.reduceLT, Int.reduceLE, Int.reduceEq, Int.reduceNeg, Int.reduceNe, Int.reduceAdd, Int.reduceSub, Int.reduceMul, Int.reduceToNat, Int.toNat_zero, Int.toNat_one, Int.toNat_natCast, am_cats, am_cat, am_st1, am_st2, am_clr, up2_na, up2_nj, up2_same, List.getElem?_cons_zero, List.getElem?_cons_succ, List.set_cons_zero, List.set_cons_succ, ne_eq]
    rfl
set_option maxHeartbeats 1000000 in
theorem px_parted (hL : L ≤ 3072) (hX : ∀ j, rg32 (X j)) (hd : 40 ≤ d) : prx L X s LAL LKP d 85 184 5 false true := by
  refine px_ans (cx := cn91) (cm := cn154) (nx := 0) (nm := 0) hL hX (cn_all 91 (by decide) cn91 rfl) (cn_all 154 (by decide) cn154 rfl) rfl hd (by decide +kernel) (fun g h => h.1) (fun as s T I J R hl hr hH hP => ?_)
  obtain ⟨a, b, z, w, th, rfl⟩ := len5 hl
  obtain ⟨e, rfl⟩ : ∃ e, d = e + 5 := ⟨d - 5, by omega⟩
  have hh := hp_of (eH5_of hH)
  have b2 : 0 ≤ I 0 2 ∧ I 0 2 ≤ 6 := ebd hH (by decide) (by decide) (by decide)
  have b3 : 0 ≤ I 3 3 ∧ I 3 3 ≤ 8 := ebd hH (by decide) (by decide) (by decide)
  have b4 : 0 ≤ I 17 3 ∧ I 17 3 ≤ 200 := ebd hH (by decide) (by decide) (by decide)
  obtain ⟨N, hN0⟩ : ∃ n : Nat, I 17 3 = n := ⟨(I 17 3).toNat, by omega⟩
  have N2 : N ≤ 200 := by omega
  have hK : LK I := hP.1
  obtain ⟨-, -, l2, -, -, l5, l6, -⟩ := hK
  have l2 : I 0 2 = I 152 2 := l2
  have l5 : I 3 3 = I 152 3 := l5
  have l6 : I 17 3 = I 152 4 := l6
  have hN : I 152 4 = (N : Int) := l6.symm.trans hN0
  have hI : ∀ j, j < N → 0 ≤ I 160 j ∧ I 160 j ≤ 1 := fun j hj => ebd hH (by decide) (by show j < 200; omega) ((bI_hi (by decide)).trans (by decide))
  have hG : lkG I := hP.2.1.1.2.1
  have hPP : lkP I := hP.2.1.1.2.2
  show ∃ a' : Int, wpc codeT mX (e + 5) 85 [.inr (.inr (some 0)), .inl a, .inl b, .inl z, .inl w, .inl th] (185, s, T, I, J, R) (fun v g1 => v = some (ansV false a') ∧ (eH g1 → eM cn91.2.2.2.1 (185, s, T, I, J, R) g1 → wpc codeT mX (e + 5) 184 [.inr (.inr (some 152)), .inl a, .inl b, .inl z, .inl w, .inl th] g1 (fun v2 _ => v2 = some (ansV false a'))))
  by_cases g1 : (0 ≤ a ∧ a < I 0 2) ∧ (0 ≤ b ∧ b < I 0 2) ∧ a ≠ b
  · have g1' : (0 ≤ a ∧ a < I 152 2) ∧ (0 ≤ b ∧ b < I 152 2) ∧ a ≠ b := by rw [← l2]; exact g1
    by_cases g2 : 0 ≤ z ∧ z < I 3 3
    · have g2' : 0 ≤ z ∧ z < I 152 3 := by omega
      by_cases g3 : 0 ≤ w ∧ w < I 3 3
      · have g3' : 0 ≤ w ∧ w < I 152 3 := by omega
        by_cases g4 : z = w
        · refine ⟨-1, ?_⟩
          simp only [s85_0, s85_1, s85_2, s85_3, s85_4, s85_5, s85_6, s85_7, s85_8, s85_9, s85_10, s85_11, s85_12, s85_13, s85_14, s85_15, s85_16, s85_17, e85, Option.toList_some, Option.toList_none, List.cons_append, List.nil_append, Nat.le_refl, true_and, and_true, true_or, or_true, false_or, or_false, true_implies, false_implies, implies_true, not_true_eq_false, not_false_eq_true, eq_self, Nat.reduceLT, Nat.reduceLeDiff, Nat.reduceEqDiff, Nat.reduceAdd, Nat.reduceSub, Int.reduceLT, Int.reduceLE, Int.reduceEq, Int.reduceNeg, Int.reduceNe, Int.reduceAdd, Int.reduceSub, Int.reduceMul, Int.reduceToNat, Int.toNat_zero, Int.toNat_one, Int.toNat_natCast, am_cats, am_cat, am_st1, am_st2, am_clr, up2_na, up2_nj, up2_same, List.getElem?_cons_zero, List.getElem?_cons_succ, List.set_cons_zero, List.set_cons_succ, ne_eq, tk_0 hh, k80 hh, k51 hh, i10, g1, g2, g3, g4]
          refine ⟨rfl, fun _ _ => ?_⟩
          simp only [s184_0, s184_1, s184_2, s184_3, s184_4, s184_5, s184_6, s184_7, s184_8, s184_9, s184_10, s184_11, s184_12, s184_13, s184_14, s184_15, s184_16, s184_17, s184_18, s184_19, s184_20, s184_21, s184_22, e184, Option.toList_some, Option.toList_none, List.cons_append, List.nil_append, Nat.le_refl, true_and, and_true, true_or, or_true, false_or, or_false, true_implies, false_implies, implies_true, not_true_eq_false, not_false_eq_true, eq_self, Nat.reduceLT, Nat.reduceLeDiff, Nat.reduceEqDiff, Nat.reduceAdd, Nat.reduceSub, Int.reduceLT, Int.reduceLE, Int.reduceEq, Int.reduceNeg, Int.reduceNe, Int.reduceAdd, Int.reduceSub, Int.reduceMul, Int.reduceToNat, Int.toNat_zero, Int.toNat_one, Int.toNat_natCast, am_cats, am_cat, am_st1, am_st2, am_clr, up2_na, up2_nj, up2_same, List.getElem?_cons_zero, List.getElem?_cons_succ, List.set_cons_zero, List.set_cons_succ, ne_eq, tk_152 hh, k181 hh, k164 hh, k136, i10, g1', g2', g3', g4]
          rfl
        · by_cases g5 : 1 ≤ th ∧ th ≤ 1000
          · obtain ⟨x, rfl⟩ : ∃ k : Nat, a = (k : Int) := ⟨a.toNat, by omega⟩
            obtain ⟨y, rfl⟩ : ∃ k : Nat, b = (k : Int) := ⟨b.toNat, by omega⟩
            obtain ⟨t, rfl⟩ : ∃ k : Nat, z = (k : Int) := ⟨z.toNat, by omega⟩
            obtain ⟨t2, rfl⟩ : ∃ k : Nat, w = (k : Int) := ⟨w.toNat, by omega⟩
            have x6 : x < 6 := by omega
            have y6 : y < 6 := by omega
            have t8 : t < 8 := by omega
            have s8 : t2 < 8 := by omega
            have cM : ∀ h t : Nat, h < 6 → t < 8 → I (33 + h) t = mny I h t N := fun h t h6 t8 => ((hPP N hN0 h h6).2 t t8).1
            have cW : ∀ h t : Nat, h < 6 → t < 8 → I (25 + h) t = rgt I h t N := fun h t h6 t8 => hG N hN0 h t h6 t8
            have cB : ∀ h t : Nat, h < 6 → t < 8 → 0 ≤ rgt I h t N ∧ rgt I h t N ≤ mny I h t N := fun h t _ _ => rgt_bd hI h t N (Nat.le_refl _)
            obtain ⟨IW, hIW⟩ : ∃ IW : Nat → Nat → Nat → Int, IW = fun (x y t : Nat) => iwF (mny I x t N) (mny I y t N) (rgt I x t N) (rgt I y t N) th := ⟨_, rfl⟩
            have qx : ∀ (x y t t2 : Nat) (J1 : Nat → Nat → Int) (Q : Option AV → AH → Prop), x < 6 → y < 6 → t < 8 → t2 < 8 → (∀ J2, Q (some (.inl (apF (IW x y t) (IW x y t2)))) (185, s, T, I, J2, R)) → wpc codeT mX (e + 4) 86 [.inr (.inr (some 0)), .inl (x : Int), .inl (y : Int), .inl (t : Int), .inl (t2 : Int), .inl th] (185, s, T, I, J1, R) Q := by
              intro x y t t2 J1 Q x6 y6 t8 s8 hq
              rw [hIW] at hq
              exact x86 (d := e) (M := fun h t => mny I h t N) (W := fun h t => rgt I h t N) hh x6 y6 t8 s8 g5 cM cW cB hq
            have qm : ∀ (x y t t2 : Nat) (J1 : Nat → Nat → Int) (Q : Option AV → AH → Prop), (∀ J2, Q (some (.inl (apF (IW x y t) (IW x y t2)))) (185, s, T, I, J2, R)) → wpc codeT mX (e + 4) 185 [.inr (.inr (some 152)), .inl (x : Int), .inl (y : Int), .inl (t : Int), .inl (t2 : Int), .inl th] (185, s, T, I, J1, R) Q := by
              intro x y t t2 J1 Q hq
              rw [hIW] at hq
              exact x185 (d := e + 1) hh hI hN N2 g5 hq
            by_cases p1 : apF (IW x y t) (IW x y t2) = 0
            · refine ⟨0, ?_⟩
              simp only [s85_0, s85_1, s85_2, s85_3, s85_4, s85_5, s85_6, s85_7, s85_8, s85_9, s85_10, s85_11, s85_12, s85_13, s85_14, s85_15, s85_16, s85_17, s85_18, s85_19, s85_20, s85_21, s85_22, s85_23, s85_24, s85_25, s85_26, s85_27, s85_28, s85_29, s85_30, s85_31, e85, Option.toList_some, Option.toList_none, List.cons_append, List.nil_append, Nat.le_refl, true_and, and_true, true_or, or_true, false_or, or_false, true_implies, false_implies, implies_true, not_true_eq_false, not_false_eq_true, eq_self, Nat.reduceLT, Nat.reduceLeDiff, Nat.reduceEqDiff, Nat.reduceAdd, Nat.reduceSub, Int.reduceLT, Int.reduceLE, Int.reduceEq, Int.reduceNeg, Int.reduceNe, Int.reduceAdd, Int.reduceSub, Int.reduceMul, Int.reduceToNat, Int.toNat_zero, Int.toNat_one, Int.toNat_natCast, am_cats, am_cat, am_st1, am_st2, am_clr, up2_na, up2_nj, up2_same, List.getElem?_cons_zero, List.getElem?_cons_succ, List.set_cons_zero, List.set_cons_succ, ne_eq, tk_0 hh, k80 hh, k51 hh, k18, i10, g1, g2, g3, g4, g5]
              refine qx x y t t2 _ _ x6 y6 t8 s8 (fun J1 => ⟨⟨Nat.le_refl _, Nat.le_refl _⟩, ?_⟩)
              rw [p1]
              simp only [s85_32, s85_33, s85_34, Option.toList_some, Option.toList_none, List.cons_append, List.nil_append, Nat.le_refl, true_and, and_true, true_or, or_true, false_or, or_false, true_implies, false_implies, implies_true, not_true_eq_false, not_false_eq_true, eq_self, Nat.reduceLT, Nat.reduceLeDiff, Nat.reduceEqDiff, Nat.reduceAdd, Nat.reduceSub, Int.reduceLT, Int.reduceLE, Int.reduceEq, Int.reduceNeg, Int.reduceNe, Int.reduceAdd, Int.reduceSub, Int.reduceMul, Int.reduceToNat, Int.toNat_zero, Int.toNat_one, Int.toNat_natCast, am_cats, am_cat, am_st1, am_st2, am_clr, up2_na, up2_nj, up2_same, List.getElem?_cons_zero, List.getElem?_cons_succ, List.set_cons_zero, List.set_cons_succ, ne_eq]
              refine ⟨rfl, fun _ _ => ?_⟩
              simp only [s184_0, s184_1, s184_2, s184_3, s184_4, s184_5, s184_6, s184_7, s184_8, s184_9, s184_10, s184_11, s184_12, s184_13, s184_14, s184_15, s184_16, s184_17, s184_18, s184_19, s184_20, s184_21, s184_22, s184_23, s184_24, s184_25, s184_26, s184_27, s184_28, s184_29, e184, Option.toList_some, Option.toList_none, List.cons_append, List.nil_append, Nat.le_refl, true_and, and_true, true_or, or_true, false_or, or_false, true_implies, false_implies, implies_true, not_true_eq_false, not_false_eq_true, eq_self, Nat.reduceLT, Nat.reduceLeDiff, Nat.reduceEqDiff, Nat.reduceAdd, Nat.reduceSub, Int.reduceLT, Int.reduceLE, Int.reduceEq, Int.reduceNeg, Int.reduceNe, Int.reduceAdd, Int.reduceSub, Int.reduceMul, Int.reduceToNat, Int.toNat_zero, Int.toNat_one, Int.toNat_natCast, am_cats, am_cat, am_st1, am_st2, am_clr, up2_na, up2_nj, up2_same, List.getElem?_cons_zero, List.getElem?_cons_succ, List.set_cons_zero, List.set_cons_succ, ne_eq, tk_152 hh, k181 hh, k164 hh, k136, i10, g1', g2', g3', g4, g5]
              refine qm x y t t2 _ _ (fun J2 => ⟨⟨Nat.le_refl _, Nat.le_refl _⟩, ?_⟩)
              rw [p1]
              simp only [s184_30, s184_31, s184_32, Option.toList_some, Option.toList_none, List.cons_append, List.nil_append, Nat.le_refl, true_and, and_true, true_or, or_true, false_or, or_false, true_implies, false_implies, implies_true, not_true_eq_false, not_false_eq_true, eq_self, Nat.reduceLT, Nat.reduceLeDiff, Nat.reduceEqDiff, Nat.reduceAdd, Nat.reduceSub, Int.reduceLT, Int.reduceLE, Int.reduceEq, Int.reduceNeg, Int.reduceNe, Int.reduceAdd, Int.reduceSub, Int.reduceMul, Int.reduceToNat, Int.toNat_zero, Int.toNat_one, Int.toNat_natCast, am_cats, am_cat, am_st1, am_st2, am_clr, up2_na, up2_nj, up2_same, List.getElem?_cons_zero, List.getElem?_cons_succ, List.set_cons_zero, List.set_cons_succ, ne_eq]
              rfl
            · by_cases p2 : apF (IW y x t2) (IW y x t) = 0
              · refine ⟨1, ?_⟩
                simp only [s85_0, s85_1, s85_2, s85_3, s85_4, s85_5, s85_6, s85_7, s85_8, s85_9, s85_10, s85_11, s85_12, s85_13, s85_14, s85_15, s85_16, s85_17, s85_18, s85_19, s85_20, s85_21, s85_22, s85_23, s85_24, s85_25, s85_26, s85_27, s85_28, s85_29, s85_30, s85_31, e85, Option.toList_some, Option.toList_none, List.cons_append, List.nil_append, Nat.le_refl, true_and, and_true, true_or, or_true, false_or, or_false, true_implies, false_implies, implies_true, not_true_eq_false, not_false_eq_true, eq_self, Nat.reduceLT, Nat.reduceLeDiff, Nat.reduceEqDiff, Nat.reduceAdd, Nat.reduceSub, Int.reduceLT, Int.reduceLE, Int.reduceEq, Int.reduceNeg, Int.reduceNe, Int.reduceAdd, Int.reduceSub, Int.reduceMul, Int.reduceToNat, Int.toNat_zero, Int.toNat_one, Int.toNat_natCast, am_cats, am_cat, am_st1, am_st2, am_clr, up2_na, up2_nj, up2_same, List.getElem?_cons_zero, List.getElem?_cons_succ, List.set_cons_zero, List.set_cons_succ, ne_eq, tk_0 hh, k80 hh, k51 hh, k18, i10, g1, g2, g3, g4, g5]
                refine qx x y t t2 _ _ x6 y6 t8 s8 (fun J1 => ⟨⟨Nat.le_refl _, Nat.le_refl _⟩, ?_⟩)
                simp only [s85_32, s85_35, s85_36, s85_37, s85_38, s85_39, s85_40, s85_41, Option.toList_some, Option.toList_none, List.cons_append, List.nil_append, Nat.le_refl, true_and, and_true, true_or, or_true, false_or, or_false, true_implies, false_implies, implies_true, not_true_eq_false, not_false_eq_true, eq_self, Nat.reduceLT, Nat.reduceLeDiff, Nat.reduceEqDiff, Nat.reduceAdd, Nat.reduceSub, Int.reduceLT, Int.reduceLE, Int.reduceEq, Int.reduceNeg, Int.reduceNe, Int.reduceAdd, Int.reduceSub, Int.reduceMul, Int.reduceToNat, Int.toNat_zero, Int.toNat_one, Int.toNat_natCast, am_cats, am_cat, am_st1, am_st2, am_clr, up2_na, up2_nj, up2_same, List.getElem?_cons_zero, List.getElem?_cons_succ, List.set_cons_zero, List.set_cons_succ, ne_eq, tk_0 hh, p1]
                refine qx y x t2 t _ _ y6 x6 s8 t8 (fun J1 => ⟨⟨Nat.le_refl _, Nat.le_refl _⟩, ?_⟩)
                rw [p2]
                simp only [s85_42, s85_43, s85_44, s85_45, s85_46, Option.toList_some, Option.toList_none, List.cons_append, List.nil_append, Nat.le_refl, true_and, and_true, true_or, or_true, false_or, or_false, true_implies, false_implies, implies_true, not_true_eq_false, not_false_eq_true, eq_self, Nat.reduceLT, Nat.reduceLeDiff, Nat.reduceEqDiff, Nat.reduceAdd, Nat.reduceSub, Int.reduceLT, Int.reduceLE, Int.reduceEq, Int.reduceNeg, Int.reduceNe, Int.reduceAdd, Int.reduceSub, Int.reduceMul, Int.reduceToNat, Int.toNat_zero, Int.toNat_one, Int.toNat_natCast, am_cats, am_cat, am_st1, am_st2, am_clr, up2_na, up2_nj, up2_same, List.getElem?_cons_zero, List.getElem?_cons_succ, List.set_cons_zero, List.set_cons_succ, ne_eq]
                refine ⟨rfl, fun _ _ => ?_⟩
                simp only [s184_0, s184_1, s184_2, s184_3, s184_4, s184_5, s184_6, s184_7, s184_8, s184_9, s184_10, s184_11, s184_12, s184_13, s184_14, s184_15, s184_16, s184_17, s184_18, s184_19, s184_20, s184_21, s184_22, s184_23, s184_24, s184_25, s184_26, s184_27, s184_28, s184_29, e184, Option.toList_some, Option.toList_none, List.cons_append, List.nil_append, Nat.le_refl, true_and, and_true, true_or, or_true, false_or, or_false, true_implies, false_implies, implies_true, not_true_eq_false, not_false_eq_true, eq_self, Nat.reduceLT, Nat.reduceLeDiff, Nat.reduceEqDiff, Nat.reduceAdd, Nat.reduceSub, Int.reduceLT, Int.reduceLE, Int.reduceEq, Int.reduceNeg, Int.reduceNe, Int.reduceAdd, Int.reduceSub, Int.reduceMul, Int.reduceToNat, Int.toNat_zero, Int.toNat_one, Int.toNat_natCast, am_cats, am_cat, am_st1, am_st2, am_clr, up2_na, up2_nj, up2_same, List.getElem?_cons_zero, List.getElem?_cons_succ, List.set_cons_zero, List.set_cons_succ, ne_eq, tk_152 hh, k181 hh, k164 hh, k136, i10, g1', g2', g3', g4, g5]
                refine qm x y t t2 _ _ (fun J2 => ⟨⟨Nat.le_refl _, Nat.le_refl _⟩, ?_⟩)
                simp only [s184_30, s184_33, s184_34, s184_35, s184_36, s184_37, s184_38, s184_39, Option.toList_some, Option.toList_none, List.cons_append, List.nil_append, Nat.le_refl, true_and, and_true, true_or, or_true, false_or, or_false, true_implies, false_implies, implies_true, not_true_eq_false, not_false_eq_true, eq_self, Nat.reduceLT, Nat.reduceLeDiff, Nat.reduceEqDiff, Nat.reduceAdd, Nat.reduceSub, Int.reduceLT, Int.reduceLE, Int.reduceEq, Int.reduceNeg, Int.reduceNe, Int.reduceAdd, Int.reduceSub, Int.reduceMul, Int.reduceToNat, Int.toNat_zero, Int.toNat_one, Int.toNat_natCast, am_cats, am_cat, am_st1, am_st2, am_clr, up2_na, up2_nj, up2_same, List.getElem?_cons_zero, List.getElem?_cons_succ, List.set_cons_zero, List.set_cons_succ, ne_eq, tk_152 hh, p1]
                refine qm y x t2 t _ _ (fun J2 => ⟨⟨Nat.le_refl _, Nat.le_refl _⟩, ?_⟩)
                rw [p2]
                simp only [s184_40, s184_41, s184_42, s184_43, s184_44, Option.toList_some, Option.toList_none, List.cons_append, List.nil_append, Nat.le_refl, true_and, and_true, true_or, or_true, false_or, or_false, true_implies, false_implies, implies_true, not_true_eq_false, not_false_eq_true, eq_self, Nat.reduceLT, Nat.reduceLeDiff, Nat.reduceEqDiff, Nat.reduceAdd, Nat.reduceSub, Int.reduceLT, Int.reduceLE, Int.reduceEq, Int.reduceNeg, Int.reduceNe, Int.reduceAdd, Int.reduceSub, Int.reduceMul, Int.reduceToNat, Int.toNat_zero, Int.toNat_one, Int.toNat_natCast, am_cats, am_cat, am_st1, am_st2, am_clr, up2_na, up2_nj, up2_same, List.getElem?_cons_zero, List.getElem?_cons_succ, List.set_cons_zero, List.set_cons_succ, ne_eq]
                rfl
              · refine ⟨2, ?_⟩
                simp only [s85_0, s85_1, s85_2, s85_3, s85_4, s85_5, s85_6, s85_7, s85_8, s85_9, s85_10, s85_11, s85_12, s85_13, s85_14, s85_15, s85_16, s85_17, s85_18, s85_19, s85_20, s85_21, s85_22, s85_23, s85_24, s85_25, s85_26, s85_27, s85_28, s85_29, s85_30, s85_31, e85, Option.toList_some, Option.toList_none, List.cons_append, List.nil_append, Nat.le_refl, true_and, and_true, true_or, or_true, false_or, or_false, true_implies, false_implies, implies_true, not_true_eq_false, not_false_eq_true, eq_self, Nat.reduceLT, Nat.reduceLeDiff, Nat.reduceEqDiff, Nat.reduceAdd, Nat.reduceSub, Int.reduceLT, Int.reduceLE, Int.reduceEq, Int.reduceNeg, Int.reduceNe, Int.reduceAdd, Int.reduceSub, Int.reduceMul, Int.reduceToNat, Int.toNat_zero, Int.toNat_one, Int.toNat_natCast, am_cats, am_cat, am_st1, am_st2, am_clr, up2_na, up2_nj, up2_same, List.getElem?_cons_zero, List.getElem?_cons_succ, List.set_cons_zero, List.set_cons_succ, ne_eq, tk_0 hh, k80 hh, k51 hh, k18, i10, g1, g2, g3, g4, g5]
                refine qx x y t t2 _ _ x6 y6 t8 s8 (fun J1 => ⟨⟨Nat.le_refl _, Nat.le_refl _⟩, ?_⟩)
                simp only [s85_32, s85_35, s85_36, s85_37, s85_38, s85_39, s85_40, s85_41, Option.toList_some, Option.toList_none, List.cons_append, List.nil_append, Nat.le_refl, true_and, and_true, true_or, or_true, false_or, or_false, true_implies, false_implies, implies_true, not_true_eq_false, not_false_eq_true, eq_self, Nat.reduceLT, Nat.reduceLeDiff, Nat.reduceEqDiff, Nat.reduceAdd, Nat.reduceSub, Int.reduceLT, Int.reduceLE, Int.reduceEq, Int.reduceNeg, Int.reduceNe, Int.reduceAdd, Int.reduceSub, Int.reduceMul, Int.reduceToNat, Int.toNat_zero, Int.toNat_one, Int.toNat_natCast, am_cats, am_cat, am_st1, am_st2, am_clr, up2_na, up2_nj, up2_same, List.getElem?_cons_zero, List.getElem?_cons_succ, List.set_cons_zero, List.set_cons_succ, ne_eq, tk_0 hh, p1]
                refine qx y x t2 t _ _ y6 x6 s8 t8 (fun J1 => ⟨⟨Nat.le_refl _, Nat.le_refl _⟩, ?_⟩)
                simp only [s85_42, s85_43, s85_44, s85_45, s85_46, Option.toList_some, Option.toList_none, List.cons_append, List.nil_append, Nat.le_refl, true_and, and_true, true_or, or_true, false_or, or_false, true_implies, false_implies, implies_true, not_true_eq_false, not_false_eq_true, eq_self, Nat.reduceLT, Nat.reduceLeDiff, Nat.reduceEqDiff, Nat.reduceAdd, Nat.reduceSub, Int.reduceLT, Int.reduceLE, Int.reduceEq, Int.reduceNeg, Int.reduceNe, Int.reduceAdd, Int.reduceSub, Int.reduceMul, Int.reduceToNat, Int.toNat_zero, Int.toNat_one, Int.toNat_natCast, am_cats, am_cat, am_st1, am_st2, am_clr, up2_na, up2_nj, up2_same, List.getElem?_cons_zero, List.getElem?_cons_succ, List.set_cons_zero, List.set_cons_succ, ne_eq, p2]
                refine ⟨rfl, fun _ _ => ?_⟩
                simp only [s184_0, s184_1, s184_2, s184_3, s184_4, s184_5, s184_6, s184_7, s184_8, s184_9, s184_10, s184_11, s184_12, s184_13, s184_14, s184_15, s184_16, s184_17, s184_18, s184_19, s184_20, s184_21, s184_22, s184_23, s184_24, s184_25, s184_26, s184_27, s184_28, s184_29, e184, Option.toList_some, Option.toList_none, List.cons_append, List.nil_append, Nat.le_refl, true_and, and_true, true_or, or_true, false_or, or_false, true_implies, false_implies, implies_true, not_true_eq_false, not_false_eq_true, eq_self, Nat.reduceLT, Nat.reduceLeDiff, Nat.reduceEqDiff, Nat.reduceAdd, Nat.reduceSub, Int.reduceLT, Int.reduceLE, Int.reduceEq, Int.reduceNeg, Int.reduceNe, Int.reduceAdd, Int.reduceSub, Int.reduceMul, Int.reduceToNat, Int.toNat_zero, Int.toNat_one, Int.toNat_natCast, am_cats, am_cat, am_st1, am_st2, am_clr, up2_na, up2_nj, up2_same, List.getElem?_cons_zero, List.getElem?_cons_succ, List.set_cons_zero, List.set_cons_succ, ne_eq, tk_152 hh, k181 hh, k164 hh, k136, i10, g1', g2', g3', g4, g5]
                refine qm x y t t2 _ _ (fun J2 => ⟨⟨Nat.le_refl _, Nat.le_refl _⟩, ?_⟩)
                simp only [s184_30, s184_33, s184_34, s184_35, s184_36, s184_37, s184_38, s184_39, Option.toList_some, Option.toList_none, List.cons_append, List.nil_append, Nat.le_refl, true_and, and_true, true_or, or_true, false_or, or_false, true_implies, false_implies, implies_true, not_true_eq_false, not_false_eq_true, eq_self, Nat.reduceLT, Nat.reduceLeDiff, Nat.reduceEqDiff, Nat.reduceAdd, Nat.reduceSub, Int.reduceLT, Int.reduceLE, Int.reduceEq, Int.reduceNeg, Int.reduceNe, Int.reduceAdd, Int.reduceSub, Int.reduceMul, Int.reduceToNat, Int.toNat_zero, Int.toNat_one, Int.toNat_natCast, am_cats, am_cat, am_st1, am_st2, am_clr, up2_na, up2_nj, up2_same, List.getElem?_cons_zero, List.getElem?_cons_succ, List.set_cons_zero, List.set_cons_succ, ne_eq, tk_152 hh, p1]
                refine qm y x t2 t _ _ (fun J2 => ⟨⟨Nat.le_refl _, Nat.le_refl _⟩, ?_⟩)
                simp only [s184_40, s184_41, s184_42, s184_43, s184_44, Option.toList_some, Option.toList_none, List.cons_append, List.nil_append, Nat.le_refl, true_and, and_true, true_or, or_true, false_or, or_false, true_implies, false_implies, implies_true, not_true_eq_false, not_false_eq_true, eq_self, Nat.reduceLT, Nat.reduceLeDiff, Nat.reduceEqDiff, Nat.reduceAdd, Nat.reduceSub, Int.reduceLT, Int.reduceLE, Int.reduceEq, Int.reduceNeg, Int.reduceNe, Int.reduceAdd, Int.reduceSub, Int.reduceMul, Int.reduceToNat, Int.toNat_zero, Int.toNat_one, Int.toNat_natCast, am_cats, am_cat, am_st1, am_st2, am_clr, up2_na, up2_nj, up2_same, List.getElem?_cons_zero, List.getElem?_cons_succ, List.set_cons_zero, List.set_cons_succ, ne_eq, p2]
                rfl
          · refine ⟨-1, ?_⟩
            simp only [s85_0, s85_1, s85_2, s85_3, s85_4, s85_5, s85_6, s85_7, s85_8, s85_9, s85_10, s85_11, s85_12, s85_13, s85_14, s85_15, s85_16, s85_17, s85_18, s85_19, s85_20, s85_21, s85_22, s85_23, s85_24, e85, Option.toList_some, Option.toList_none, List.cons_append, List.nil_append, Nat.le_refl, true_and, and_true, true_or, or_true, false_or, or_false, true_implies, false_implies, implies_true, not_true_eq_false, not_false_eq_true, eq_self, Nat.reduceLT, Nat.reduceLeDiff, Nat.reduceEqDiff, Nat.reduceAdd, Nat.reduceSub, Int.reduceLT, Int.reduceLE, Int.reduceEq, Int.reduceNeg, Int.reduceNe, Int.reduceAdd, Int.reduceSub, Int.reduceMul, Int.reduceToNat, Int.toNat_zero, Int.toNat_one, Int.toNat_natCast, am_cats, am_cat, am_st1, am_st2, am_clr, up2_na, up2_nj, up2_same, List.getElem?_cons_zero, List.getElem?_cons_succ, List.set_cons_zero, List.set_cons_succ, ne_eq, tk_0 hh, k80 hh, k51 hh, k18, i10, g1, g2, g3, g4, g5]
            refine ⟨rfl, fun _ _ => ?_⟩
            simp only [s184_0, s184_1, s184_2, s184_3, s184_4, s184_5, s184_6, s184_7, s184_8, s184_9, s184_10, s184_11, s184_12, s184_13, s184_14, s184_15, s184_16, s184_17, s184_18, s184_19, s184_20, s184_21, s184_22, e184, Option.toList_some, Option.toList_none, List.cons_append, List.nil_append, Nat.le_refl, true_and, and_true, true_or, or_true, false_or, or_false, true_implies, false_implies, implies_true, not_true_eq_false, not_false_eq_true, eq_self, Nat.reduceLT, Nat.reduceLeDiff, Nat.reduceEqDiff, Nat.reduceAdd, Nat.reduceSub, Int.reduceLT, Int.reduceLE, Int.reduceEq, Int.reduceNeg, Int.reduceNe, Int.reduceAdd, Int.reduceSub, Int.reduceMul, Int.reduceToNat, Int.toNat_zero, Int.toNat_one, Int.toNat_natCast, am_cats, am_cat, am_st1, am_st2, am_clr, up2_na, up2_nj, up2_same, List.getElem?_cons_zero, List.getElem?_cons_succ, List.set_cons_zero, List.set_cons_succ, ne_eq, tk_152 hh, k181 hh, k164 hh, k136, i10, g1', g2', g3', g4, g5]
            rfl
      · have g3' : ¬ (0 ≤ w ∧ w < I 152 3) := by omega
        refine ⟨-1, ?_⟩
        simp only [s85_0, s85_1, s85_2, s85_3, s85_4, s85_5, s85_6, s85_7, s85_8, s85_9, s85_10, s85_11, s85_12, s85_13, s85_14, s85_15, s85_16, s85_17, e85, Option.toList_some, Option.toList_none, List.cons_append, List.nil_append, Nat.le_refl, true_and, and_true, true_or, or_true, false_or, or_false, true_implies, false_implies, implies_true, not_true_eq_false, not_false_eq_true, eq_self, Nat.reduceLT, Nat.reduceLeDiff, Nat.reduceEqDiff, Nat.reduceAdd, Nat.reduceSub, Int.reduceLT, Int.reduceLE, Int.reduceEq, Int.reduceNeg, Int.reduceNe, Int.reduceAdd, Int.reduceSub, Int.reduceMul, Int.reduceToNat, Int.toNat_zero, Int.toNat_one, Int.toNat_natCast, am_cats, am_cat, am_st1, am_st2, am_clr, up2_na, up2_nj, up2_same, List.getElem?_cons_zero, List.getElem?_cons_succ, List.set_cons_zero, List.set_cons_succ, ne_eq, tk_0 hh, k80 hh, k51 hh, i10, g1, g2, g3]
        refine ⟨rfl, fun _ _ => ?_⟩
        simp only [s184_0, s184_1, s184_2, s184_3, s184_4, s184_5, s184_6, s184_7, s184_8, s184_9, s184_10, s184_11, s184_12, s184_13, s184_14, s184_15, s184_16, s184_17, s184_18, s184_19, s184_20, s184_21, s184_22, e184, Option.toList_some, Option.toList_none, List.cons_append, List.nil_append, Nat.le_refl, true_and, and_true, true_or, or_true, false_or, or_false, true_implies, false_implies, implies_true, not_true_eq_false, not_false_eq_true, eq_self, Nat.reduceLT, Nat.reduceLeDiff, Nat.reduceEqDiff, Nat.reduceAdd, Nat.reduceSub, Int.reduceLT, Int.reduceLE, Int.reduceEq, Int.reduceNeg, Int.reduceNe, Int.reduceAdd, Int.reduceSub, Int.reduceMul, Int.reduceToNat, Int.toNat_zero, Int.toNat_one, Int.toNat_natCast, am_cats, am_cat, am_st1, am_st2, am_clr, up2_na, up2_nj, up2_same, List.getElem?_cons_zero, List.getElem?_cons_succ, List.set_cons_zero, List.set_cons_succ, ne_eq, tk_152 hh, k181 hh, k164 hh, i10, g1', g2', g3']
        rfl
    · have g2' : ¬ (0 ≤ z ∧ z < I 152 3) := by omega
      refine ⟨-1, ?_⟩
      simp only [s85_0, s85_1, s85_2, s85_3, s85_4, s85_5, s85_6, s85_7, s85_8, s85_9, s85_10, s85_11, s85_12, s85_13, s85_14, s85_15, s85_16, s85_17, e85, Option.toList_some, Option.toList_none, List.cons_append, List.nil_append, Nat.le_refl, true_and, and_true, true_or, or_true, false_or, or_false, true_implies, false_implies, implies_true, not_true_eq_false, not_false_eq_true, eq_self, Nat.reduceLT, Nat.reduceLeDiff, Nat.reduceEqDiff, Nat.reduceAdd, Nat.reduceSub, Int.reduceLT, Int.reduceLE, Int.reduceEq, Int.reduceNeg, Int.reduceNe, Int.reduceAdd, Int.reduceSub, Int.reduceMul, Int.reduceToNat, Int.toNat_zero, Int.toNat_one, Int.toNat_natCast, am_cats, am_cat, am_st1, am_st2, am_clr, up2_na, up2_nj, up2_same, List.getElem?_cons_zero, List.getElem?_cons_succ, List.set_cons_zero, List.set_cons_succ, ne_eq, tk_0 hh, k80 hh, k51 hh, i10, g1, g2]
      refine ⟨rfl, fun _ _ => ?_⟩
      simp only [s184_0, s184_1, s184_2, s184_3, s184_4, s184_5, s184_6, s184_7, s184_8, s184_9, s184_10, s184_11, s184_12, s184_13, s184_14, s184_15, s184_16, s184_17, s184_18, s184_19, s184_20, s184_21, s184_22, e184, Option.toList_some, Option.toList_none, List.cons_append, List.nil_append, Nat.le_refl, true_and, and_true, true_or, or_true, false_or, or_false, true_implies, false_implies, implies_true, not_true_eq_false, not_false_eq_true, eq_self, Nat.reduceLT, Nat.reduceLeDiff, Nat.reduceEqDiff, Nat.reduceAdd, Nat.reduceSub, Int.reduceLT, Int.reduceLE, Int.reduceEq, Int.reduceNeg, Int.reduceNe, Int.reduceAdd, Int.reduceSub, Int.reduceMul, Int.reduceToNat, Int.toNat_zero, Int.toNat_one, Int.toNat_natCast, am_cats, am_cat, am_st1, am_st2, am_clr, up2_na, up2_nj, up2_same, List.getElem?_cons_zero, List.getElem?_cons_succ, List.set_cons_zero, List.set_cons_succ, ne_eq, tk_152 hh, k181 hh, k164 hh, i10, g1', g2']
      rfl
  · have g1' : ¬ ((0 ≤ a ∧ a < I 152 2) ∧ (0 ≤ b ∧ b < I 152 2) ∧ a ≠ b) := by rw [← l2]; exact g1
    refine ⟨-1, ?_⟩
    simp only [s85_0, s85_1, s85_2, s85_3, s85_4, s85_5, s85_6, s85_7, s85_8, s85_9, s85_10, s85_11, s85_12, s85_13, s85_14, s85_15, s85_16, s85_17, e85, tk_0 hh, k80 hh, i10, if_neg g1, Option.toList_some, Option.toList_none, List.cons_append, List.nil_append, Nat.le_refl, true_and, and_true, true_or, or_true, false_or, or_false, true_implies, false_implies, implies_true, not_true_eq_false, not_false_eq_true, eq_self, Nat.reduceLT, Nat.reduceLeDiff, Nat.reduceEqDiff, Nat.reduceAdd, Nat.reduceSub, Int.reduceLT, Int.reduceLE, Int.reduceEq, Int.reduceNeg, Int.reduceNe, Int.reduceAdd, Int.reduceSub, Int.reduceMul, Int.reduceToNat, Int.toNat_zero, Int.toNat_one, Int.toNat_natCast, am_cats, am_cat, am_st1, am_st2, am_clr, up2_na, up2_nj, up2_same, List.getElem?_cons_zero, List.getElem?_cons_succ, List.set_cons_zero, List.set_cons_succ, ne_eq]
    refine ⟨rfl, fun _ _ => ?_⟩
    simp only [s184_0, s184_1, s184_2, s184_3, s184_4, s184_5, s184_6, s184_7, s184_8, s184_9, s184_10, s184_11, s184_12, s184_13, s184_14, s184_15, s184_16, s184_17, s184_18, s184_19, s184_20, s184_21, s184_22, e184, tk_152 hh, k181 hh, i10, if_neg g1', Option.toList_some, Option.toList_none, List.cons_append, List.nil_append, Nat.le_refl, true_and, and_true, true_or, or_true, false_or, or_false, true_implies, false_implies, implies_true, not_true_eq_false, not_false_eq_true, eq_self, Nat.reduceLT, Nat.reduceLeDiff, Nat.reduceEqDiff, Nat.reduceAdd, Nat.reduceSub, Int.reduceLT, Int.reduceLE, Int.reduceEq, Int.reduceNeg, Int.reduceNe, Int.reduceAdd, Int.reduceSub, Int.reduceMul, Int.reduceToNat, Int.toNat_zero, Int.toNat_one, Int.toNat_natCast, am_cats, am_cat, am_st1, am_st2, am_clr, up2_na, up2_nj, up2_same, List.getElem?_cons_zero, List.getElem?_cons_succ, List.set_cons_zero, List.set_cons_succ, ne_eq]
    rfl
end
