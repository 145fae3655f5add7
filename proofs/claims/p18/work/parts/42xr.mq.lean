/-! the law's two readers, 26: lacks answers alike -/
def btN (v : Nat) : Nat := v % 2 + v / 2 % 2 + v / 4 % 2 + v / 8 % 2 + v / 16 % 2 + v / 32 % 2
def btK (v : Nat) : Nat → Nat
  | 0 => 0
  | k + 1 => btK v k + v / 2 ^ k % 2
theorem btK_6 (v : Nat) : btK v 6 = btN v := by
  show 0 + v / 2 ^ 0 % 2 + v / 2 ^ 1 % 2 + v / 2 ^ 2 % 2 + v / 2 ^ 3 % 2 + v / 2 ^ 4 % 2 + v / 2 ^ 5 % 2 = btN v
  unfold btN
  rw [Nat.zero_add, Nat.pow_zero, Nat.div_one]
theorem btK_b (v : Nat) : ∀ k, btK v k ≤ k
  | 0 => Nat.le_refl _
  | k + 1 => by
    have := btK_b v k
    show btK v k + v / 2 ^ k % 2 ≤ k + 1
    omega
theorem shr_all : ∀ k : Nat, k < 6 → ∀ v : Nat, v < 64 → (Int32.ofInt (Int32.ofInt (v : Int) >>> (Int32.ofInt (k : Int) &&& 31)).toInt &&& Int32.ofInt 1).toInt = ((v / 2 ^ k % 2 : Nat) : Int) := by decide +kernel
/-- what is otherwise: one by one; task by task -/
def owM (I : Nat → Nat → Int) (h : Int) (D : Nat → Int) : Nat → Int
  | 0 => 0
  | n + 1 => owM I h D n + (if I 157 n = h ∧ I 160 n ≠ D (I 158 n).toNat then 1 else 0)
theorem owM_b (I : Nat → Nat → Int) (h : Int) (D : Nat → Int) : ∀ n : Nat, 0 ≤ owM I h D n ∧ owM I h D n ≤ n
  | 0 => ⟨Int.le_refl _, Int.le_refl _⟩
  | n + 1 => by
    have := owM_b I h D n
    rw [owM]
    split <;> omega
theorem swf_add {f : Nat → Int} {a : Int} {t : Nat} : ∀ K, swf (fun i => f i + (if i = t then a else 0)) K = swf f K + (if t < K then a else 0)
  | 0 => by
    show (0 : Int) = 0 + _
    rw [if_neg (Nat.not_lt_zero _)]
    rfl
  | K + 1 => by
    show swf (fun i => f i + (if i = t then a else 0)) K + (f K + (if K = t then a else 0)) = swf f K + f K + _
    rw [swf_add K]
    by_cases z : K = t
    · rw [if_neg (by omega), if_pos z, if_pos (by omega)]
      omega
    · rw [if_neg z]
      by_cases z2 : t < K
      · rw [if_pos z2, if_pos (by omega)]
        omega
      · rw [if_neg z2, if_neg (by omega)]
        omega
def owT (I : Nat → Nat → Int) (h : Int) (D : Nat → Int) (n t : Nat) : Int := if D t = 0 then rgt I h t n else mny I h t n - rgt I h t n
theorem owT_s {I : Nat → Nat → Int} {h : Int} {D : Nat → Int} {n t0 : Nat} (hD : ∀ t, D t = 0 ∨ D t = 1) (h8 : I 158 n = (t0 : Int)) (hr : I 160 n = 0 ∨ I 160 n = 1) (t : Nat) : owT I h D (n + 1) t = owT I h D n t + (if t = t0 then (if I 157 n = h ∧ I 160 n ≠ D t0 then 1 else 0) else 0) := by
  unfold owT
  rw [rgt, mny, h8]
  by_cases z : t = t0
  · subst z
    have e0 : (if t = t then (if I 157 n = h ∧ I 160 n ≠ D t then (1 : Int) else 0) else 0) = (if I 157 n = h ∧ I 160 n ≠ D t then 1 else 0) := if_pos rfl
    rw [e0]
    by_cases z1 : I 157 n = h
    · have e1 : (if I 157 n = h ∧ (t : Int) = (t : Int) then I 160 n else 0) = I 160 n := if_pos ⟨z1, rfl⟩
      have e2 : (if I 157 n = h ∧ (t : Int) = (t : Int) then (1 : Int) else 0) = 1 := if_pos ⟨z1, rfl⟩
      rw [e1, e2]
      have d := hD t
      by_cases d0 : D t = 0
      · have e3 : ∀ a b : Int, (if D t = 0 then a else b) = a := fun _ _ => if_pos d0
        rw [e3, e3, d0]
        rcases hr with e | e
        · have e4 : (if I 157 n = h ∧ I 160 n ≠ 0 then (1 : Int) else 0) = 0 := if_neg (fun q => q.2 e)
          rw [e4, e]
        · have e4 : (if I 157 n = h ∧ I 160 n ≠ 0 then (1 : Int) else 0) = 1 := if_pos ⟨z1, by rw [e]; decide⟩
          rw [e4, e]
      · have d1 : D t = 1 := by omega
        have e3 : ∀ a b : Int, (if D t = 0 then a else b) = b := fun _ _ => if_neg d0
        rw [e3, e3, d1]
        rcases hr with e | e
        · have e4 : (if I 157 n = h ∧ I 160 n ≠ 1 then (1 : Int) else 0) = 1 := if_pos ⟨z1, by rw [e]; decide⟩
          rw [e4, e]
          omega
        · have e4 : (if I 157 n = h ∧ I 160 n ≠ 1 then (1 : Int) else 0) = 0 := if_neg (fun q => q.2 e)
          rw [e4, e]
          omega
    · have e1 : (if I 157 n = h ∧ (t : Int) = (t : Int) then I 160 n else 0) = 0 := if_neg (fun q => z1 q.1)
      have e2 : (if I 157 n = h ∧ (t : Int) = (t : Int) then (1 : Int) else 0) = 0 := if_neg (fun q => z1 q.1)
      have e3 : (if I 157 n = h ∧ I 160 n ≠ D t then (1 : Int) else 0) = 0 := if_neg (fun q => z1 q.1)
      rw [e1, e2, e3, Int.add_zero, Int.add_zero, Int.add_zero]
  · have e0 : (if t = t0 then (if I 157 n = h ∧ I 160 n ≠ D t0 then (1 : Int) else 0) else 0) = 0 := if_neg z
    have e1 : (if I 157 n = h ∧ (t0 : Int) = (t : Int) then I 160 n else 0) = 0 := if_neg (fun q => by have := q.2; omega)
    have e2 : (if I 157 n = h ∧ (t0 : Int) = (t : Int) then (1 : Int) else 0) = 0 := if_neg (fun q => by have := q.2; omega)
    rw [e0, e1, e2, Int.add_zero, Int.add_zero, Int.add_zero]
theorem ow_eq {I : Nat → Nat → Int} {h : Int} {D : Nat → Int} {K N : Nat} (hD : ∀ t, D t = 0 ∨ D t = 1) (ht : ∀ i, i < N → ∃ t : Nat, I 158 i = (t : Int) ∧ t < K) (hr : ∀ i, i < N → I 160 i = 0 ∨ I 160 i = 1) : ∀ n, n ≤ N → swf (owT I h D n) K = owM I h D n
  | 0, _ => by
    have z : ∀ K, swf (owT I h D 0) K = 0 := by
      intro K
      induction K with
      | zero => rfl
      | succ K ih =>
        show swf (owT I h D 0) K + owT I h D 0 K = 0
        rw [ih]
        unfold owT
        rw [rgt, mny]
        split <;> rfl
    exact z K
  | n + 1, hn => by
    obtain ⟨t, e8, tK⟩ := ht n (by omega)
    rw [owM, ← ow_eq hD ht hr n (by omega), swf_eq K (fun i _ => owT_s hD e8 (hr n (by omega)) i), swf_add K, if_pos tK, e8, Int.toNat_natCast]
/-- the best set of the first ones -/
def blF (O : Nat → Int) : Nat → Nat × Int
  | 0 => (0, O 0)
  | v + 1 => if O (v + 1) < (blF O v).2 ∨ O (v + 1) = (blF O v).2 ∧ btN (v + 1) < btN (blF O v).1 then (v + 1, O (v + 1)) else blF O v
theorem blF_le (O : Nat → Int) : ∀ v, (blF O v).1 ≤ v
  | 0 => Nat.le_refl _
  | v + 1 => by
    have := blF_le O v
    rw [blF]
    split
    · exact Nat.le_refl _
    · omega
section
variable {s d h : Nat} {T : Nat → Nat × Nat} {I J : Nat → Nat → Int} {R : Nat → Nat → Option Nat} {Q : Option AV → AH → Prop}
theorem k214 {g : AH} {v : Nat} (hv : v < 64) : wpc codeT mX d 214 [.inl (v : Int)] g Q ↔ Q (some (.inl (btN v : Int))) g := wpc_det (by
  simp only [e214, s214_0, s214_1, s214_2, s214_3, s214_4, s214_5, s214_6, s214_7, s214_8, s214_9, s214_10, s214_11, s214_12, s214_13, s214_14, s214_15, s214_16, s214_17, s214_18, s214_19, s214_20, s214_21, s214_22, s214_23, s214_24, s214_25, s214_26, s214_27, s214_28, s214_29, s214_30, s214_31, s214_32, s214_33, s214_34, s214_35, s214_36, s214_37, s214_38, s214_39, s214_40, s214_41, Option.toList_some, Option.toList_none, List.cons_append, List.nil_append, Nat.le_refl, true_and, and_true, true_or, or_true, false_or, or_false, true_implies, false_implies, implies_true, not_true_eq_false, not_false_eq_true, eq_self, Nat.reduceLT, Nat.reduceLeDiff, Nat.reduceEqDiff, Nat.reduceAdd, Nat.reduceSub, Int.reduceLT, Int.reduceLE, Int.reduceEq, Int.reduceNeg, Int.reduceNe, Int.reduceAdd, Int.reduceSub, Int.reduceMul, Int.reduceToNat, Int.toNat_zero, Int.toNat_one, Int.toNat_natCast, am_cats, am_cat, am_st1, am_st2, am_clr, up2_na, up2_nj, up2_same, List.getElem?_cons_zero, List.getElem?_cons_succ, List.set_cons_zero, List.set_cons_succ, ne_eq]
  refine congrArg (fun z : Int => some (Sum.inl z : AV)) ?_
  revert hv
  revert v
  decide +kernel)
theorem bt_l {g : AH} {v : Nat} (hv : v < 64) (hQ : Q (some (.inl (btN v : Int))) g) : ∀ (r k : Nat), k + r = 6 → wp codeT mX d 193 4 [some (.inl (v : Int)), some (.inl (btK v k : Int)), some (.inl (k : Int))] [] g Q := by
  intro r
  induction r with
  | zero =>
    intro k hk
    have hk : k = 6 := by omega
    subst hk
    have u0 : ¬ ((6 : Nat) : Int) < 6 := by decide
    rw [← btK_6] at hQ
    refine s193_4.mpr ?_
    simp only [s193_5, s193_6, s193_17, s193_18, Option.toList_some, Option.toList_none, List.cons_append, List.nil_append, Nat.le_refl, true_and, and_true, true_or, or_true, false_or, or_false, true_implies, false_implies, implies_true, not_true_eq_false, not_false_eq_true, eq_self, Nat.reduceLT, Nat.reduceLeDiff, Nat.reduceEqDiff, Nat.reduceAdd, Nat.reduceSub, Int.reduceLT, Int.reduceLE, Int.reduceEq, Int.reduceNeg, Int.reduceNe, Int.reduceAdd, Int.reduceSub, Int.reduceMul, Int.reduceToNat, Int.toNat_zero, Int.toNat_one, Int.toNat_natCast, am_cats, am_cat, am_st1, am_st2, am_clr, up2_na, up2_nj, up2_same, List.getElem?_cons_zero, List.getElem?_cons_succ, List.set_cons_zero, List.set_cons_succ, ne_eq, u0]
    exact hQ
  | succ r ih =>
    intro k hk
    have k6 : k < 6 := by omega
    have u1 : (k : Int) < 6 := by omega
    have sh := shr_all k k6 v hv
    have bb := btK_b v k
    have o1 : (btK v k : Int) + ((v / 2 ^ k % 2 : Nat) : Int) = ((btK v (k + 1) : Nat) : Int) := by
      show _ = ((btK v k + v / 2 ^ k % 2 : Nat) : Int)
      omega
    have nx := ih (k + 1) (by omega)
    have b2 := btK_b v (k + 1)
    have w1 := w32_c o1 (by omega)
    have i2 : k ≤ 1080 := by omega
    refine s193_4.mpr ?_
    simp only [s193_5, s193_6, s193_7, s193_8, s193_9, s193_10, s193_11, s193_12, s193_13, s193_14, s193_15, s193_16, Option.toList_some, Option.toList_none, List.cons_append, List.nil_append, Nat.le_refl, true_and, and_true, true_or, or_true, false_or, or_false, true_implies, false_implies, implies_true, not_true_eq_false, not_false_eq_true, eq_self, Nat.reduceLT, Nat.reduceLeDiff, Nat.reduceEqDiff, Nat.reduceAdd, Nat.reduceSub, Int.reduceLT, Int.reduceLE, Int.reduceEq, Int.reduceNeg, Int.reduceNe, Int.reduceAdd, Int.reduceSub, Int.reduceMul, Int.reduceToNat, Int.toNat_zero, Int.toNat_one, Int.toNat_natCast, am_cats, am_cat, am_st1, am_st2, am_clr, up2_na, up2_nj, up2_same, List.getElem?_cons_zero, List.getElem?_cons_succ, List.set_cons_zero, List.set_cons_succ, ne_eq, u1, sh, w1, w32_s i2]
    exact nx
theorem k193 {g : AH} {v : Nat} (hv : v < 64) : wpc codeT mX d 193 [.inl (v : Int)] g Q ↔ Q (some (.inl (btN v : Int))) g := wpc_det (by
  have go := bt_l (d := d) (g := g) (Q := fun v0 g0 => g0 = g ∧ v0 = some (.inl (btN v : Int))) hv ⟨rfl, rfl⟩ 6 0 rfl
  simp only [s193_0, s193_1, s193_2, s193_3, e193, Option.toList_some, Option.toList_none, List.cons_append, List.nil_append, Nat.le_refl, true_and, and_true, true_or, or_true, false_or, or_false, true_implies, false_implies, implies_true, not_true_eq_false, not_false_eq_true, eq_self, Nat.reduceLT, Nat.reduceLeDiff, Nat.reduceEqDiff, Nat.reduceAdd, Nat.reduceSub, Int.reduceLT, Int.reduceLE, Int.reduceEq, Int.reduceNeg, Int.reduceNe, Int.reduceAdd, Int.reduceSub, Int.reduceMul, Int.reduceToNat, Int.toNat_zero, Int.toNat_one, Int.toNat_natCast, am_cats, am_cat, am_st1, am_st2, am_clr, up2_na, up2_nj, up2_same, List.getElem?_cons_zero, List.getElem?_cons_succ, List.set_cons_zero, List.set_cons_succ, ne_eq]
  exact go)
theorem p101 (hh : hp T R) (h6 : h < 6) {K : Nat} (hK : I 3 3 = K) (K8 : K ≤ 8) {v : Int} {D A B : Nat → Int} (hD : ∀ t, t < K → dwF (I 13 t) (I 15 t) v = D t) (hA : ∀ t, t < K → I (25 + h) t = A t) (hB : ∀ t, t < K → I (33 + h) t = B t) (b : ∀ t, t < K → 0 ≤ A t ∧ A t ≤ B t ∧ B t ≤ 200) (hQ : Q (some (.inl (swf (fun t => if D t = 0 then A t else B t - A t) K))) (185, s, T, I, J, R)) : ∀ (r k : Nat), k + r = K → ∀ l5, 0 ≤ swf (fun t => if D t = 0 then A t else B t - A t) k → swf (fun t => if D t = 0 then A t else B t - A t) k ≤ 200 * (k : Int) → wp codeT mX (d + 1) 101 4 [some (.inr (.inr (some 0))), some (.inl (h : Int)), some (.inl v), some (.inl (swf (fun t => if D t = 0 then A t else B t - A t) k)), some (.inl (k : Int)), l5] [] (185, s, T, I, J, R) Q := by
  intro r
  induction r with
  | zero =>
    intro k hk l5 _ _
    have hk : k = K := by omega
    subst hk
    refine s101_4.mpr ?_
    simp only [s101_5, s101_6, s101_7, s101_8, s101_37, s101_38, Option.toList_some, Option.toList_none, List.cons_append, List.nil_append, Nat.le_refl, true_and, and_true, true_or, or_true, false_or, or_false, true_implies, false_implies, implies_true, not_true_eq_false, not_false_eq_true, eq_self, Nat.reduceLT, Nat.reduceLeDiff, Nat.reduceEqDiff, Nat.reduceAdd, Nat.reduceSub, Int.reduceLT, Int.reduceLE, Int.reduceEq, Int.reduceNeg, Int.reduceNe, Int.reduceAdd, Int.reduceSub, Int.reduceMul, Int.reduceToNat, Int.toNat_zero, Int.toNat_one, Int.toNat_natCast, am_cats, am_cat, am_st1, am_st2, am_clr, up2_na, up2_nj, up2_same, List.getElem?_cons_zero, List.getElem?_cons_succ, List.set_cons_zero, List.set_cons_succ, ne_eq, tk_0 hh, tk_3 hh, rk_0_6 hh, hK, Int.lt_irrefl]
    exact hQ
  | succ r ih =>
    intro k hk l5 c1 c2
    have kK : k < K := by omega
    have t8 : k < 8 := by omega
    obtain ⟨b1, b2, b3⟩ := b k kK
    have nx := fun l5 => ih (k + 1) (by omega) l5
    rw [swf] at nx
    have u1 : (k : Int) < (K : Int) := by omega
    have u2 : 0 ≤ (h : Int) ∧ (h : Int) < ((6 : Nat) : Int) := by omega
    have u3 : 0 ≤ (k : Int) ∧ (k : Int) < ((8 : Nat) : Int) := by omega
    have u4 : 25 + h < 185 := by omega
    have i2 : k ≤ 1080 := by omega
    have eD := hD k kK
    refine s101_4.mpr ?_
    generalize swf (fun t => if D t = 0 then A t else B t - A t) k = S at *
    by_cases z : D k = 0
    · rw [if_pos z] at nx
      rw [z] at eD
      have nx := fun l5 => nx l5 (by omega) (by omega)
      have w1 : w32 (S + A k) = S + A k := w32_eq (by omega) (by omega)
      simp only [s101_5, s101_6, s101_7, s101_8, s101_9, s101_10, s101_11, s101_12, s101_13, s101_14, s101_15, s101_16, s101_17, s101_18, s101_19, s101_20, s101_21, s101_22, s101_23, s101_24, s101_25, s101_26, s101_27, s101_28, s101_29, s101_30, s101_31, s101_32, s101_33, s101_34, s101_35, s101_36, Option.toList_some, Option.toList_none, List.cons_append, List.nil_append, Nat.le_refl, true_and, and_true, true_or, or_true, false_or, or_false, true_implies, false_implies, implies_true, not_true_eq_false, not_false_eq_true, eq_self, Nat.reduceLT, Nat.reduceLeDiff, Nat.reduceEqDiff, Nat.reduceAdd, Nat.reduceSub, Int.reduceLT, Int.reduceLE, Int.reduceEq, Int.reduceNeg, Int.reduceNe, Int.reduceAdd, Int.reduceSub, Int.reduceMul, Int.reduceToNat, Int.toNat_zero, Int.toNat_one, Int.toNat_natCast, am_cats, am_cat, am_st1, am_st2, am_clr, up2_na, up2_nj, up2_same, List.getElem?_cons_zero, List.getElem?_cons_succ, List.set_cons_zero, List.set_cons_succ, ne_eq, tk_0 hh, tk_3 hh, tk_17 hh, tk_24 hh, tg_25 hh h6, rk_0_6 hh, rk_0_7 hh, rk_17_1 hh, gk_24 hh h6, k102 hh t8, hK, hA k kK, eD, u1, u2, u3, u4, w1, w32_s i2]
      exact nx _
    · rw [if_neg z] at nx
      have nx := fun l5 => nx l5 (by omega) (by omega)
      have w0 : w32 (B k - A k) = B k - A k := w32_eq (by omega) (by omega)
      have w1 : w32 (S + (B k - A k)) = S + (B k - A k) := w32_eq (by clear w0; omega) (by clear w0; omega)
      have eD0 : ¬ dwF (I 13 k) (I 15 k) v = 0 := by rw [eD]; exact z
      simp only [s101_5, s101_6, s101_7, s101_8, s101_9, s101_10, s101_11, s101_12, s101_13, s101_14, s101_15, s101_16, s101_17, s101_18, s101_19, s101_20, s101_21, s101_22, s101_23, s101_24, s101_25, s101_26, s101_27, s101_28, s101_29, s101_30, s101_31, s101_32, s101_33, s101_34, s101_35, s101_36, Option.toList_some, Option.toList_none, List.cons_append, List.nil_append, Nat.le_refl, true_and, and_true, true_or, or_true, false_or, or_false, true_implies, false_implies, implies_true, not_true_eq_false, not_false_eq_true, eq_self, Nat.reduceLT, Nat.reduceLeDiff, Nat.reduceEqDiff, Nat.reduceAdd, Nat.reduceSub, Int.reduceLT, Int.reduceLE, Int.reduceEq, Int.reduceNeg, Int.reduceNe, Int.reduceAdd, Int.reduceSub, Int.reduceMul, Int.reduceToNat, Int.toNat_zero, Int.toNat_one, Int.toNat_natCast, am_cats, am_cat, am_st1, am_st2, am_clr, up2_na, up2_nj, up2_same, List.getElem?_cons_zero, List.getElem?_cons_succ, List.set_cons_zero, List.set_cons_succ, ne_eq, tk_0 hh, tk_3 hh, tk_17 hh, tk_24 hh, tg_25 hh h6, rk_0_6 hh, rk_0_7 hh, rk_17_1 hh, gk_24 hh h6, k102 hh t8, k77 hh h6 t8, hK, hA k kK, hB k kK, eD0, u1, u2, u3, u4, w0, w1, w32_s i2]
      exact nx _
theorem k101 (hh : hp T R) (h6 : h < 6) {K : Nat} (hK : I 3 3 = K) (K8 : K ≤ 8) {v : Int} {D A B : Nat → Int} (hD : ∀ t, t < K → dwF (I 13 t) (I 15 t) v = D t) (hA : ∀ t, t < K → I (25 + h) t = A t) (hB : ∀ t, t < K → I (33 + h) t = B t) (b : ∀ t, t < K → 0 ≤ A t ∧ A t ≤ B t ∧ B t ≤ 200) : wpc codeT mX (d + 1) 101 [.inr (.inr (some 0)), .inl (h : Int), .inl v] (185, s, T, I, J, R) Q ↔ Q (some (.inl (swf (fun t => if D t = 0 then A t else B t - A t) K))) (185, s, T, I, J, R) := wpc_det (by
  have go := p101 (d := d) (s := s) (J := J) (Q := fun v0 g0 => g0 = (185, s, T, I, J, R) ∧ v0 = some (.inl (swf (fun t => if D t = 0 then A t else B t - A t) K))) hh h6 hK K8 hD hA hB b ⟨rfl, rfl⟩ K 0 (Nat.zero_add _) none (Int.le_refl _) (Int.le_refl _)
  simp only [s101_0, s101_1, s101_2, s101_3, e101, Option.toList_some, Option.toList_none, List.cons_append, List.nil_append, Nat.le_refl, true_and, and_true, true_or, or_true, false_or, or_false, true_implies, false_implies, implies_true, not_true_eq_false, not_false_eq_true, eq_self, Nat.reduceLT, Nat.reduceLeDiff, Nat.reduceEqDiff, Nat.reduceAdd, Nat.reduceSub, Int.reduceLT, Int.reduceLE, Int.reduceEq, Int.reduceNeg, Int.reduceNe, Int.reduceAdd, Int.reduceSub, Int.reduceMul, Int.reduceToNat, Int.toNat_zero, Int.toNat_one, Int.toNat_natCast, am_cats, am_cat, am_st1, am_st2, am_clr, up2_na, up2_nj, up2_same, List.getElem?_cons_zero, List.getElem?_cons_succ, List.set_cons_zero, List.set_cons_succ, ne_eq]
  exact go)
/-- class: set by set -/
theorem p100 (hh : hp T R) {S : Nat} (S6 : S ≤ 6) (hS : I 0 1 = S) {w : Int} {O : Nat → Int} (hO : ∀ v : Nat, v < 64 → ∀ Q : Option AV → AH → Prop, wpc codeT mX (d + 1) 101 [.inr (.inr (some 0)), .inl (h : Int), .inl (v : Int)] (185, s, T, I, J, R) Q ↔ Q (some (.inl (O v))) (185, s, T, I, J, R)) (hQ : Q (some (.inl (if w = 0 then ((blF O (2 ^ S - 1)).1 : Int) else (blF O (2 ^ S - 1)).2))) (185, s, T, I, J, R)) : ∀ (r v : Nat), v + 1 + r = 2 ^ S → ∀ l6 l7, wp codeT mX (d + 2) 100 20 [some (.inr (.inr (some 0))), some (.inl (h : Int)), some (.inl w), some (.inl ((blF O v).1 : Int)), some (.inl (blF O v).2), some (.inl ((v + 1 : Nat) : Int)), l6, l7] [] (185, s, T, I, J, R) Q := by
  have sh := shl1_all S (by omega)
  have p6 : 2 ^ S ≤ 64 := Nat.le_trans (Nat.pow_le_pow_right (by decide) S6) (by decide)
  intro r
  induction r with
  | zero =>
    intro v hv l6 l7
    have hv : v = 2 ^ S - 1 := by omega
    subst hv
    have u1 : ¬ ((2 ^ S - 1 + 1 : Nat) : Int) < 2 ^ S := by
      have : ((2 ^ S : Nat) : Int) = 2 ^ S := by rw [Int.natCast_pow]; rfl
      omega
    refine s100_20.mpr ?_
    by_cases w0 : w = 0
    · rw [if_pos w0] at hQ
      simp only [s100_21, s100_22, s100_23, s100_24, s100_25, s100_54, s100_55, s100_56, s100_57, s100_58, s100_59, Option.toList_some, Option.toList_none, List.cons_append, List.nil_append, Nat.le_refl, true_and, and_true, true_or, or_true, false_or, or_false, true_implies, false_implies, implies_true, not_true_eq_false, not_false_eq_true, eq_self, Nat.reduceLT, Nat.reduceLeDiff, Nat.reduceEqDiff, Nat.reduceAdd, Nat.reduceSub, Int.reduceLT, Int.reduceLE, Int.reduceEq, Int.reduceNeg, Int.reduceNe, Int.reduceAdd, Int.reduceSub, Int.reduceMul, Int.reduceToNat, Int.toNat_zero, Int.toNat_one, Int.toNat_natCast, am_cats, am_cat, am_st1, am_st2, am_clr, up2_na, up2_nj, up2_same, List.getElem?_cons_zero, List.getElem?_cons_succ, List.set_cons_zero, List.set_cons_succ, ne_eq, tk_0 hh, hS, sh, u1, w0]
      exact hQ
    · rw [if_neg w0] at hQ
      simp only [s100_21, s100_22, s100_23, s100_24, s100_25, s100_54, s100_55, s100_56, s100_57, s100_58, s100_59, Option.toList_some, Option.toList_none, List.cons_append, List.nil_append, Nat.le_refl, true_and, and_true, true_or, or_true, false_or, or_false, true_implies, false_implies, implies_true, not_true_eq_false, not_false_eq_true, eq_self, Nat.reduceLT, Nat.reduceLeDiff, Nat.reduceEqDiff, Nat.reduceAdd, Nat.reduceSub, Int.reduceLT, Int.reduceLE, Int.reduceEq, Int.reduceNeg, Int.reduceNe, Int.reduceAdd, Int.reduceSub, Int.reduceMul, Int.reduceToNat, Int.toNat_zero, Int.toNat_one, Int.toNat_natCast, am_cats, am_cat, am_st1, am_st2, am_clr, up2_na, up2_nj, up2_same, List.getElem?_cons_zero, List.getElem?_cons_succ, List.set_cons_zero, List.set_cons_succ, ne_eq, tk_0 hh, hS, sh, u1, w0]
      exact hQ
  | succ r ih =>
    intro v hv l6 l7
    have u1 : ((v + 1 : Nat) : Int) < 2 ^ S := by
      have : ((2 ^ S : Nat) : Int) = 2 ^ S := by rw [Int.natCast_pow]; rfl
      omega
    have v64 : v + 1 < 64 := by omega
    have b64 : (blF O v).1 < 64 := by have := blF_le O v; omega
    have i2 : v + 1 ≤ 1080 := by omega
    have nx := fun l6 l7 => ih (v + 1) (by omega) l6 l7
    rw [blF] at nx
    generalize hb : blF O v = bl at *
    obtain ⟨b, l⟩ := bl
    dsimp only at nx b64
    refine s100_20.mpr ?_
    by_cases c1 : O (v + 1) < l
    · rw [if_pos (Or.inl c1)] at nx
      simp only [s100_21, s100_22, s100_23, s100_24, s100_25, s100_26, s100_27, s100_28, s100_29, s100_30, s100_31, s100_32, s100_33, s100_34, s100_35, s100_36, s100_37, s100_38, s100_39, s100_40, s100_41, s100_42, s100_43, s100_44, s100_45, s100_46, s100_47, s100_48, s100_49, s100_50, s100_51, s100_52, s100_53, Option.toList_some, Option.toList_none, List.cons_append, List.nil_append, Nat.le_refl, true_and, and_true, true_or, or_true, false_or, or_false, true_implies, false_implies, implies_true, not_true_eq_false, not_false_eq_true, eq_self, Nat.reduceLT, Nat.reduceLeDiff, Nat.reduceEqDiff, Nat.reduceAdd, Nat.reduceSub, Int.reduceLT, Int.reduceLE, Int.reduceEq, Int.reduceNeg, Int.reduceNe, Int.reduceAdd, Int.reduceSub, Int.reduceMul, Int.reduceToNat, Int.toNat_zero, Int.toNat_one, Int.toNat_natCast, am_cats, am_cat, am_st1, am_st2, am_clr, up2_na, up2_nj, up2_same, List.getElem?_cons_zero, List.getElem?_cons_succ, List.set_cons_zero, List.set_cons_succ, ne_eq, tk_0 hh, hS, sh, u1, hO _ v64, k214 v64, k214 b64, c1, w32_s i2]
      by_cases c2 : ((btN (v + 1) : Nat) : Int) < ((btN b : Nat) : Int)
      · simp only [c2, Option.toList_some, Option.toList_none, List.cons_append, List.nil_append, Nat.le_refl, true_and, and_true, true_or, or_true, false_or, or_false, true_implies, false_implies, implies_true, not_true_eq_false, not_false_eq_true, eq_self, Nat.reduceLT, Nat.reduceLeDiff, Nat.reduceEqDiff, Nat.reduceAdd, Nat.reduceSub, Int.reduceLT, Int.reduceLE, Int.reduceEq, Int.reduceNeg, Int.reduceNe, Int.reduceAdd, Int.reduceSub, Int.reduceMul, Int.reduceToNat, Int.toNat_zero, Int.toNat_one, Int.toNat_natCast, am_cats, am_cat, am_st1, am_st2, am_clr, up2_na, up2_nj, up2_same, List.getElem?_cons_zero, List.getElem?_cons_succ, List.set_cons_zero, List.set_cons_succ, ne_eq]
        exact nx _ _
      · simp only [c2, Option.toList_some, Option.toList_none, List.cons_append, List.nil_append, Nat.le_refl, true_and, and_true, true_or, or_true, false_or, or_false, true_implies, false_implies, implies_true, not_true_eq_false, not_false_eq_true, eq_self, Nat.reduceLT, Nat.reduceLeDiff, Nat.reduceEqDiff, Nat.reduceAdd, Nat.reduceSub, Int.reduceLT, Int.reduceLE, Int.reduceEq, Int.reduceNeg, Int.reduceNe, Int.reduceAdd, Int.reduceSub, Int.reduceMul, Int.reduceToNat, Int.toNat_zero, Int.toNat_one, Int.toNat_natCast, am_cats, am_cat, am_st1, am_st2, am_clr, up2_na, up2_nj, up2_same, List.getElem?_cons_zero, List.getElem?_cons_succ, List.set_cons_zero, List.set_cons_succ, ne_eq]
        exact nx _ _
    · by_cases c3 : O (v + 1) = l
      · by_cases c2 : btN (v + 1) < btN b
        · rw [if_pos (Or.inr ⟨c3, c2⟩)] at nx
          have c2' : ((btN (v + 1) : Nat) : Int) < ((btN b : Nat) : Int) := by omega
          rw [c3] at nx
          simp only [s100_21, s100_22, s100_23, s100_24, s100_25, s100_26, s100_27, s100_28, s100_29, s100_30, s100_31, s100_32, s100_33, s100_34, s100_35, s100_36, s100_37, s100_38, s100_39, s100_40, s100_41, s100_42, s100_43, s100_44, s100_45, s100_46, s100_47, s100_48, s100_49, s100_50, s100_51, s100_52, s100_53, Option.toList_some, Option.toList_none, List.cons_append, List.nil_append, Nat.le_refl, true_and, and_true, true_or, or_true, false_or, or_false, true_implies, false_implies, implies_true, not_true_eq_false, not_false_eq_true, eq_self, Nat.reduceLT, Nat.reduceLeDiff, Nat.reduceEqDiff, Nat.reduceAdd, Nat.reduceSub, Int.reduceLT, Int.reduceLE, Int.reduceEq, Int.reduceNeg, Int.reduceNe, Int.reduceAdd, Int.reduceSub, Int.reduceMul, Int.reduceToNat, Int.toNat_zero, Int.toNat_one, Int.toNat_natCast, am_cats, am_cat, am_st1, am_st2, am_clr, up2_na, up2_nj, up2_same, List.getElem?_cons_zero, List.getElem?_cons_succ, List.set_cons_zero, List.set_cons_succ, ne_eq, tk_0 hh, hS, sh, u1, hO _ v64, k214 v64, k214 b64, c2', c3, Int.lt_irrefl, w32_s i2]
          exact nx _ _
        · rw [if_neg (fun q => q.elim c1 (fun q => c2 q.2))] at nx
          have c2' : ¬ ((btN (v + 1) : Nat) : Int) < ((btN b : Nat) : Int) := by omega
          simp only [s100_21, s100_22, s100_23, s100_24, s100_25, s100_26, s100_27, s100_28, s100_29, s100_30, s100_31, s100_32, s100_33, s100_34, s100_35, s100_36, s100_37, s100_38, s100_39, s100_40, s100_41, s100_42, s100_43, s100_44, s100_45, s100_46, s100_47, s100_48, s100_49, s100_50, s100_51, s100_52, s100_53, Option.toList_some, Option.toList_none, List.cons_append, List.nil_append, Nat.le_refl, true_and, and_true, true_or, or_true, false_or, or_false, true_implies, false_implies, implies_true, not_true_eq_false, not_false_eq_true, eq_self, Nat.reduceLT, Nat.reduceLeDiff, Nat.reduceEqDiff, Nat.reduceAdd, Nat.reduceSub, Int.reduceLT, Int.reduceLE, Int.reduceEq, Int.reduceNeg, Int.reduceNe, Int.reduceAdd, Int.reduceSub, Int.reduceMul, Int.reduceToNat, Int.toNat_zero, Int.toNat_one, Int.toNat_natCast, am_cats, am_cat, am_st1, am_st2, am_clr, up2_na, up2_nj, up2_same, List.getElem?_cons_zero, List.getElem?_cons_succ, List.set_cons_zero, List.set_cons_succ, ne_eq, tk_0 hh, hS, sh, u1, hO _ v64, k214 v64, k214 b64, c2', c3, Int.lt_irrefl, w32_s i2]
          exact nx _ _
      · rw [if_neg (fun q => q.elim c1 (fun q => c3 q.1))] at nx
        simp only [s100_21, s100_22, s100_23, s100_24, s100_25, s100_26, s100_27, s100_28, s100_29, s100_30, s100_31, s100_32, s100_33, s100_34, s100_35, s100_36, s100_37, s100_38, s100_39, s100_40, s100_41, s100_42, s100_43, s100_44, s100_45, s100_46, s100_47, s100_48, s100_49, s100_50, s100_51, s100_52, s100_53, Option.toList_some, Option.toList_none, List.cons_append, List.nil_append, Nat.le_refl, true_and, and_true, true_or, or_true, false_or, or_false, true_implies, false_implies, implies_true, not_true_eq_false, not_false_eq_true, eq_self, Nat.reduceLT, Nat.reduceLeDiff, Nat.reduceEqDiff, Nat.reduceAdd, Nat.reduceSub, Int.reduceLT, Int.reduceLE, Int.reduceEq, Int.reduceNeg, Int.reduceNe, Int.reduceAdd, Int.reduceSub, Int.reduceMul, Int.reduceToNat, Int.toNat_zero, Int.toNat_one, Int.toNat_natCast, am_cats, am_cat, am_st1, am_st2, am_clr, up2_na, up2_nj, up2_same, List.getElem?_cons_zero, List.getElem?_cons_succ, List.set_cons_zero, List.set_cons_succ, ne_eq, tk_0 hh, hS, sh, u1, hO _ v64, k214 v64, k214 b64, c1, c3, w32_s i2]
        by_cases c2 : ((btN (v + 1) : Nat) : Int) < ((btN b : Nat) : Int)
        · simp only [c2, Option.toList_some, Option.toList_none, List.cons_append, List.nil_append, Nat.le_refl, true_and, and_true, true_or, or_true, false_or, or_false, true_implies, false_implies, implies_true, not_true_eq_false, not_false_eq_true, eq_self, Nat.reduceLT, Nat.reduceLeDiff, Nat.reduceEqDiff, Nat.reduceAdd, Nat.reduceSub, Int.reduceLT, Int.reduceLE, Int.reduceEq, Int.reduceNeg, Int.reduceNe, Int.reduceAdd, Int.reduceSub, Int.reduceMul, Int.reduceToNat, Int.toNat_zero, Int.toNat_one, Int.toNat_natCast, am_cats, am_cat, am_st1, am_st2, am_clr, up2_na, up2_nj, up2_same, List.getElem?_cons_zero, List.getElem?_cons_succ, List.set_cons_zero, List.set_cons_succ, ne_eq]
          exact nx _ _
        · simp only [c2, Option.toList_some, Option.toList_none, List.cons_append, List.nil_append, Nat.le_refl, true_and, and_true, true_or, or_true, false_or, or_false, true_implies, false_implies, implies_true, not_true_eq_false, not_false_eq_true, eq_self, Nat.reduceLT, Nat.reduceLeDiff, Nat.reduceEqDiff, Nat.reduceAdd, Nat.reduceSub, Int.reduceLT, Int.reduceLE, Int.reduceEq, Int.reduceNeg, Int.reduceNe, Int.reduceAdd, Int.reduceSub, Int.reduceMul, Int.reduceToNat, Int.toNat_zero, Int.toNat_one, Int.toNat_natCast, am_cats, am_cat, am_st1, am_st2, am_clr, up2_na, up2_nj, up2_same, List.getElem?_cons_zero, List.getElem?_cons_succ, List.set_cons_zero, List.set_cons_succ, ne_eq]
          exact nx _ _
/-- reference: one set -/
theorem p190i (hh : hp T R) {N : Nat} (hN : I 152 4 = N) (N2 : N ≤ 200) {v : Nat} {w : Int} {D : Nat → Int} {l3 : Option AV} {l4 : Int} (hT : ∀ i, i < N → ∃ t : Nat, I 158 i = (t : Int) ∧ t < 8 ∧ dwF (I 155 t) (useB I t) (v : Int) = D t) (hQ : wp codeT mX (d + 2) 190 57 [some (.inr (.inr (some 152))), some (.inl (h : Int)), some (.inl w), l3, some (.inl l4), some (.inl (v : Int)), some (.inl (owM I h D N)), some (.inl (N : Int))] [] (185, s, T, I, J, R) Q) : ∀ (r i : Nat), i + r = N → wp codeT mX (d + 2) 190 27 [some (.inr (.inr (some 152))), some (.inl (h : Int)), some (.inl w), l3, some (.inl l4), some (.inl (v : Int)), some (.inl (owM I h D i)), some (.inl (i : Int))] [] (185, s, T, I, J, R) Q := by
  intro r
  induction r with
  | zero =>
    intro i hi
    have hi : i = N := by omega
    subst hi
    refine s190_27.mpr ?_
    simp only [s190_28, s190_29, s190_30, Option.toList_some, Option.toList_none, List.cons_append, List.nil_append, Nat.le_refl, true_and, and_true, true_or, or_true, false_or, or_false, true_implies, false_implies, implies_true, not_true_eq_false, not_false_eq_true, eq_self, Nat.reduceLT, Nat.reduceLeDiff, Nat.reduceEqDiff, Nat.reduceAdd, Nat.reduceSub, Int.reduceLT, Int.reduceLE, Int.reduceEq, Int.reduceNeg, Int.reduceNe, Int.reduceAdd, Int.reduceSub, Int.reduceMul, Int.reduceToNat, Int.toNat_zero, Int.toNat_one, Int.toNat_natCast, am_cats, am_cat, am_st1, am_st2, am_clr, up2_na, up2_nj, up2_same, List.getElem?_cons_zero, List.getElem?_cons_succ, List.set_cons_zero, List.set_cons_succ, ne_eq, tk_152 hh, hN, Int.lt_irrefl]
    exact hQ
  | succ r ih =>
    intro i hi
    have iN : i < N := by omega
    have nx := ih (i + 1) (by omega)
    rw [owM] at nx
    obtain ⟨t, e8, t8, eD⟩ := hT i iN
    have et : (I 158 i).toNat = t := by rw [e8]; exact Int.toNat_natCast t
    rw [et] at nx
    have bb := owM_b I h D i
    have u1 : (i : Int) < (N : Int) := by omega
    have u2 : 0 ≤ (i : Int) ∧ (i : Int) < ((200 : Nat) : Int) := by omega
    have i2 : i ≤ 1080 := by omega
    have w0 : w32 (owM I h D i + 0) = owM I h D i + 0 := w32_eq (by omega) (by omega)
    have w1 : w32 (owM I h D i + 1) = owM I h D i + 1 := w32_eq (by clear w0; omega) (by clear w0; omega)
    refine s190_27.mpr ?_
    by_cases z1 : I 157 i = h
    · by_cases z2 : I 160 i = D t
      · rw [if_neg (fun q => q.2 z2)] at nx
        simp only [s190_28, s190_29, s190_30, s190_31, s190_32, s190_33, s190_34, s190_35, s190_36, s190_37, s190_38, s190_39, s190_40, s190_41, s190_42, s190_43, s190_44, s190_45, s190_46, s190_47, s190_48, s190_49, s190_50, s190_51, s190_52, s190_53, s190_54, s190_55, s190_56, Option.toList_some, Option.toList_none, List.cons_append, List.nil_append, Nat.le_refl, true_and, and_true, true_or, or_true, false_or, or_false, true_implies, false_implies, implies_true, not_true_eq_false, not_false_eq_true, eq_self, Nat.reduceLT, Nat.reduceLeDiff, Nat.reduceEqDiff, Nat.reduceAdd, Nat.reduceSub, Int.reduceLT, Int.reduceLE, Int.reduceEq, Int.reduceNeg, Int.reduceNe, Int.reduceAdd, Int.reduceSub, Int.reduceMul, Int.reduceToNat, Int.toNat_zero, Int.toNat_one, Int.toNat_natCast, am_cats, am_cat, am_st1, am_st2, am_clr, up2_na, up2_nj, up2_same, List.getElem?_cons_zero, List.getElem?_cons_succ, List.set_cons_zero, List.set_cons_succ, ne_eq, tk_152 hh, tk_157 hh, tk_158 hh, tk_160 hh, rk_152_11 hh, rk_152_12 hh, rk_152_14 hh, k191 hh t8, hN, e8, eD, z1, z2, u1, u2, w0, w1, w32_s i2]
        exact nx
      · rw [if_pos ⟨z1, z2⟩] at nx
        simp only [s190_28, s190_29, s190_30, s190_31, s190_32, s190_33, s190_34, s190_35, s190_36, s190_37, s190_38, s190_39, s190_40, s190_41, s190_42, s190_43, s190_44, s190_45, s190_46, s190_47, s190_48, s190_49, s190_50, s190_51, s190_52, s190_53, s190_54, s190_55, s190_56, Option.toList_some, Option.toList_none, List.cons_append, List.nil_append, Nat.le_refl, true_and, and_true, true_or, or_true, false_or, or_false, true_implies, false_implies, implies_true, not_true_eq_false, not_false_eq_true, eq_self, Nat.reduceLT, Nat.reduceLeDiff, Nat.reduceEqDiff, Nat.reduceAdd, Nat.reduceSub, Int.reduceLT, Int.reduceLE, Int.reduceEq, Int.reduceNeg, Int.reduceNe, Int.reduceAdd, Int.reduceSub, Int.reduceMul, Int.reduceToNat, Int.toNat_zero, Int.toNat_one, Int.toNat_natCast, am_cats, am_cat, am_st1, am_st2, am_clr, up2_na, up2_nj, up2_same, List.getElem?_cons_zero, List.getElem?_cons_succ, List.set_cons_zero, List.set_cons_succ, ne_eq, tk_152 hh, tk_157 hh, tk_158 hh, tk_160 hh, rk_152_11 hh, rk_152_12 hh, rk_152_14 hh, k191 hh t8, hN, e8, eD, z1, z2, u1, u2, w0, w1, w32_s i2]
        exact nx
    · rw [if_neg (fun q => z1 q.1)] at nx
      simp only [s190_28, s190_29, s190_30, s190_31, s190_32, s190_33, s190_34, s190_35, s190_36, s190_37, s190_38, s190_39, s190_40, s190_41, s190_42, s190_43, s190_44, s190_45, s190_46, s190_47, s190_48, s190_49, s190_50, s190_51, s190_52, s190_53, s190_54, s190_55, s190_56, Option.toList_some, Option.toList_none, List.cons_append, List.nil_append, Nat.le_refl, true_and, and_true, true_or, or_true, false_or, or_false, true_implies, false_implies, implies_true, not_true_eq_false, not_false_eq_true, eq_self, Nat.reduceLT, Nat.reduceLeDiff, Nat.reduceEqDiff, Nat.reduceAdd, Nat.reduceSub, Int.reduceLT, Int.reduceLE, Int.reduceEq, Int.reduceNeg, Int.reduceNe, Int.reduceAdd, Int.reduceSub, Int.reduceMul, Int.reduceToNat, Int.toNat_zero, Int.toNat_one, Int.toNat_natCast, am_cats, am_cat, am_st1, am_st2, am_clr, up2_na, up2_nj, up2_same, List.getElem?_cons_zero, List.getElem?_cons_succ, List.set_cons_zero, List.set_cons_succ, ne_eq, tk_152 hh, tk_157 hh, rk_152_11 hh, hN, z1, u1, u2, w0, w1, w32_s i2]
      exact nx
theorem p190s (hh : hp T R) {S : Nat} (S6 : S ≤ 6) (hS : I 152 1 = S) {N : Nat} (hN : I 152 4 = N) (N2 : N ≤ 200) {w l : Int} {v b : Nat} (hv : v < 2 ^ S) (b64 : b < 64) {D : Nat → Int} {l6 l7 : Option AV} (hT : ∀ i, i < N → ∃ t : Nat, I 158 i = (t : Int) ∧ t < 8 ∧ dwF (I 155 t) (useB I t) (v : Int) = D t) (y : owM I h D N < l ∨ owM I h D N = l ∧ btN v < btN b → wp codeT mX (d + 2) 190 17 [some (.inr (.inr (some 152))), some (.inl (h : Int)), some (.inl w), some (.inl (v : Int)), some (.inl (owM I h D N)), some (.inl ((v + 1 : Nat) : Int)), some (.inl (owM I h D N)), some (.inl (N : Int))] [] (185, s, T, I, J, R) Q) (n : ¬ (owM I h D N < l ∨ owM I h D N = l ∧ btN v < btN b) → wp codeT mX (d + 2) 190 17 [some (.inr (.inr (some 152))), some (.inl (h : Int)), some (.inl w), some (.inl (b : Int)), some (.inl l), some (.inl ((v + 1 : Nat) : Int)), some (.inl (owM I h D N)), some (.inl (N : Int))] [] (185, s, T, I, J, R) Q) : wp codeT mX (d + 2) 190 17 [some (.inr (.inr (some 152))), some (.inl (h : Int)), some (.inl w), some (.inl (b : Int)), some (.inl l), some (.inl (v : Int)), l6, l7] [] (185, s, T, I, J, R) Q := by
  have sh := shl1_all S (by omega)
  have p6 : 2 ^ S ≤ 64 := Nat.le_trans (Nat.pow_le_pow_right (by decide) S6) (by decide)
  have v64 : v < 64 := by omega
  have i2 : v ≤ 1080 := by omega
  have u1 : (v : Int) < 2 ^ S := by
    have : ((2 ^ S : Nat) : Int) = 2 ^ S := by rw [Int.natCast_pow]; rfl
    omega
  have tail : wp codeT mX (d + 2) 190 57 [some (.inr (.inr (some 152))), some (.inl (h : Int)), some (.inl w), some (.inl (b : Int)), some (.inl l), some (.inl (v : Int)), some (.inl (owM I h D N)), some (.inl (N : Int))] [] (185, s, T, I, J, R) Q := by
    refine s190_57.mpr ?_
    generalize owM I h D N = o at *
    by_cases c1 : o < l
    · have y := y (Or.inl c1)
      have c0 : ¬ l < o := by omega
      have c2 : ¬ o = l := by omega
      simp only [s190_58, s190_59, s190_60, s190_61, s190_62, s190_63, s190_64, s190_65, s190_66, s190_67, s190_68, s190_69, s190_70, s190_71, s190_72, s190_73, s190_74, Option.toList_some, Option.toList_none, List.cons_append, List.nil_append, Nat.le_refl, true_and, and_true, true_or, or_true, false_or, or_false, true_implies, false_implies, implies_true, not_true_eq_false, not_false_eq_true, eq_self, Nat.reduceLT, Nat.reduceLeDiff, Nat.reduceEqDiff, Nat.reduceAdd, Nat.reduceSub, Int.reduceLT, Int.reduceLE, Int.reduceEq, Int.reduceNeg, Int.reduceNe, Int.reduceAdd, Int.reduceSub, Int.reduceMul, Int.reduceToNat, Int.toNat_zero, Int.toNat_one, Int.toNat_natCast, am_cats, am_cat, am_st1, am_st2, am_clr, up2_na, up2_nj, up2_same, List.getElem?_cons_zero, List.getElem?_cons_succ, List.set_cons_zero, List.set_cons_succ, ne_eq, c0, c2, w32_s i2]
      exact y
    · by_cases c2 : o = l
      · have c0 : ¬ l < o := by omega
        by_cases c3 : btN v < btN b
        · have y := y (Or.inr ⟨c2, c3⟩)
          have c3' : ((btN v : Nat) : Int) < ((btN b : Nat) : Int) := by omega
          rw [c2] at y
          simp only [s190_58, s190_59, s190_60, s190_61, s190_62, s190_63, s190_64, s190_65, s190_66, s190_67, s190_68, s190_69, s190_70, s190_71, s190_72, s190_73, s190_74, Option.toList_some, Option.toList_none, List.cons_append, List.nil_append, Nat.le_refl, true_and, and_true, true_or, or_true, false_or, or_false, true_implies, false_implies, implies_true, not_true_eq_false, not_false_eq_true, eq_self, Nat.reduceLT, Nat.reduceLeDiff, Nat.reduceEqDiff, Nat.reduceAdd, Nat.reduceSub, Int.reduceLT, Int.reduceLE, Int.reduceEq, Int.reduceNeg, Int.reduceNe, Int.reduceAdd, Int.reduceSub, Int.reduceMul, Int.reduceToNat, Int.toNat_zero, Int.toNat_one, Int.toNat_natCast, am_cats, am_cat, am_st1, am_st2, am_clr, up2_na, up2_nj, up2_same, List.getElem?_cons_zero, List.getElem?_cons_succ, List.set_cons_zero, List.set_cons_succ, ne_eq, k193 v64, k193 b64, c2, c3', Int.lt_irrefl, w32_s i2]
          exact y
        · have n := n (fun q => q.elim c1 (fun q => c3 q.2))
          have c3' : ¬ ((btN v : Nat) : Int) < ((btN b : Nat) : Int) := by omega
          rw [c2] at n
          simp only [s190_58, s190_59, s190_60, s190_61, s190_62, s190_63, s190_64, s190_65, s190_66, s190_67, s190_68, s190_69, s190_70, s190_71, s190_72, s190_73, s190_74, Option.toList_some, Option.toList_none, List.cons_append, List.nil_append, Nat.le_refl, true_and, and_true, true_or, or_true, false_or, or_false, true_implies, false_implies, implies_true, not_true_eq_false, not_false_eq_true, eq_self, Nat.reduceLT, Nat.reduceLeDiff, Nat.reduceEqDiff, Nat.reduceAdd, Nat.reduceSub, Int.reduceLT, Int.reduceLE, Int.reduceEq, Int.reduceNeg, Int.reduceNe, Int.reduceAdd, Int.reduceSub, Int.reduceMul, Int.reduceToNat, Int.toNat_zero, Int.toNat_one, Int.toNat_natCast, am_cats, am_cat, am_st1, am_st2, am_clr, up2_na, up2_nj, up2_same, List.getElem?_cons_zero, List.getElem?_cons_succ, List.set_cons_zero, List.set_cons_succ, ne_eq, k193 v64, k193 b64, c2, c3', Int.lt_irrefl, w32_s i2]
          exact n
      · have n := n (fun q => q.elim c1 (fun q => c2 q.1))
        have c0 : l < o := by omega
        simp only [s190_58, s190_59, s190_60, s190_61, s190_62, s190_63, s190_64, s190_65, s190_66, s190_67, s190_68, s190_69, s190_70, s190_71, s190_72, s190_73, s190_74, Option.toList_some, Option.toList_none, List.cons_append, List.nil_append, Nat.le_refl, true_and, and_true, true_or, or_true, false_or, or_false, true_implies, false_implies, implies_true, not_true_eq_false, not_false_eq_true, eq_self, Nat.reduceLT, Nat.reduceLeDiff, Nat.reduceEqDiff, Nat.reduceAdd, Nat.reduceSub, Int.reduceLT, Int.reduceLE, Int.reduceEq, Int.reduceNeg, Int.reduceNe, Int.reduceAdd, Int.reduceSub, Int.reduceMul, Int.reduceToNat, Int.toNat_zero, Int.toNat_one, Int.toNat_natCast, am_cats, am_cat, am_st1, am_st2, am_clr, up2_na, up2_nj, up2_same, List.getElem?_cons_zero, List.getElem?_cons_succ, List.set_cons_zero, List.set_cons_succ, ne_eq, c0, w32_s i2]
        exact n
  have go := p190i (d := d) (s := s) (J := J) (Q := Q) (w := w) (l3 := some (.inl (b : Int))) (l4 := l) hh hN N2 hT tail N 0 (Nat.zero_add _)
  refine s190_17.mpr ?_
  simp only [s190_18, s190_19, s190_20, s190_21, s190_22, s190_23, s190_24, s190_25, s190_26, Option.toList_some, Option.toList_none, List.cons_append, List.nil_append, Nat.le_refl, true_and, and_true, true_or, or_true, false_or, or_false, true_implies, false_implies, implies_true, not_true_eq_false, not_false_eq_true, eq_self, Nat.reduceLT, Nat.reduceLeDiff, Nat.reduceEqDiff, Nat.reduceAdd, Nat.reduceSub, Int.reduceLT, Int.reduceLE, Int.reduceEq, Int.reduceNeg, Int.reduceNe, Int.reduceAdd, Int.reduceSub, Int.reduceMul, Int.reduceToNat, Int.toNat_zero, Int.toNat_one, Int.toNat_natCast, am_cats, am_cat, am_st1, am_st2, am_clr, up2_na, up2_nj, up2_same, List.getElem?_cons_zero, List.getElem?_cons_succ, List.set_cons_zero, List.set_cons_succ, ne_eq, tk_152 hh, hS, sh, u1]
  exact go
theorem p190 (hh : hp T R) {S : Nat} (S6 : S ≤ 6) (hS : I 152 1 = S) {N : Nat} (hN : I 152 4 = N) (N2 : N ≤ 200) {w : Int} {D : Nat → Nat → Int} {O : Nat → Int} (hT : ∀ v : Nat, v < 64 → ∀ i, i < N → ∃ t : Nat, I 158 i = (t : Int) ∧ t < 8 ∧ dwF (I 155 t) (useB I t) (v : Int) = D v t) (hO : ∀ v, v < 64 → owM I h (D v) N = O v) (hQ : Q (some (.inl (if w = 0 then ((blF O (2 ^ S - 1)).1 : Int) else (blF O (2 ^ S - 1)).2))) (185, s, T, I, J, R)) : ∀ (r v : Nat), v + 1 + r = 2 ^ S → ∀ l6 l7, wp codeT mX (d + 2) 190 17 [some (.inr (.inr (some 152))), some (.inl (h : Int)), some (.inl w), some (.inl ((blF O v).1 : Int)), some (.inl (blF O v).2), some (.inl ((v + 1 : Nat) : Int)), l6, l7] [] (185, s, T, I, J, R) Q := by
  have sh := shl1_all S (by omega)
  have p6 : 2 ^ S ≤ 64 := Nat.le_trans (Nat.pow_le_pow_right (by decide) S6) (by decide)
  intro r
  induction r with
  | zero =>
    intro v hv l6 l7
    have hv : v = 2 ^ S - 1 := by omega
    subst hv
    have u1 : ¬ ((2 ^ S - 1 + 1 : Nat) : Int) < 2 ^ S := by
      have : ((2 ^ S : Nat) : Int) = 2 ^ S := by rw [Int.natCast_pow]; rfl
      omega
    refine s190_17.mpr ?_
    by_cases w0 : w = 0
    · rw [if_pos w0] at hQ
      simp only [s190_18, s190_19, s190_20, s190_21, s190_22, s190_75, s190_76, s190_77, s190_78, s190_79, s190_80, Option.toList_some, Option.toList_none, List.cons_append, List.nil_append, Nat.le_refl, true_and, and_true, true_or, or_true, false_or, or_false, true_implies, false_implies, implies_true, not_true_eq_false, not_false_eq_true, eq_self, Nat.reduceLT, Nat.reduceLeDiff, Nat.reduceEqDiff, Nat.reduceAdd, Nat.reduceSub, Int.reduceLT, Int.reduceLE, Int.reduceEq, Int.reduceNeg, Int.reduceNe, Int.reduceAdd, Int.reduceSub, Int.reduceMul, Int.reduceToNat, Int.toNat_zero, Int.toNat_one, Int.toNat_natCast, am_cats, am_cat, am_st1, am_st2, am_clr, up2_na, up2_nj, up2_same, List.getElem?_cons_zero, List.getElem?_cons_succ, List.set_cons_zero, List.set_cons_succ, ne_eq, tk_152 hh, hS, sh, u1, w0]
      exact hQ
    · rw [if_neg w0] at hQ
      simp only [s190_18, s190_19, s190_20, s190_21, s190_22, s190_75, s190_76, s190_77, s190_78, s190_79, s190_80, Option.toList_some, Option.toList_none, List.cons_append, List.nil_append, Nat.le_refl, true_and, and_true, true_or, or_true, false_or, or_false, true_implies, false_implies, implies_true, not_true_eq_false, not_false_eq_true, eq_self, Nat.reduceLT, Nat.reduceLeDiff, Nat.reduceEqDiff, Nat.reduceAdd, Nat.reduceSub, Int.reduceLT, Int.reduceLE, Int.reduceEq, Int.reduceNeg, Int.reduceNe, Int.reduceAdd, Int.reduceSub, Int.reduceMul, Int.reduceToNat, Int.toNat_zero, Int.toNat_one, Int.toNat_natCast, am_cats, am_cat, am_st1, am_st2, am_clr, up2_na, up2_nj, up2_same, List.getElem?_cons_zero, List.getElem?_cons_succ, List.set_cons_zero, List.set_cons_succ, ne_eq, tk_152 hh, hS, sh, u1, w0]
      exact hQ
  | succ r ih =>
    intro v hv l6 l7
    have b64 : (blF O v).1 < 64 := by have := blF_le O v; omega
    have v64 : v + 1 < 64 := by omega
    have nx := fun l6 l7 => ih (v + 1) (by omega) l6 l7
    rw [blF] at nx
    have eo := hO (v + 1) v64
    refine p190s hh S6 hS hN N2 (by omega) b64 (hT (v + 1) v64) (fun q => ?_) (fun q => ?_)
    · rw [eo] at q ⊢
      rw [if_pos q] at nx
      exact nx _ _
    · rw [eo] at q ⊢
      rw [if_neg q] at nx
      exact nx _ _
end
section
variable {L s d : Nat} {X : Nat → Int}
set_option maxHeartbeats 1000000 in
theorem px_lacks0 (hL : L ≤ 3072) (hX : ∀ j, rg32 (X j)) (hd : 40 ≤ d) : prx L X s LAV (fun _ => True) d 100 190 2 false true := by
  refine px_eq (cx := cn110) (cm := cn160) (nx := 5) (nm := 5) hL hX (cn_all 110 (by decide) cn110 rfl) (cn_all 160 (by decide) cn160 rfl) rfl hd (fun as s T I J R hl hr hH hP => ?_)
  obtain ⟨a, b, rfl⟩ := len2 hl
  obtain ⟨e, rfl⟩ : ∃ e, d = e + 2 := ⟨d - 2, by omega⟩
  have hh := hp_of (eH5_of hH)
  obtain ⟨⟨hK, ⟨⟨-, hG, hPP⟩, -⟩, -⟩, hV0⟩ := hP
  have hK : LK I := hK
  have hG : lkG I := hG
  have hPP : lkP I := hPP
  have hV0 : lkV I := hV0
  obtain ⟨l0, l1, l2, l3, l4, l5, l6, l7, l8, l9, l10, l11, l12, -⟩ := hK
  have e1 : I 0 1 = I 152 1 := l1
  have e2 : I 0 2 = I 152 2 := l2
  have e3 : I 3 3 = I 152 3 := l5
  have e4 : I 17 3 = I 152 4 := l6
  have b1 : 0 ≤ I 0 1 ∧ I 0 1 ≤ 6 := ebd hH (by decide) (by decide) (by decide)
  have b2 : 0 ≤ I 0 2 ∧ I 0 2 ≤ 6 := ebd hH (by decide) (by decide) (by decide)
  have b3 : 0 ≤ I 3 3 ∧ I 3 3 ≤ 8 := ebd hH (by decide) (by decide) (by decide)
  have b4 : 0 ≤ I 17 3 ∧ I 17 3 ≤ 200 := ebd hH (by decide) (by decide) (by decide)
  obtain ⟨N, hN⟩ : ∃ n : Nat, I 17 3 = n := ⟨(I 17 3).toNat, by omega⟩
  obtain ⟨S, hS⟩ : ∃ n : Nat, I 0 1 = n := ⟨(I 0 1).toNat, by omega⟩
  obtain ⟨K, hKK⟩ : ∃ n : Nat, I 3 3 = n := ⟨(I 3 3).toNat, by omega⟩
  have N2 : N ≤ 200 := by omega
  have S6 : S ≤ 6 := by omega
  have K8 : K ≤ 8 := by omega
  show ∃ a' : Int, wpc codeT mX (e + 2) 100 [.inr (.inr (some 0)), .inl a, .inl b] (185, s, T, I, J, R) (fun v g1 => v = some (ansV false a') ∧ (eH g1 → eM cn110.2.2.2.1 (185, s, T, I, J, R) g1 → wpc codeT mX (e + 2) 190 [.inr (.inr (some 152)), .inl a, .inl b] g1 (fun v2 _ => v2 = some (ansV false a'))))
  by_cases g1 : 0 ≤ a ∧ a < I 0 2
  · have g1' : 0 ≤ a ∧ a < I 152 2 := by omega
    by_cases g2 : 0 ≤ b ∧ b ≤ 1
    · obtain ⟨h, rfl⟩ : ∃ k : Nat, a = (k : Int) := ⟨a.toNat, by omega⟩
      have h6 : h < 6 := by omega
      have hI : ∀ j, j < N → 0 ≤ I 160 j ∧ I 160 j ≤ 1 := fun j hj => ebd hH (by decide) (by show j < 200; omega) ((bI_hi (by decide)).trans (by decide))
      have c8 : ∀ i, i < N → ∃ t : Nat, I 158 i = (t : Int) ∧ t < K := by
        intro i hi
        have x8 : 0 ≤ I 158 i ∧ I 158 i ≤ 7 := ebd hH (by decide) (by show i < 200; omega) ((bI_hi (by decide)).trans (by decide))
        have := hV0 i (by omega)
        exact ⟨(I 158 i).toNat, by omega, by omega⟩
      obtain ⟨D, hD⟩ : ∃ D : Nat → Nat → Int, D = fun (v t : Nat) => dwF (I 155 t) (useB I t) (v : Int) := ⟨_, rfl⟩
      obtain ⟨O, hO⟩ : ∃ O : Nat → Int, O = fun v => owM I h (D v) N := ⟨_, rfl⟩
      have d01 : ∀ v t, D v t = 0 ∨ D v t = 1 := fun v t => by rw [hD]; exact dwF_01 _ _ _
      have eq : ∀ v, swf (fun t => if D v t = 0 then rgt I h t N else mny I h t N - rgt I h t N) K = O v := fun v => by
        rw [hO]
        exact ow_eq (d01 v) c8 (fun i hi => by have := hI i hi; omega) N (Nat.le_refl _)
      have k1 : ∀ v : Nat, v < 64 → ∀ Q : Option AV → AH → Prop, wpc codeT mX (e + 1) 101 [.inr (.inr (some 0)), .inl (h : Int), .inl (v : Int)] (185, s, T, I, J, R) Q ↔ Q (some (.inl (O v))) (185, s, T, I, J, R) := by
        intro v hv Q
        have := k101 (d := e) (s := s) (J := J) (Q := Q) (v := (v : Int)) (D := D v) (A := fun t => rgt I h t N) (B := fun t => mny I h t N) hh h6 hKK K8 (fun t ht => by
          obtain ⟨ta, -, -, -, -, -, tu, -⟩ := l11.1 t (by omega) (by omega)
          rw [hD, ta, tu]) (fun t ht => hG N hN h t h6 (by omega)) (fun t ht => ((hPP N hN h h6).2 t (by omega)).1) (fun t ht => by
          have r1 := rgt_bd (N := N) hI h t N (Nat.le_refl _)
          have r2 := mny_bd I h t N
          exact ⟨r1.1, r1.2, by omega⟩)
        rw [eq] at this
        exact this
      have p1 : 1 ≤ 2 ^ S := Nat.one_le_two_pow
      refine ⟨if b = 0 then ((blF O (2 ^ S - 1)).1 : Int) else (blF O (2 ^ S - 1)).2, ?_⟩
      have go := p100 (d := e) (s := s) (J := J) (w := b) (Q := fun v g1 => v = some (ansV false (if b = 0 then ((blF O (2 ^ S - 1)).1 : Int) else (blF O (2 ^ S - 1)).2)) ∧ (eH g1 → eM cn110.2.2.2.1 (185, s, T, I, J, R) g1 → wpc codeT mX (e + 2) 190 [.inr (.inr (some 152)), .inl (h : Int), .inl b] g1 (fun v2 _ => v2 = some (ansV false (if b = 0 then ((blF O (2 ^ S - 1)).1 : Int) else (blF O (2 ^ S - 1)).2))))) hh S6 hS k1 ⟨rfl, fun _ _ => by
        have hT : ∀ v : Nat, v < 64 → ∀ i, i < N → ∃ t : Nat, I 158 i = (t : Int) ∧ t < 8 ∧ dwF (I 155 t) (useB I t) (v : Int) = D v t := fun v _ i hi => by
          obtain ⟨t, q1, q2⟩ := c8 i hi
          exact ⟨t, q1, by omega, by rw [hD]⟩
        have rf := fun l6 l7 => p190 (d := e) (s := s) (J := J) (w := b) (h := h) (D := D) (O := O) (Q := fun v2 _ => v2 = some (ansV false (if b = 0 then ((blF O (2 ^ S - 1)).1 : Int) else (blF O (2 ^ S - 1)).2))) hh S6 (e1.symm.trans hS) (e4.symm.trans hN) N2 hT (fun v _ => by rw [hO]) rfl (2 ^ S - 1) 0 (by omega) l6 l7
        have r0 := fun l6 l7 => p190s (d := e) (s := s) (J := J) (w := b) (h := h) (b := 0) (l := 201) (v := 0) (l6 := l6) (l7 := l7) (D := D 0) (Q := fun v2 _ => v2 = some (ansV false (if b = 0 then ((blF O (2 ^ S - 1)).1 : Int) else (blF O (2 ^ S - 1)).2))) hh S6 (e1.symm.trans hS) (e4.symm.trans hN) N2 (by omega) (by decide) (hT 0 (by decide)) (fun _ => by
          have eo : owM I h (D 0) N = O 0 := by rw [hO]
          have := rf (some (.inl (O 0))) (some (.inl (N : Int)))
          rw [eo]
          exact this) (fun q => by
          have := owM_b I h (D 0) N
          exact absurd (Or.inl (by omega)) q)
        have r0 : ∀ l6 l7, wp codeT mX (e + 2) 190 17 [some (.inr (.inr (some 152))), some (.inl (h : Int)), some (.inl b), some (.inl 0), some (.inl 201), some (.inl 0), l6, l7] [] (185, s, T, I, J, R) (fun v2 _ => v2 = some (ansV false (if b = 0 then ((blF O (2 ^ S - 1)).1 : Int) else (blF O (2 ^ S - 1)).2))) := r0
        simp only [s190_0, s190_1, s190_2, s190_3, s190_4, s190_5, s190_6, s190_7, s190_8, s190_9, s190_10, s190_11, s190_12, s190_13, s190_14, s190_15, s190_16, e190, Option.toList_some, Option.toList_none, List.cons_append, List.nil_append, Nat.le_refl, true_and, and_true, true_or, or_true, false_or, or_false, true_implies, false_implies, implies_true, not_true_eq_false, not_false_eq_true, eq_self, Nat.reduceLT, Nat.reduceLeDiff, Nat.reduceEqDiff, Nat.reduceAdd, Nat.reduceSub, Int.reduceLT, Int.reduceLE, Int.reduceEq, Int.reduceNeg, Int.reduceNe, Int.reduceAdd, Int.reduceSub, Int.reduceMul, Int.reduceToNat, Int.toNat_zero, Int.toNat_one, Int.toNat_natCast, am_cats, am_cat, am_st1, am_st2, am_clr, up2_na, up2_nj, up2_same, List.getElem?_cons_zero, List.getElem?_cons_succ, List.set_cons_zero, List.set_cons_succ, ne_eq, tk_152 hh, k134 hh, k136, i10, g1', g2]
        exact r0 none none⟩ (2 ^ S - 1) 0 (by omega)
      have go : ∀ l6 l7, wp codeT mX (e + 2) 100 20 [some (.inr (.inr (some 0))), some (.inl (h : Int)), some (.inl b), some (.inl 0), some (.inl (O 0)), some (.inl 1), l6, l7] [] (185, s, T, I, J, R) _ := go
      have k10 := fun Q => k1 0 (by decide) Q
      rw [Int.natCast_zero] at k10
      simp only [s100_0, s100_1, s100_2, s100_3, s100_4, s100_5, s100_6, s100_7, s100_8, s100_9, s100_10, s100_11, s100_12, s100_13, s100_14, s100_15, s100_16, s100_17, s100_18, s100_19, e100, Option.toList_some, Option.toList_none, List.cons_append, List.nil_append, Nat.le_refl, true_and, and_true, true_or, or_true, false_or, or_false, true_implies, false_implies, implies_true, not_true_eq_false, not_false_eq_true, eq_self, Nat.reduceLT, Nat.reduceLeDiff, Nat.reduceEqDiff, Nat.reduceAdd, Nat.reduceSub, Int.reduceLT, Int.reduceLE, Int.reduceEq, Int.reduceNeg, Int.reduceNe, Int.reduceAdd, Int.reduceSub, Int.reduceMul, Int.reduceToNat, Int.toNat_zero, Int.toNat_one, Int.toNat_natCast, am_cats, am_cat, am_st1, am_st2, am_clr, up2_na, up2_nj, up2_same, List.getElem?_cons_zero, List.getElem?_cons_succ, List.set_cons_zero, List.set_cons_succ, ne_eq, tk_0 hh, k16 hh, k18, k10, i10, g1, g2]
      exact go none none
    · refine ⟨-1, ?_⟩
      simp only [s100_0, s100_1, s100_2, s100_3, s100_4, s100_5, s100_6, s100_7, s100_8, s100_9, s100_10, e100, Option.toList_some, Option.toList_none, List.cons_append, List.nil_append, Nat.le_refl, true_and, and_true, true_or, or_true, false_or, or_false, true_implies, false_implies, implies_true, not_true_eq_false, not_false_eq_true, eq_self, Nat.reduceLT, Nat.reduceLeDiff, Nat.reduceEqDiff, Nat.reduceAdd, Nat.reduceSub, Int.reduceLT, Int.reduceLE, Int.reduceEq, Int.reduceNeg, Int.reduceNe, Int.reduceAdd, Int.reduceSub, Int.reduceMul, Int.reduceToNat, Int.toNat_zero, Int.toNat_one, Int.toNat_natCast, am_cats, am_cat, am_st1, am_st2, am_clr, up2_na, up2_nj, up2_same, List.getElem?_cons_zero, List.getElem?_cons_succ, List.set_cons_zero, List.set_cons_succ, ne_eq, tk_0 hh, k16 hh, k18, i10, g1, g2]
      refine ⟨rfl, fun _ _ => ?_⟩
      simp only [s190_0, s190_1, s190_2, s190_3, s190_4, s190_5, s190_6, s190_7, s190_8, s190_9, s190_10, e190, Option.toList_some, Option.toList_none, List.cons_append, List.nil_append, Nat.le_refl, true_and, and_true, true_or, or_true, false_or, or_false, true_implies, false_implies, implies_true, not_true_eq_false, not_false_eq_true, eq_self, Nat.reduceLT, Nat.reduceLeDiff, Nat.reduceEqDiff, Nat.reduceAdd, Nat.reduceSub, Int.reduceLT, Int.reduceLE, Int.reduceEq, Int.reduceNeg, Int.reduceNe, Int.reduceAdd, Int.reduceSub, Int.reduceMul, Int.reduceToNat, Int.toNat_zero, Int.toNat_one, Int.toNat_natCast, am_cats, am_cat, am_st1, am_st2, am_clr, up2_na, up2_nj, up2_same, List.getElem?_cons_zero, List.getElem?_cons_succ, List.set_cons_zero, List.set_cons_succ, ne_eq, tk_152 hh, k134 hh, k136, i10, g1', g2]
      rfl
  · have g1' : ¬ (0 ≤ a ∧ a < I 152 2) := by omega
    refine ⟨-1, ?_⟩
    simp only [s100_0, s100_1, s100_2, s100_3, s100_4, s100_5, s100_6, s100_7, s100_8, s100_9, s100_10, e100, Option.toList_some, Option.toList_none, List.cons_append, List.nil_append, Nat.le_refl, true_and, and_true, true_or, or_true, false_or, or_false, true_implies, false_implies, implies_true, not_true_eq_false, not_false_eq_true, eq_self, Nat.reduceLT, Nat.reduceLeDiff, Nat.reduceEqDiff, Nat.reduceAdd, Nat.reduceSub, Int.reduceLT, Int.reduceLE, Int.reduceEq, Int.reduceNeg, Int.reduceNe, Int.reduceAdd, Int.reduceSub, Int.reduceMul, Int.reduceToNat, Int.toNat_zero, Int.toNat_one, Int.toNat_natCast, am_cats, am_cat, am_st1, am_st2, am_clr, up2_na, up2_nj, up2_same, List.getElem?_cons_zero, List.getElem?_cons_succ, List.set_cons_zero, List.set_cons_succ, ne_eq, tk_0 hh, k16 hh, i10, g1]
    refine ⟨rfl, fun _ _ => ?_⟩
    simp only [s190_0, s190_1, s190_2, s190_3, s190_4, s190_5, s190_6, s190_7, s190_8, s190_9, s190_10, e190, Option.toList_some, Option.toList_none, List.cons_append, List.nil_append, Nat.le_refl, true_and, and_true, true_or, or_true, false_or, or_false, true_implies, false_implies, implies_true, not_true_eq_false, not_false_eq_true, eq_self, Nat.reduceLT, Nat.reduceLeDiff, Nat.reduceEqDiff, Nat.reduceAdd, Nat.reduceSub, Int.reduceLT, Int.reduceLE, Int.reduceEq, Int.reduceNeg, Int.reduceNe, Int.reduceAdd, Int.reduceSub, Int.reduceMul, Int.reduceToNat, Int.toNat_zero, Int.toNat_one, Int.toNat_natCast, am_cats, am_cat, am_st1, am_st2, am_clr, up2_na, up2_nj, up2_same, List.getElem?_cons_zero, List.getElem?_cons_succ, List.set_cons_zero, List.set_cons_succ, ne_eq, tk_152 hh, k134 hh, i10, g1']
    rfl
theorem pv_lacks (hL : L ≤ 3072) (hX : ∀ j, rg32 (X j)) (hd : 40 ≤ d) : prx L X s LAV (fun g => lkV g.2.2.2.1) d 100 190 2 false true := px_true (pv_fr (cx := cn110) (cm := cn160) (nx := 5) (nm := 5) hL hX (cn_all 110 (by decide) cn110 rfl) (cn_all 160 (by decide) cn160 rfl) rfl rfl hd (by decide +kernel)) (px_lacks0 hL hX hd)
end
