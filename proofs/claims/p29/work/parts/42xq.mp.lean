/-! the law's two readers, 25: check answers alike -/
theorem ckX_s {A : Nat → Nat → Int} {n j c r : Nat} (hc : c < 4) (hj : (j : Int) < A 17 3) : ckX A n (r + 1) (4 * j + c) = if A (19 + c) j = nbX A (4 * j + c) then ckX A n r (4 * j + c + 1) else ((4 * j + c : Nat) : Int) := by
  rw [ckX, show (4 * j + c) / 4 = j by omega, show (4 * j + c) % 4 = c by omega, if_neg (by omega)]
theorem ck_eq {A B : Nat → Nat → Int} {n N : Nat} (hN : A 17 3 = N) (hc : ∀ j, j < N → ∀ c, c < 4 → A (19 + c) j = B (157 + c) j) (ht : ∀ p, p < 4 * n → nbX A p = nbM B p) : ∀ (r j : Nat), j + r = N → j ≤ n → ckX A n (4 * n - 4 * j) (4 * j) = ckM B n r j
  | 0, j, hj, hn => by
    have hj : j = N := by omega
    subst hj
    rw [ckM]
    by_cases z : j < n
    · obtain ⟨r, hr⟩ : ∃ r, 4 * n - 4 * j = r + 1 := ⟨4 * n - 4 * j - 1, by omega⟩
      rw [hr, ckX, if_pos (by rw [hN]; omega), if_pos (by omega)]
    · rw [show 4 * n - 4 * j = 0 by omega, ckX, if_neg (by rw [hN]; omega), if_neg (by omega)]
  | r + 1, j, hj, hn => by
    rw [ckM]
    by_cases z : j = n
    · subst z
      rw [if_pos rfl, Nat.sub_self, ckX, if_pos (by rw [hN]; omega)]
    · rw [if_neg z]
      have ih := ck_eq hN hc ht r (j + 1) (by omega) (by omega)
      have jN : (j : Int) < A 17 3 := by rw [hN]; omega
      have h0 : A 19 j = B 157 j := hc j (by omega) 0 (by decide)
      have h1 : A 20 j = B 158 j := hc j (by omega) 1 (by decide)
      have h2 : A 21 j = B 159 j := hc j (by omega) 2 (by decide)
      have h3 : A 22 j = B 160 j := hc j (by omega) 3 (by decide)
      have t0 := ht (4 * j) (by omega)
      have t1 := ht (4 * j + 1) (by omega)
      have t2 := ht (4 * j + 2) (by omega)
      have t3 := ht (4 * j + 3) (by omega)
      generalize hm : 4 * n - 4 * (j + 1) = m at *
      have s0 : ckX A n (m + 3 + 1) (4 * j) = if A 19 j = nbX A (4 * j) then ckX A n (m + 3) (4 * j + 1) else ((4 * j : Nat) : Int) := ckX_s (c := 0) (by decide) jN
      have s1 : ckX A n (m + 3) (4 * j + 1) = if A 20 j = nbX A (4 * j + 1) then ckX A n (m + 2) (4 * j + 2) else ((4 * j + 1 : Nat) : Int) := ckX_s (c := 1) (by decide) jN
      have s2 : ckX A n (m + 2) (4 * j + 2) = if A 21 j = nbX A (4 * j + 2) then ckX A n (m + 1) (4 * j + 3) else ((4 * j + 2 : Nat) : Int) := ckX_s (c := 2) (by decide) jN
      have s3 : ckX A n (m + 1) (4 * j + 3) = if A 22 j = nbX A (4 * j + 3) then ckX A n m (4 * j + 3 + 1) else ((4 * j + 3 : Nat) : Int) := ckX_s (c := 3) (by decide) jN
      rw [h0, t0] at s0
      rw [h1, t1] at s1
      rw [h2, t2] at s2
      rw [h3, t3, show 4 * j + 3 + 1 = 4 * (j + 1) by omega, ih] at s3
      rw [show 4 * n - 4 * j = m + 3 + 1 by omega, s0]
      by_cases z0 : nbM B (4 * j) = B 157 j
      · rw [if_pos z0.symm, if_pos z0, s1]
        by_cases z1 : nbM B (4 * j + 1) = B 158 j
        · rw [if_pos z1.symm, if_pos z1, s2]
          by_cases z2 : nbM B (4 * j + 2) = B 159 j
          · rw [if_pos z2.symm, if_pos z2, s3]
            by_cases z3 : nbM B (4 * j + 3) = B 160 j
            · rw [if_pos z3.symm, if_pos z3]
            · rw [if_neg (fun q => z3 q.symm), if_neg z3]
          · rw [if_neg (fun q => z2 q.symm), if_neg z2]
        · rw [if_neg (fun q => z1 q.symm), if_neg z1]
      · rw [if_neg (fun q => z0 q.symm), if_neg z0]
section
variable {L s d : Nat} {X : Nat → Int}
theorem px_check0 (hL : L ≤ 3072) (hX : ∀ j, rg32 (X j)) (hd : 40 ≤ d) : prx L X s LAL (fun _ => True) d 127 208 1 false true := by
  refine px_eq (cx := cn132) (cm := cn176) (nx := 1) (nm := 1) hL hX (cn_all 132 (by decide) cn132 rfl) (cn_all 176 (by decide) cn176 rfl) rfl hd (fun as s T I J R hl hr hH hP => ?_)
  obtain ⟨a, rfl⟩ := len1 hl
  obtain ⟨d, rfl⟩ : ∃ e, d = e + 1 := ⟨d - 1, by omega⟩
  have hh := hp_of (eH5_of hH)
  have hR : lkR I := hP.2.1.1.1
  have hK : LK I := hP.1
  obtain ⟨-, -, -, -, -, -, l6, -, l8, l9, -, -, l12, -⟩ := hK
  have e4 : I 17 3 = I 152 4 := l6
  have e8 : I 1 1 = I 152 17 := l8
  have b4 : 0 ≤ I 17 3 ∧ I 17 3 ≤ 200 := ebd hH (by decide) (by decide) (by decide)
  have b8 : 0 ≤ I 152 17 ∧ I 152 17 ≤ 200 := ebd hH (by decide) (by decide) (by decide)
  have hb : ∀ i, i < 200 → -128 ≤ I 162 i ∧ I 162 i ≤ 127 := fun i hi => ebd hH (by decide) hi ((bI_hi (by decide)).trans (by decide))
  have hra := hr a (List.mem_cons_self ..)
  unfold rg32 at hra
  obtain ⟨N, hN⟩ : ∃ n : Nat, I 17 3 = n := ⟨(I 17 3).toNat, by omega⟩
  show ∃ a' : Int, wpc codeT mX (d + 1) 127 [.inr (.inr (some 0)), .inl a] (185, s, T, I, J, R) (fun v g1 => v = some (ansV false a') ∧ (eH g1 → eM cn132.2.2.2.1 (185, s, T, I, J, R) g1 → wpc codeT mX (d + 1) 208 [.inr (.inr (some 152)), .inl a] g1 (fun v2 _ => v2 = some (ansV false a'))))
  by_cases hg : (0 ≤ a ∧ a ≤ 12) ∧ 16 * a ≤ I 1 1
  · obtain ⟨g1, g2⟩ := hg
    obtain ⟨n, rfl⟩ : ∃ n : Nat, a = n := ⟨a.toNat, by omega⟩
    have hb' : ∀ i, i < 200 → -128 ≤ up2 I 1 1 0 162 i ∧ up2 I 1 1 0 162 i ≤ 127 := fun i hi => by rw [up2_na (by decide)]; exact hb i hi
    have h17 : up2 I 1 1 0 152 17 = I 152 17 := up2_na (by decide)
    have eq := ck_eq (A := up2 I 1 1 0) (B := up2 (up2 I 1 1 0) 152 17 0) (n := n) (N := N) ((up2_na (by decide)).trans hN) (fun j hj c hc => by
      rw [up2_na (by omega), up2_na (by omega), up2_na (by omega)]
      obtain ⟨q1, q2, q3⟩ := l12 j (by rw [hN]; omega)
      obtain ⟨q4, -⟩ := hR j (by rw [hN]; omega)
      have k : c = 0 ∨ c = 1 ∨ c = 2 ∨ c = 3 := by omega
      rcases k with rfl | rfl | rfl | rfl
      · exact q1
      · exact q2
      · exact q3
      · exact q4) (fun p hp => by
      unfold nbX nbM
      rw [up2_na (by decide), up2_na (by decide), up2_na (by decide), up2_na (by decide), up2_na (by decide), up2_na (by decide), up2_na (by decide), up2_na (by decide), up2_na (by decide), up2_na (by decide), up2_na (by decide), up2_na (by decide), l9 _ (by omega), l9 _ (by omega), l9 _ (by omega), l9 _ (by omega)]) N 0 (Nat.zero_add _) (Nat.zero_le _)
    rw [Nat.mul_zero, Nat.sub_zero] at eq
    refine ⟨ckX (up2 I 1 1 0) n (4 * n) 0, x127 hh (by omega) hN (by omega) g2 ⟨rfl, fun _ _ => ?_⟩⟩
    exact x208 hh hb' (by omega) ((up2_na (by decide)).trans (e4.symm.trans hN)) (by omega) (by rw [h17]; exact b8) (by rw [h17, ← e8]; exact g2) (by rw [eq]; rfl)
  · have go : ∀ Q : Option AV → AH → Prop, Q (some (.inl (-2))) (185, s, T, I, J, R) → wpc codeT mX (d + 1) 127 [.inr (.inr (some 0)), .inl a] (185, s, T, I, J, R) Q := by
      intro Q hQ
      by_cases h1 : 0 ≤ a ∧ a ≤ 12
      · have h2 : w32 (16 * a) = 16 * a := w32_eq (by omega) (by omega)
        have h3 : I 1 1 < 16 * a := by
          clear h2
          omega
        simp only [s127_0, s127_1, s127_2, s127_3, s127_4, s127_5, s127_6, s127_7, s127_8, s127_9, s127_10, s127_11, s127_12, s127_13, e127, Option.toList_some, Option.toList_none, List.cons_append, List.nil_append, Nat.le_refl, true_and, and_true, true_or, or_true, false_or, or_false, true_implies, false_implies, implies_true, not_true_eq_false, not_false_eq_true, eq_self, Nat.reduceLT, Nat.reduceLeDiff, Nat.reduceEqDiff, Nat.reduceAdd, Nat.reduceSub, Int.reduceLT, Int.reduceLE, Int.reduceEq, Int.reduceNeg, Int.reduceNe, Int.reduceAdd, Int.reduceSub, Int.reduceMul, Int.reduceToNat, Int.toNat_zero, Int.toNat_one, Int.toNat_natCast, am_cats, am_cat, am_st1, am_st2, am_clr, up2_na, up2_nj, up2_same, List.getElem?_cons_zero, List.getElem?_cons_succ, List.set_cons_zero, List.set_cons_succ, ne_eq, tk_0 hh, tk_1 hh, rk_0_5 hh, k18, i10, h1, h2, h3]
        exact hQ
      · simp only [s127_0, s127_1, s127_2, s127_3, s127_4, s127_12, s127_13, e127, Option.toList_some, Option.toList_none, List.cons_append, List.nil_append, Nat.le_refl, true_and, and_true, true_or, or_true, false_or, or_false, true_implies, false_implies, implies_true, not_true_eq_false, not_false_eq_true, eq_self, Nat.reduceLT, Nat.reduceLeDiff, Nat.reduceEqDiff, Nat.reduceAdd, Nat.reduceSub, Int.reduceLT, Int.reduceLE, Int.reduceEq, Int.reduceNeg, Int.reduceNe, Int.reduceAdd, Int.reduceSub, Int.reduceMul, Int.reduceToNat, Int.toNat_zero, Int.toNat_one, Int.toNat_natCast, am_cats, am_cat, am_st1, am_st2, am_clr, up2_na, up2_nj, up2_same, List.getElem?_cons_zero, List.getElem?_cons_succ, List.set_cons_zero, List.set_cons_succ, ne_eq, tk_0 hh, k18, i10, h1]
        exact hQ
    have fin : ∀ Q : Option AV → AH → Prop, Q (some (.inl (-2))) (185, s, T, I, J, R) → wpc codeT mX (d + 1) 208 [.inr (.inr (some 152)), .inl a] (185, s, T, I, J, R) Q := by
      intro Q hQ
      by_cases h1 : a < 0
      · simp only [s208_0, s208_1, s208_8, s208_9, e208, Option.toList_some, Option.toList_none, List.cons_append, List.nil_append, Nat.le_refl, true_and, and_true, true_or, or_true, false_or, or_false, true_implies, false_implies, implies_true, not_true_eq_false, not_false_eq_true, eq_self, Nat.reduceLT, Nat.reduceLeDiff, Nat.reduceEqDiff, Nat.reduceAdd, Nat.reduceSub, Int.reduceLT, Int.reduceLE, Int.reduceEq, Int.reduceNeg, Int.reduceNe, Int.reduceAdd, Int.reduceSub, Int.reduceMul, Int.reduceToNat, Int.toNat_zero, Int.toNat_one, Int.toNat_natCast, am_cats, am_cat, am_st1, am_st2, am_clr, up2_na, up2_nj, up2_same, List.getElem?_cons_zero, List.getElem?_cons_succ, List.set_cons_zero, List.set_cons_succ, ne_eq, h1]
        exact hQ
      · obtain ⟨z, hz⟩ : ∃ z : Nat, I 152 17 = z := ⟨(I 152 17).toNat, by omega⟩
        have e16 : Int.tdiv (I 152 17) 16 = ((z / 16 : Nat) : Int) := by rw [hz, Int.tdiv_eq_ediv_of_nonneg (by omega)]; omega
        have o1 : z / 16 ≤ 2000000000 := by omega
        have u2 : ((z / 16 : Nat) : Int) < a := by omega
        have v1 := w32_c e16 o1
        simp only [s208_0, s208_1, s208_2, s208_3, s208_4, s208_5, s208_6, s208_7, s208_8, s208_9, e208, Option.toList_some, Option.toList_none, List.cons_append, List.nil_append, Nat.le_refl, true_and, and_true, true_or, or_true, false_or, or_false, true_implies, false_implies, implies_true, not_true_eq_false, not_false_eq_true, eq_self, Nat.reduceLT, Nat.reduceLeDiff, Nat.reduceEqDiff, Nat.reduceAdd, Nat.reduceSub, Int.reduceLT, Int.reduceLE, Int.reduceEq, Int.reduceNeg, Int.reduceNe, Int.reduceAdd, Int.reduceSub, Int.reduceMul, Int.reduceToNat, Int.toNat_zero, Int.toNat_one, Int.toNat_natCast, am_cats, am_cat, am_st1, am_st2, am_clr, up2_na, up2_nj, up2_same, List.getElem?_cons_zero, List.getElem?_cons_succ, List.set_cons_zero, List.set_cons_succ, ne_eq, tk_152 hh, h1, u2, v1]
        exact hQ
    exact ⟨-2, go _ ⟨rfl, fun _ _ => fin _ rfl⟩⟩
theorem px_check (hL : L ≤ 3072) (hX : ∀ j, rg32 (X j)) (hd : 40 ≤ d) : prx L X s LAL LKP d 127 208 1 false true := px_true (pl_K (pr_check hL hX hd)) (px_check0 hL hX hd)
end
