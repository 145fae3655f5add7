/-! by hand, 20: what the reference's law leaves behind -/
theorem cG_b {m : Nat} {A0 V : Nat → Int} {a i j : Nat} {lo hi : Int} (h1 : ∀ q, q < i → lo ≤ V q ∧ V q ≤ hi) (h2 : lo ≤ A0 j ∧ A0 j ≤ hi) : lo ≤ cG m A0 V a i j ∧ cG m A0 V a i j ≤ hi := by
  unfold cG
  split
  · exact h1 _ (by omega)
  · exact h2
theorem law_wf {s : Nat} {T : Nat → Nat × Nat} {I J : Nat → Nat → Int} {R : Nat → Nat → Option Nat} {tp len p fa op cm' w sm nm : Int} {X W F H G : Nat → Int} {a cm k : Nat} (hW : eW (185, s, T, I, J, R)) (hB : ∀ j, j < 6 → I 169 j ≤ 12) (hk : k ≤ 12) (hcm : cm ≤ 180) (hC : CLz X F H G cm k) : eW (185, s, T, pI (mI I tp len (cG 180 (I 168) X a cm) (sx (I 169) a (k : Int)) (cG 12 (I 170) (fun j => 180 * (a : Int) + F j) a k) (cG 12 (I 171) (fun j => 180 * (a : Int) + H j) a k) (cG 12 (I 172) (fun j => 180 * (a : Int) + G j) a k)) p fa op cm' w sm nm X W F H G, J, R) := by
  refine ⟨fun b hb => ?_, fun h t hh ht => ?_⟩
  · intro q q1 q2
    have q2 : (q : Int) < 12 * b + sx (I 169) a (k : Int) b := q2
    show ∃ f m t : Nat, cG 12 (I 170) (fun j => 180 * (a : Int) + F j) a k q = f ∧ cG 12 (I 171) (fun j => 180 * (a : Int) + H j) a k q = (f + m : Nat) ∧ cG 12 (I 172) (fun j => 180 * (a : Int) + G j) a k q = (f + m + t : Nat) ∧ 180 * b ≤ f ∧ f + m + t ≤ 180 * b + 180 ∧ wfS (cG 180 (I 168) X a cm) (180 * b) f m ∧ wfS (cG 180 (I 168) X a cm) (180 * b) (f + m) t
    by_cases e : b = a
    · subst e
      rw [sx_s] at q2
      obtain ⟨r, rfl⟩ : ∃ r, q = 12 * b + r := ⟨q - 12 * b, by omega⟩
      have hr : r < k := by omega
      obtain ⟨f, m, t, z1, z2, z3, z4, z5, z6⟩ := hC r hr
      rw [cG_in hr, cG_in hr, cG_in hr]
      refine ⟨180 * b + f, m, t, by omega, by omega, by omega, by omega, by omega, wfS_cg z5 (fun i hi => ?_) (by omega), wfS_cg z6 (fun i hi => ?_) (by omega)⟩
      · rw [show 180 * b + f + i = 180 * b + (f + i) by omega]
        exact cG_in (by omega)
      · rw [show 180 * b + f + m + i = 180 * b + (f + m + i) by omega]
        exact cG_in (by omega)
    · rw [sx_n e] at q2
      have hb12 := hB b hb
      obtain ⟨f, m, t, z1, z2, z3, z4, z5, z6, z7⟩ := hW.1 b hb q q1 q2
      have o1 : ¬ (12 * a ≤ q ∧ q < 12 * a + k) := by omega
      rw [cG_out o1, cG_out o1, cG_out o1]
      refine ⟨f, m, t, z1, z2, z3, z4, z5, wfS_cg z6 (fun i hi => cG_out (by omega)) rfl, wfS_cg z7 (fun i hi => cG_out (by omega)) rfl⟩
  · have e0 := hW.2 h t hh ht
    have e0 : I (25 + h) t ≤ I 17 3 := e0
    match h, hh with
    | 0, _ => exact e0
    | 1, _ => exact e0
    | 2, _ => exact e0
    | 3, _ => exact e0
    | 4, _ => exact e0
    | 5, _ => exact e0
set_option maxHeartbeats 2000000 in
theorem con_law : conS cn178 := by
  intro g ls hH hs hc d hd
  obtain ⟨c, s, T, I, J, R⟩ := g
  obtain ⟨d, rfl⟩ : ∃ e, d = e + 8 := ⟨d - 8, by have : 40 ≤ d := hd; omega⟩
  obtain ⟨p0, m0, rfl, q0, hc⟩ := rZ_cons hc.1
  obtain ⟨p1, m1, rfl, q1, hc⟩ := rZ_cons hc
  obtain ⟨p2, m2, rfl, q2, hc⟩ := rZ_cons hc
  obtain ⟨p3, m3, rfl, q3, hc⟩ := rZ_cons hc
  obtain ⟨p4, m4, rfl, q4, hc⟩ := rZ_cons hc
  obtain ⟨p5, m5, rfl, q5, hc⟩ := rZ_cons hc
  cases rZ_nil hc
  cases pLr (i := 152) q0
  obtain ⟨a, rfl, b1, b1'⟩ := pLi q1
  obtain ⟨n, rfl, b2, b2'⟩ := pLi q2
  have h5 := eH5_of hH
  have hW := hH.2.2.2.2.2
  have hc0 : c = 185 := hH.1
  subst hc0
  have hm := mdl_of h5
  have t152 : T 152 = (12, 53) := hm.1 152 (by decide)
  have t169 : T 169 = (100, 6) := hm.1 169 (by decide)
  have r2 : R 152 32 = some 169 := hm.2 32 169 (by decide +kernel) (by decide)
  have neg : conQ cn178 (185, s, T, I, J, R) (some (.inl (-1))) (185, s, T, I, J, R) := ⟨⟨rfl, by show (-2147483648 : Int) ≤ -1; decide, by show (-1 : Int) ≤ 2147483647; decide⟩, hH, eM_rf⟩
  have hst : 0 ≤ I 152 1 ∧ I 152 1 ≤ 6 := eB h5 (a := 152) (j := 1) (by decide) (by decide)
  have htp : 0 ≤ I 152 17 ∧ I 152 17 ≤ 200 := eB h5 (a := 152) (j := 17) (by decide) (by decide)
  show wp codeT mX (d + 8) 142 0 [some (.inr (.inr (some 152))), some (.inl a), some (.inl n), p3, p4, p5] [] _ _
  have key : 0 ≤ a → a < 6 → 1 ≤ n → n ≤ 160 → wp codeT mX (d + 8) 142 15 [some (.inr (.inr (some 152))), some (.inl a), some (.inl n), p3, p4, p5] [] (185, s, T, I, J, R) (conQ cn178 (185, s, T, I, J, R)) := by
    sorry
  by_cases z1 : a < 0
  · simp only [s142_0, s142_1, s142_2, s142_3, s142_13, s142_14, e135, s135_0, s135_1, s135_2, s135_3, s135_4, s135_5, s135_6, s135_7, s135_8, s135_9, Option.toList_some, Option.toList_none, List.cons_append, List.nil_append, Nat.le_refl, true_and, and_true, true_or, or_true, false_or, or_false, true_implies, false_implies, implies_true, not_true_eq_false, not_false_eq_true, eq_self, Nat.reduceLT, Nat.reduceLeDiff, Nat.reduceEqDiff, Nat.reduceAdd, Nat.reduceSub, Int.reduceLT, Int.reduceLE, Int.reduceEq, Int.reduceNeg, Int.reduceNe, Int.reduceAdd, Int.reduceSub, Int.reduceMul, Int.reduceToNat, Int.toNat_zero, Int.toNat_one, Int.toNat_natCast, am_cats, am_cat, am_st1, am_st2, am_clr, up2_na, up2_nj, up2_same, List.getElem?_cons_zero, List.getElem?_cons_succ, List.set_cons_zero, List.set_cons_succ, ne_eq, t152, z1]
    exact neg
  by_cases z2 : a < I 152 1
  · by_cases z3 : n < 1
    · simp only [s142_0, s142_1, s142_2, s142_3, s142_4, s142_5, s142_6, s142_7, s142_8, s142_13, s142_14, e135, s135_0, s135_1, s135_2, s135_3, s135_4, s135_5, s135_6, s135_7, s135_8, s135_9, e136, s136_0, s136_1, s136_2, s136_3, s136_4, s136_5, s136_6, s136_7, s136_8, s136_9, Option.toList_some, Option.toList_none, List.cons_append, List.nil_append, Nat.le_refl, true_and, and_true, true_or, or_true, false_or, or_false, true_implies, false_implies, implies_true, not_true_eq_false, not_false_eq_true, eq_self, Nat.reduceLT, Nat.reduceLeDiff, Nat.reduceEqDiff, Nat.reduceAdd, Nat.reduceSub, Int.reduceLT, Int.reduceLE, Int.reduceEq, Int.reduceNeg, Int.reduceNe, Int.reduceAdd, Int.reduceSub, Int.reduceMul, Int.reduceToNat, Int.toNat_zero, Int.toNat_one, Int.toNat_natCast, am_cats, am_cat, am_st1, am_st2, am_clr, up2_na, up2_nj, up2_same, List.getElem?_cons_zero, List.getElem?_cons_succ, List.set_cons_zero, List.set_cons_succ, ne_eq, t152, z1, z2, z3]
      exact neg
    by_cases z4 : 160 < n
    · simp only [s142_0, s142_1, s142_2, s142_3, s142_4, s142_5, s142_6, s142_7, s142_8, s142_13, s142_14, e135, s135_0, s135_1, s135_2, s135_3, s135_4, s135_5, s135_6, s135_7, s135_8, s135_9, e136, s136_0, s136_1, s136_2, s136_3, s136_4, s136_5, s136_6, s136_7, s136_8, s136_9, Option.toList_some, Option.toList_none, List.cons_append, List.nil_append, Nat.le_refl, true_and, and_true, true_or, or_true, false_or, or_false, true_implies, false_implies, implies_true, not_true_eq_false, not_false_eq_true, eq_self, Nat.reduceLT, Nat.reduceLeDiff, Nat.reduceEqDiff, Nat.reduceAdd, Nat.reduceSub, Int.reduceLT, Int.reduceLE, Int.reduceEq, Int.reduceNeg, Int.reduceNe, Int.reduceAdd, Int.reduceSub, Int.reduceMul, Int.reduceToNat, Int.toNat_zero, Int.toNat_one, Int.toNat_natCast, am_cats, am_cat, am_st1, am_st2, am_clr, up2_na, up2_nj, up2_same, List.getElem?_cons_zero, List.getElem?_cons_succ, List.set_cons_zero, List.set_cons_succ, ne_eq, t152, z1, z2, z3, z4]
      exact neg
    have key := key (by omega) (by omega) (by omega) (by omega)
    by_cases z5 : I 152 17 < n
    · simp only [s142_0, s142_1, s142_2, s142_3, s142_4, s142_5, s142_6, s142_7, s142_8, s142_9, s142_10, s142_11, s142_12, s142_13, s142_14, e135, s135_0, s135_1, s135_2, s135_3, s135_4, s135_5, s135_6, s135_7, s135_8, s135_9, e136, s136_0, s136_1, s136_2, s136_3, s136_4, s136_5, s136_6, s136_7, s136_8, s136_9, Option.toList_some, Option.toList_none, List.cons_append, List.nil_append, Nat.le_refl, true_and, and_true, true_or, or_true, false_or, or_false, true_implies, false_implies, implies_true, not_true_eq_false, not_false_eq_true, eq_self, Nat.reduceLT, Nat.reduceLeDiff, Nat.reduceEqDiff, Nat.reduceAdd, Nat.reduceSub, Int.reduceLT, Int.reduceLE, Int.reduceEq, Int.reduceNeg, Int.reduceNe, Int.reduceAdd, Int.reduceSub, Int.reduceMul, Int.reduceToNat, Int.toNat_zero, Int.toNat_one, Int.toNat_natCast, am_cats, am_cat, am_st1, am_st2, am_clr, up2_na, up2_nj, up2_same, List.getElem?_cons_zero, List.getElem?_cons_succ, List.set_cons_zero, List.set_cons_succ, ne_eq, t152, z1, z2, z3, z4, z5]
      exact neg
    · simp only [s142_0, s142_1, s142_2, s142_3, s142_4, s142_5, s142_6, s142_7, s142_8, s142_9, s142_10, s142_11, s142_12, e135, s135_0, s135_1, s135_2, s135_3, s135_4, s135_5, s135_6, s135_7, s135_8, s135_9, e136, s136_0, s136_1, s136_2, s136_3, s136_4, s136_5, s136_6, s136_7, s136_8, s136_9, Option.toList_some, Option.toList_none, List.cons_append, List.nil_append, Nat.le_refl, true_and, and_true, true_or, or_true, false_or, or_false, true_implies, false_implies, implies_true, not_true_eq_false, not_false_eq_true, eq_self, Nat.reduceLT, Nat.reduceLeDiff, Nat.reduceEqDiff, Nat.reduceAdd, Nat.reduceSub, Int.reduceLT, Int.reduceLE, Int.reduceEq, Int.reduceNeg, Int.reduceNe, Int.reduceAdd, Int.reduceSub, Int.reduceMul, Int.reduceToNat, Int.toNat_zero, Int.toNat_one, Int.toNat_natCast, am_cats, am_cat, am_st1, am_st2, am_clr, up2_na, up2_nj, up2_same, List.getElem?_cons_zero, List.getElem?_cons_succ, List.set_cons_zero, List.set_cons_succ, ne_eq, t152, z1, z2, z3, z4, z5]
      exact key
  · simp only [s142_0, s142_1, s142_2, s142_3, s142_13, s142_14, e135, s135_0, s135_1, s135_2, s135_3, s135_4, s135_5, s135_6, s135_7, s135_8, s135_9, Option.toList_some, Option.toList_none, List.cons_append, List.nil_append, Nat.le_refl, true_and, and_true, true_or, or_true, false_or, or_false, true_implies, false_implies, implies_true, not_true_eq_false, not_false_eq_true, eq_self, Nat.reduceLT, Nat.reduceLeDiff, Nat.reduceEqDiff, Nat.reduceAdd, Nat.reduceSub, Int.reduceLT, Int.reduceLE, Int.reduceEq, Int.reduceNeg, Int.reduceNe, Int.reduceAdd, Int.reduceSub, Int.reduceMul, Int.reduceToNat, Int.toNat_zero, Int.toNat_one, Int.toNat_natCast, am_cats, am_cat, am_st1, am_st2, am_clr, up2_na, up2_nj, up2_same, List.getElem?_cons_zero, List.getElem?_cons_succ, List.set_cons_zero, List.set_cons_succ, ne_eq, t152, z1, z2]
    exact neg
