/-! by hand, 1: AnswerBook.add -/
theorem bRs : ∀ h, h < 6 → bR 24 h = [25 + h] ∧ bR 32 h = [33 + h] ∧ bR 40 h = [41 + h] ∧ bR 47 h = [48 + h] ∧ tT.getD (25 + h) (0, 0) = (100, 8) ∧ tT.getD (33 + h) (0, 0) = (100, 8) ∧ tT.getD (41 + h) (0, 0) = (100, 8) ∧ tT.getD (48 + h) (0, 0) = (100, 8) ∧ bI (25 + h) 0 = (0, 200) ∧ bI (33 + h) 0 = (-2147483648, 2147483647) ∧ bI (41 + h) 0 = (-2147483648, 2147483647) ∧ bI (48 + h) 0 = (-2147483648, 2147483647) := by decide +kernel
theorem Ms_add : ∀ h, h < 6 → ∀ j, j < 8 → inM cn81.2.2.2.1 (25 + h) j = true ∧ inM cn81.2.2.2.1 (33 + h) j = true ∧ inM cn81.2.2.2.1 (41 + h) j = true ∧ inM cn81.2.2.2.1 (48 + h) j = true := by decide +kernel
set_option maxHeartbeats 4000000 in
theorem con_add : conS cn81 := by
  intro g ls hH hs hc d hd
  obtain ⟨c, s, T, I, J, R⟩ := g
  obtain ⟨d, rfl⟩ : ∃ e, d = e + 5 := ⟨d - 5, by have : 5 ≤ d := hd; omega⟩
  obtain ⟨p0, m0, rfl, q0, hc⟩ := rZ_cons hc.1
  obtain ⟨p1, m1, rfl, q1, hc⟩ := rZ_cons hc
  obtain ⟨p2, m2, rfl, q2, hc⟩ := rZ_cons hc
  obtain ⟨p3, m3, rfl, q3, hc⟩ := rZ_cons hc
  obtain ⟨p4, m4, rfl, q4, hc⟩ := rZ_cons hc
  obtain ⟨p5, m5, rfl, q5, hc⟩ := rZ_cons hc
  cases rZ_nil hc
  cases pLr (i := 17) q0
  obtain ⟨a1, rfl, b1, b1'⟩ := pLi q1
  obtain ⟨a2, rfl, b2, b2'⟩ := pLi q2
  obtain ⟨a3, rfl, b3, b3'⟩ := pLi q3
  obtain ⟨a4, rfl, b4, b4'⟩ := pLi q4
  obtain ⟨a5, rfl, b5, b5'⟩ := pLi q5
  have h5 := eH5_of hH
  have hW := hH.2.2.2.2.2
  have hc0 : c = 185 := hH.1
  subst hc0
  have t17 : T 17 = (0, 4) := eT h5 (by decide)
  have t18 : T 18 = (104, 5) := eT h5 (by decide)
  have t19 : T 19 = (100, 200) := eT h5 (by decide)
  have t20 : T 20 = (100, 200) := eT h5 (by decide)
  have t21 : T 21 = (100, 200) := eT h5 (by decide)
  have t22 : T 22 = (100, 200) := eT h5 (by decide)
  have t23 : T 23 = (100, 200) := eT h5 (by decide)
  have t24 : T 24 = (104, 6) := eT h5 (by decide)
  have t31 : T 31 = (8, 4) := eT h5 (by decide)
  have t32 : T 32 = (104, 6) := eT h5 (by decide)
  have t39 : T 39 = (100, 6) := eT h5 (by decide)
  have t40 : T 40 = (104, 6) := eT h5 (by decide)
  have t47 : T 47 = (104, 6) := eT h5 (by decide)
  have r17 : R 17 0 = some 18 := eR1 h5 (by decide) (by decide) (by decide +kernel)
  have r17b : R 17 1 = some 24 := eR1 h5 (by decide) (by decide) (by decide +kernel)
  have r17c : R 17 2 = some 31 := eR1 h5 (by decide) (by decide) (by decide +kernel)
  have r18 : R 18 0 = some 19 := eR1 h5 (by decide) (by decide) (by decide +kernel)
  have r18b : R 18 1 = some 20 := eR1 h5 (by decide) (by decide) (by decide +kernel)
  have r18c : R 18 2 = some 21 := eR1 h5 (by decide) (by decide) (by decide +kernel)
  have r18d : R 18 3 = some 22 := eR1 h5 (by decide) (by decide) (by decide +kernel)
  have r18e : R 18 4 = some 23 := eR1 h5 (by decide) (by decide) (by decide +kernel)
  have r31 : R 31 0 = some 32 := eR1 h5 (by decide) (by decide) (by decide +kernel)
  have r31b : R 31 1 = some 39 := eR1 h5 (by decide) (by decide) (by decide +kernel)
  have r31c : R 31 2 = some 40 := eR1 h5 (by decide) (by decide) (by decide +kernel)
  have r31d : R 31 3 = some 47 := eR1 h5 (by decide) (by decide) (by decide +kernel)
  obtain ⟨hn, rfl⟩ : ∃ n : Nat, a1 = n := ⟨a1.toNat, by omega⟩
  obtain ⟨tn, rfl⟩ : ∃ n : Nat, a2 = n := ⟨a2.toNat, by omega⟩
  have hn6 : hn < 6 := by omega
  have tn8 : tn < 8 := by omega
  obtain ⟨x1, x2, x3, x4, y1, y2, y3, y4, z1, z2, z3, z4⟩ := bRs hn hn6
  have u1 : R 24 hn = some (25 + hn) := eR1 h5 (by decide) hn6 x1
  have u2 : R 32 hn = some (33 + hn) := eR1 h5 (by decide) hn6 x2
  have u3 : R 40 hn = some (41 + hn) := eR1 h5 (by decide) hn6 x3
  have u4 : R 47 hn = some (48 + hn) := eR1 h5 (by decide) hn6 x4
  have v1 : T (25 + hn) = (100, 8) := (eT h5 (by show 25 + hn < 185; omega)).trans y1
  have v2 : T (33 + hn) = (100, 8) := (eT h5 (by show 33 + hn < 185; omega)).trans y2
  have v3 : T (41 + hn) = (100, 8) := (eT h5 (by show 41 + hn < 185; omega)).trans y3
  have v4 : T (48 + hn) = (100, 8) := (eT h5 (by show 48 + hn < 185; omega)).trans y4
  have hsz : 0 ≤ I 17 3 ∧ I 17 3 ≤ 200 := eB h5 (by decide) (by decide)
  have nn : (17 : Nat) ≠ 25 + hn ∧ (17 : Nat) ≠ 33 + hn ∧ (17 : Nat) ≠ 41 + hn ∧ (17 : Nat) ≠ 48 + hn ∧ (39 : Nat) ≠ 25 + hn ∧ (39 : Nat) ≠ 33 + hn ∧ (39 : Nat) ≠ 41 + hn ∧ (39 : Nat) ≠ 48 + hn ∧ 25 + hn ≠ 17 ∧ 25 + hn ≠ 19 ∧ 25 + hn ≠ 20 ∧ 25 + hn ≠ 21 ∧ 25 + hn ≠ 22 ∧ 25 + hn ≠ 23 ∧ 25 + hn ≠ 39 ∧ 33 + hn ≠ 17 ∧ 33 + hn ≠ 19 ∧ 33 + hn ≠ 20 ∧ 33 + hn ≠ 21 ∧ 33 + hn ≠ 22 ∧ 33 + hn ≠ 23 ∧ 33 + hn ≠ 39 ∧ 41 + hn ≠ 17 ∧ 41 + hn ≠ 19 ∧ 41 + hn ≠ 20 ∧ 41 + hn ≠ 21 ∧ 41 + hn ≠ 22 ∧ 41 + hn ≠ 23 ∧ 41 + hn ≠ 39 ∧ 48 + hn ≠ 17 ∧ 48 + hn ≠ 19 ∧ 48 + hn ≠ 20 ∧ 48 + hn ≠ 21 ∧ 48 + hn ≠ 22 ∧ 48 + hn ≠ 23 ∧ 48 + hn ≠ 39 ∧ 33 + hn ≠ 25 + hn ∧ 41 + hn ≠ 25 + hn ∧ 48 + hn ≠ 25 + hn ∧ 41 + hn ≠ 33 + hn ∧ 48 + hn ≠ 33 + hn ∧ 48 + hn ≠ 41 + hn := by omega
  obtain ⟨n0, n1, n2, n3, n4, n5, n6, n7, n8, n9, n10, n11, n12, n13, n14, n15, n16, n17, n18, n19, n20, n21, n22, n23, n24, n25, n26, n27, n28, n29, n30, n31, n32, n33, n34, n35, n36, n37, n38, n39, n40, n41⟩ := nn
  show wp codeT mX (d + 5) 71 0 _ [] _ _
  simp only [e71, s71_0, s71_1, s71_2, s71_3, s71_4, s71_5, s71_6, s71_7, s71_8, s71_9, s71_10, s71_11, s71_12, s71_13, s71_14, s71_15, s71_16, s71_17, s71_18, s71_19, s71_20, s71_21, s71_22, s71_23, s71_24, s71_25, s71_26, s71_27, s71_28, s71_29, s71_30, s71_31, s71_32, s71_33, s71_34, s71_35, s71_36, s71_37, s71_38, s71_39, s71_40, s71_41, s71_42, s71_43, s71_44, s71_45, s71_46, s71_47, s71_48, s71_49, s71_50, s71_51, s71_52, s71_53, s71_54, s71_55, s71_56, s71_57, s71_58, s71_59, s71_60, s71_61, s71_62, s71_63, s71_64, s71_65, s71_66, s71_67, s71_68, s71_69, s71_70, s71_71, e67, s67_0, s67_1, s67_2, s67_3, s67_4, s67_5, s67_6, s67_7, e72, s72_0, s72_1, s72_2, s72_3, s72_4, s72_5, s72_6, s72_7, s72_8, s72_9, s72_10, s72_11, s72_12, s72_13, s72_14, s72_15, s72_16, s72_17, s72_18, s72_19, s72_20, s72_21, s72_22, s72_23, s72_24, s72_25, s72_26, s72_27, s72_28, s72_29, s72_30, s72_31, s72_32, s72_33, s72_34, s72_35, Option.toList_some, Option.toList_none, List.cons_append, List.nil_append, Nat.le_refl, true_and, and_true, true_or, or_true, false_or, or_false, true_implies, false_implies, implies_true, not_true_eq_false, not_false_eq_true, eq_self, Nat.reduceLT, Nat.reduceLeDiff, Nat.reduceEqDiff, Nat.reduceAdd, Nat.reduceSub, Int.reduceLT, Int.reduceLE, Int.reduceEq, Int.reduceNeg, Int.reduceNe, Int.reduceAdd, Int.reduceSub, Int.reduceMul, Int.reduceToNat, Int.toNat_zero, Int.toNat_one, Int.toNat_natCast, am_cats, am_cat, am_st1, am_st2, am_clr, up2_na, up2_nj, up2_same, List.getElem?_cons_zero, List.getElem?_cons_succ, List.set_cons_zero, List.set_cons_succ, ne_eq, n0, n1, n2, n3, n4, n5, n6, n7, n8, n9, n10, n11, n12, n13, n14, n15, n16, n17, n18, n19, n20, n21, n22, n23, n24, n25, n26, n27, n28, n29, n30, n31, n32, n33, n34, n35, n36, n37, n38, n39, n40, n41, t17, t18, t19, t20, t21, t22, t23, t24, t31, t32, t39, t40, t47, r17, r17b, r17c, r18, r18b, r18c, r18d, r18e, r31, r31b, r31c, r31d, u1, u2, u3, u4, v1, v2, v3, v4]
  have hb : ∀ a, (a = 19 ∨ a = 20 ∨ a = 21 ∨ a = 22 ∨ a = 23 ∨ a = 39) → ∀ j, bI a j = bI a 0 := by
    intro a ha j
    refine bI_hi ?_
    rcases ha with rfl | rfl | rfl | rfl | rfl | rfl <;> decide
  have b19 : ∀ j, bI 19 j = (0, 5) := fun j => (hb 19 (by decide) j).trans (by decide)
  have b20 : ∀ j, bI 20 j = (0, 7) := fun j => (hb 20 (by decide) j).trans (by decide)
  have b21 : ∀ j, bI 21 j = (0, 299) := fun j => (hb 21 (by decide) j).trans (by decide)
  have b22 : ∀ j, bI 22 j = (-2147483648, 2147483647) := fun j => (hb 22 (by decide) j).trans (by decide)
  have b23 : ∀ j, bI 23 j = (-2147483648, 2147483647) := fun j => (hb 23 (by decide) j).trans (by decide)
  have b39 : ∀ j, bI 39 j = (-2147483648, 2147483647) := fun j => (hb 39 (by decide) j).trans (by decide)
  have c25 : bI (25 + hn) tn = (0, 200) := (bI_hi (by rw [y1]; decide)).trans z1
  have c33 : bI (33 + hn) tn = (-2147483648, 2147483647) := (bI_hi (by rw [y2]; decide)).trans z2
  have c41 : bI (41 + hn) tn = (-2147483648, 2147483647) := (bI_hi (by rw [y3]; decide)).trans z3
  have c48 : bI (48 + hn) tn = (-2147483648, 2147483647) := (bI_hi (by rw [y4]; decide)).trans z4
  have b17 : bI 17 3 = (0, 200) := by decide
  have hr : 0 ≤ I (25 + hn) tn ∧ I (25 + hn) tn ≤ 200 := by
    have := eB h5 (a := 25 + hn) (j := tn) (by show 25 + hn < 185; omega) (by rw [y1]; exact tn8)
    rw [c25] at this
    exact this
  have hrs : I (25 + hn) tn ≤ I 17 3 := hW.2 hn tn hn6 tn8
  refine ⟨fun hlt => ?_, fun hge => ?_⟩
  · generalize hQ : conQ cn81 (185, s, T, I, J, R) = QQ
    and_intros
    all_goals first | omega | skip
    rw [← hQ]
    clear hQ QQ
    have w1 : w32 (I 17 3 + 1) = I 17 3 + 1 := w32_eq (by omega) (by omega)
    have w2 : w32 (I (25 + hn) tn + a4) = I (25 + hn) tn + a4 := w32_eq (by omega) (by omega)
    have w3 := w32_lo (I (33 + hn) tn + 1)
    have w4 := w32_lo (I 39 hn + 1)
    rw [w1, w2, w32_eq (z := I 17 3 + 1 - 1) (by omega) (by omega)]
    generalize w32 (I (33 + hn) tn + 1) = x33 at *
    generalize w32 (I 39 hn + 1) = x39 at *
    obtain ⟨k1, k2, k3, k4⟩ := Ms_add hn hn6 tn tn8
    have hM : ∀ a j, (a = 19 ∨ a = 20 ∨ a = 21 ∨ a = 22 ∨ a = 23 ∨ a = 39) → inM cn81.2.2.2.1 a j = true := by
      intro a j ha
      rcases ha with rfl | rfl | rfl | rfl | rfl | rfl <;> rfl
    refine ⟨⟨rfl, by show (-1 : Int) ≤ _; omega, by show _ ≤ (199 : Int); omega⟩, eH_mk ?_ ⟨fun k hk => ?_, fun h t hh ht => ?_⟩, ?_⟩
    · refine eH5_up (eH5_up (eH5_up (eH5_up (eH5_up (eH5_up (eH5_up (eH5_up (eH5_up (eH5_up (eH5_up h5 ?_ ?_) ?_ ?_) ?_ ?_) ?_ ?_) ?_ ?_) ?_ ?_) ?_ ?_) ?_ ?_) ?_ ?_) ?_ ?_) ?_ ?_ <;> simp only [b19, b20, b21, b22, b23, b39, c25, c33, c41, c48, b17] <;> omega
    · refine wfT_of (g := (185, s, T, I, J, R)) (fun a ha => ?_) (hW.1 k hk)
      have ha : a = 168 ∨ a = 169 ∨ a = 170 ∨ a = 171 ∨ a = 172 := by simpa using ha
      funext z
      show up2 _ _ _ _ _ _ = I a z
      rw [up2_na (by omega), up2_na (by omega), up2_na (by omega), up2_na (by omega), up2_na (by omega), up2_na (by omega), up2_na (by omega), up2_na (by omega), up2_na (by omega), up2_na (by omega), up2_na (by omega)]
    · have e0 := hW.2 h t hh ht
      have e0 : I (25 + h) t ≤ I 17 3 := e0
      dsimp only
      rw [up2_same, up2_na (by omega), up2_na (by omega), up2_na (by omega), up2_na (by omega), up2_na (by omega)]
      by_cases hx : h = hn ∧ t = tn
      · rw [hx.1, hx.2, up2_same]
        omega
      · rw [up2_ne _ _ (fun z => hx ⟨by omega, z.2⟩), up2_na (by omega), up2_na (by omega), up2_na (by omega), up2_na (by omega), up2_na (by omega)]
        omega
    · exact eM_up (eM_up (eM_up (eM_up (eM_up (eM_up (eM_up (eM_up (eM_up (eM_up (eM_up eM_rf (hM _ _ (by decide))) (hM _ _ (by decide))) (hM _ _ (by decide))) (hM _ _ (by decide))) (hM _ _ (by decide))) k1) k2) (hM _ _ (by decide))) k3) k4) rfl
  · exact ⟨⟨rfl, by show (-1 : Int) ≤ -1; decide, by show (-1 : Int) ≤ 199; decide⟩, hH, eM_rf⟩
