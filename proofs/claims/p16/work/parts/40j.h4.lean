/-! by hand, 4: the reference's worse -/
theorem tm_lt {a b : Int} (hb : b ≠ 0) : (a - Int.tdiv a b * b).natAbs < b.natAbs ∧ (a - Int.tdiv a b * b = 0 → b ≠ 0) := by
  have e : a - Int.tdiv a b * b = Int.tmod a b := by rw [Int.tmod_def, Int.mul_comm]
  rw [e]
  refine ⟨?_, fun _ => hb⟩
  rw [Int.natAbs_tmod]
  exact Nat.mod_lt _ (by omega)
theorem gcd_loop {d : Nat} {h : AH} {Q : Option AV → AH → Prop} {x y t w : Int} (hQ : ∀ (a : Int) (l l' : Option AV), a ≠ 0 → wp codeT mX d 180 43 [some (.inr (.inr (some 152))), some (.inl x), some (.inl y), some (.inl t), some (.inl w), some (.inr (.inl a)), none, some (.inr (.inl 0)), none, l, l'] [] h Q) : ∀ (n : Nat) (a b : Int) (l l' : Option AV), b.natAbs ≤ n → (a ≠ 0 ∨ b ≠ 0) → (-9223372036854775808 ≤ a ∧ a ≤ 9223372036854775807) → (-9223372036854775808 ≤ b ∧ b ≤ 9223372036854775807) → wp codeT mX d 180 30 [some (.inr (.inr (some 152))), some (.inl x), some (.inl y), some (.inl t), some (.inl w), some (.inr (.inl a)), none, some (.inr (.inl b)), none, l, l'] [] h Q := by
  intro n
  induction n with
  | zero =>
    intro a b l l' hb hab ha hbb
    have : b = 0 := by omega
    subst this
    refine s180_30.mpr ?_
    simp only [s180_31, s180_32, s180_33, Option.toList_some, Option.toList_none, List.cons_append, List.nil_append, Nat.le_refl, true_and, and_true, true_or, or_true, false_or, or_false, true_implies, false_implies, implies_true, not_true_eq_false, not_false_eq_true, eq_self, Nat.reduceLT, Nat.reduceLeDiff, Nat.reduceEqDiff, Nat.reduceAdd, Nat.reduceSub, Int.reduceLT, Int.reduceLE, Int.reduceEq, Int.reduceNeg, Int.reduceNe, Int.reduceAdd, Int.reduceSub, Int.reduceMul, Int.reduceToNat, Int.toNat_zero, Int.toNat_one, Int.toNat_natCast, am_cats, am_cat, am_st1, am_st2, am_clr, up2_na, up2_nj, up2_same, List.getElem?_cons_zero, List.getElem?_cons_succ, List.set_cons_zero, List.set_cons_succ, ne_eq]
    exact ⟨fun _ => hQ a l l' (by omega), fun z => absurd (by simp) z⟩
  | succ n ih =>
    intro a b l l' hb hab ha hbb
    refine s180_30.mpr ?_
    simp only [s180_31, s180_32, s180_33, Option.toList_some, Option.toList_none, List.cons_append, List.nil_append, Nat.le_refl, true_and, and_true, true_or, or_true, false_or, or_false, true_implies, false_implies, implies_true, not_true_eq_false, not_false_eq_true, eq_self, Nat.reduceLT, Nat.reduceLeDiff, Nat.reduceEqDiff, Nat.reduceAdd, Nat.reduceSub, Int.reduceLT, Int.reduceLE, Int.reduceEq, Int.reduceNeg, Int.reduceNe, Int.reduceAdd, Int.reduceSub, Int.reduceMul, Int.reduceToNat, Int.toNat_zero, Int.toNat_one, Int.toNat_natCast, am_cats, am_cat, am_st1, am_st2, am_clr, up2_na, up2_nj, up2_same, List.getElem?_cons_zero, List.getElem?_cons_succ, List.set_cons_zero, List.set_cons_succ, ne_eq]
    refine ⟨fun h0 => ?_, fun h0 => ?_⟩
    · have : b = 0 := by
        split at h0
        · cases h0
        · split at h0
          · cases h0
          · omega
      subst this
      exact hQ a l l' (by omega)
    · have hb0 : b ≠ 0 := by
        intro e
        subst e
        exact h0 rfl
      obtain ⟨m1, m2⟩ := tm_lt (a := a) hb0
      have e2 : w64 (a - Int.tdiv a b * b) = a - Int.tdiv a b * b := by unfold w64; omega
      have go := ih b (a - Int.tdiv a b * b) (some (.inr (.inl (a - Int.tdiv a b * b)))) none (by omega) (Or.inl hb0) hbb (by omega)
      simp only [s180_34, s180_35, s180_36, s180_37, s180_38, s180_39, s180_40, s180_41, s180_42, Option.toList_some, Option.toList_none, List.cons_append, List.nil_append, Nat.le_refl, true_and, and_true, true_or, or_true, false_or, or_false, true_implies, false_implies, implies_true, not_true_eq_false, not_false_eq_true, eq_self, Nat.reduceLT, Nat.reduceLeDiff, Nat.reduceEqDiff, Nat.reduceAdd, Nat.reduceSub, Int.reduceLT, Int.reduceLE, Int.reduceEq, Int.reduceNeg, Int.reduceNe, Int.reduceAdd, Int.reduceSub, Int.reduceMul, Int.reduceToNat, Int.toNat_zero, Int.toNat_one, Int.toNat_natCast, am_cats, am_cat, am_st1, am_st2, am_clr, up2_na, up2_nj, up2_same, List.getElem?_cons_zero, List.getElem?_cons_succ, List.set_cons_zero, List.set_cons_succ, ne_eq, e2]
      exact ⟨hb0, go⟩
set_option maxHeartbeats 2000000 in
theorem con_worse : conS cn179 := by
  intro g ls hH hs hc d hd
  obtain ⟨c, s, T, I, J, R⟩ := g
  obtain ⟨d, rfl⟩ : ∃ e, d = e + 5 := ⟨d - 5, by have : 10 ≤ d := hd; omega⟩
  obtain ⟨p0, m0, rfl, q0, hc⟩ := rZ_cons hc.1
  obtain ⟨p1, m1, rfl, q1, hc⟩ := rZ_cons hc
  obtain ⟨p2, m2, rfl, q2, hc⟩ := rZ_cons hc
  obtain ⟨p3, m3, rfl, q3, hc⟩ := rZ_cons hc
  obtain ⟨p4, m4, rfl, q4, hc⟩ := rZ_cons hc
  obtain ⟨p5, m5, rfl, -, hc⟩ := rZ_cons hc
  obtain ⟨p6, m6, rfl, -, hc⟩ := rZ_cons hc
  obtain ⟨p7, m7, rfl, -, hc⟩ := rZ_cons hc
  obtain ⟨p8, m8, rfl, -, hc⟩ := rZ_cons hc
  obtain ⟨p9, m9, rfl, -, hc⟩ := rZ_cons hc
  obtain ⟨p10, m10, rfl, -, hc⟩ := rZ_cons hc
  cases rZ_nil hc
  cases pLr (i := 152) q0
  obtain ⟨x, rfl, b1, b1'⟩ := pLi q1
  obtain ⟨y, rfl, b2, b2'⟩ := pLi q2
  obtain ⟨t, rfl, b3, b3'⟩ := pLi q3
  obtain ⟨w, rfl, b4, b4'⟩ := pLi q4
  have h5 := eH5_of hH
  have hW := hH.2.2.2.2.2
  have hc0 : c = 185 := hH.1
  subst hc0
  have hm := mdl_of h5
  have t152 : T 152 = (12, 53) := hm.1 152 (by decide)
  have hbN : 0 ≤ I 152 4 ∧ I 152 4 ≤ 200 := eB h5 (a := 152) (j := 4) (by decide) (by decide)
  obtain ⟨N, hN⟩ : ∃ N : Nat, I 152 4 = (N : Int) := ⟨(I 152 4).toNat, by omega⟩
  have hN2 : N ≤ 200 := by omega
  have hI : ∀ j, j < N → 0 ≤ I 160 j ∧ I 160 j ≤ 1 := by
    intro j hj
    have := eB h5 (a := 160) (j := j) (by decide) (by show j < 200; omega)
    rw [bI_hi (show 100 ≤ (tT.getD 160 (0, 0)).1 by decide), show bI 160 0 = (0, 1) by decide] at this
    exact this
  have fin : ∀ (J' : Nat → Nat → Int) (z : Int), eH5 (185, s, T, I, J', R) → eM cn179.2.2.2.1 (185, s, T, I, J, R) (185, s, T, I, J', R) → -9223372036854775808 ≤ z → z ≤ 9223372036854775807 → conQ cn179 (185, s, T, I, J, R) (some (.inr (.inl z))) (185, s, T, I, J', R) := fun J' z e1 e2 e3 e4 => ⟨⟨rfl, e3, e4⟩, eH_mk e1 hW, e2⟩
  have neg1 : conQ cn179 (185, s, T, I, J, R) (some (.inr (.inl (-1)))) (185, s, T, I, J, R) := fin J (-1) h5 eM_rf (by decide) (by decide)
  have neg2 : conQ cn179 (185, s, T, I, J, R) (some (.inr (.inl (-2)))) (185, s, T, I, J, R) := fin J (-2) h5 eM_rf (by decide) (by decide)
  have hx := rgt_bd hI x t N (Nat.le_refl N)
  have hy := rgt_bd hI y t N (Nat.le_refl N)
  by_cases hz : mny I x t N = 0 ∨ mny I y t N = 0 ∨ 25 < mny I x t N ∨ 25 < mny I y t N
  · have kw : ∀ (Q : Option AV → AH → Prop), wpc codeT mX (d + 4) 182 [.inr (.inr (some 152)), .inl x, .inl y, .inl t] (185, s, T, I, J, R) Q ↔ Q (some (.inl 0)) (185, s, T, I, J, R) := fun Q => by
      have := wpc_det (Q := Q) (w_weighs (s := s) (x := x) (y := y) (t := t) (J := J) hm hI hN hN2 (d := d + 3))
      rw [if_pos hz, if_pos hz] at this
      exact this
    show wp codeT mX (d + 5) 180 0 _ [] _ _
    simp only [e180, s180_0, s180_1, s180_2, s180_3, s180_4, s180_5, s180_6, s180_7, s180_8, s180_9, s180_10, s180_11, s180_12, s180_13, s180_14, s180_15, s180_16, s180_17, s180_18, s180_19, s180_20, s180_21, s180_22, s180_23, s180_24, s180_25, s180_26, s180_27, s180_28, s180_29, s180_31, s180_32, s180_33, s180_34, s180_35, s180_36, s180_37, s180_38, s180_39, s180_40, s180_41, s180_42, s180_44, s180_45, s180_46, s180_47, s180_48, s180_49, s180_50, s180_51, s180_52, s180_53, s180_54, e181, s181_0, s181_1, s181_2, s181_3, s181_4, s181_5, s181_6, s181_7, s181_8, s181_9, s181_10, s181_11, s181_12, s181_13, s181_14, e164, s164_0, s164_1, s164_2, s164_3, s164_4, s164_5, s164_6, s164_7, s164_8, s164_9, e134, s134_0, s134_1, s134_2, s134_3, s134_4, s134_5, s134_6, s134_7, s134_8, s134_9, e136, s136_0, s136_1, s136_2, s136_3, s136_4, s136_5, s136_6, s136_7, s136_8, s136_9, Option.toList_some, Option.toList_none, List.cons_append, List.nil_append, Nat.le_refl, true_and, and_true, true_or, or_true, false_or, or_false, true_implies, false_implies, implies_true, not_true_eq_false, not_false_eq_true, eq_self, Nat.reduceLT, Nat.reduceLeDiff, Nat.reduceEqDiff, Nat.reduceAdd, Nat.reduceSub, Int.reduceLT, Int.reduceLE, Int.reduceEq, Int.reduceNeg, Int.reduceNe, Int.reduceAdd, Int.reduceSub, Int.reduceMul, Int.reduceToNat, Int.toNat_zero, Int.toNat_one, Int.toNat_natCast, am_cats, am_cat, am_st1, am_st2, am_clr, up2_na, up2_nj, up2_same, List.getElem?_cons_zero, List.getElem?_cons_succ, List.set_cons_zero, List.set_cons_succ, ne_eq, t152, kw, neg1, neg2]
  · have kw : ∀ (Q : Option AV → AH → Prop), wpc codeT mX (d + 4) 182 [.inr (.inr (some 152)), .inl x, .inl y, .inl t] (185, s, T, I, J, R) Q ↔ Q (some (.inl 1)) (185, s, T, I, up2 (up2 J 152 38 (odA (mny I x t N) (mny I y t N) (rgt I x t N + rgt I y t N) ((rgt I x t N).toNat + 1))) 152 39 (chP (mny I x t N + mny I y t N) (rgt I x t N + rgt I y t N)), R) := fun Q => by
      have := wpc_det (Q := Q) (w_weighs (s := s) (x := x) (y := y) (t := t) (J := J) hm hI hN hN2 (d := d + 3))
      rw [if_neg hz, if_neg hz] at this
      exact this
    have hB : chP (mny I x t N + mny I y t N) (rgt I x t N + rgt I y t N) ≠ 0 := by
      obtain ⟨n, hn⟩ : ∃ n : Nat, mny I x t N + mny I y t N = (n : Int) := ⟨(mny I x t N + mny I y t N).toNat, by omega⟩
      obtain ⟨k, hk⟩ : ∃ k : Nat, rgt I x t N + rgt I y t N = (k : Int) := ⟨(rgt I x t N + rgt I y t N).toNat, by omega⟩
      rw [hn, hk]
      exact ch_ne n (by omega) k (by omega)
    have rA := odA_rg (mny I x t N) (mny I y t N) (rgt I x t N + rgt I y t N) ((rgt I x t N).toNat + 1)
    have rB := chP_rg (mny I x t N + mny I y t N) (rgt I x t N + rgt I y t N)
    generalize odA (mny I x t N) (mny I y t N) (rgt I x t N + rgt I y t N) ((rgt I x t N).toNat + 1) = oA at *
    generalize chP (mny I x t N + mny I y t N) (rgt I x t N + rgt I y t N) = oB at *
    have hJ5 : eH5 (185, s, T, I, up2 (up2 J 152 38 oA) 152 39 oB, R) := eH5_upJ (eH5_upJ h5 rA.1 rA.2) rB.1 rB.2
    have hJM : eM cn179.2.2.2.1 (185, s, T, I, J, R) (185, s, T, I, up2 (up2 J 152 38 oA) 152 39 oB, R) := eM_upJ (eM_upJ eM_rf rfl) rfl
    have key : ∀ (l l' : Option AV), wp codeT mX (d + 5) 180 30 [some (.inr (.inr (some 152))), some (.inl x), some (.inl y), some (.inl t), some (.inl w), some (.inr (.inl oA)), none, some (.inr (.inl oB)), none, l, l'] [] (185, s, T, I, up2 (up2 J 152 38 oA) 152 39 oB, R) (conQ cn179 (185, s, T, I, J, R)) := by
      intro l l'
      refine gcd_loop (fun a l l' ha => ?_) oB.natAbs oA oB l l' (Nat.le_refl _) (Or.inr hB) rA rB
      have e38 : up2 (up2 J 152 38 oA) 152 39 oB 152 38 = oA := by rw [up2_nj (by decide), up2_same]
      have e39 : up2 (up2 J 152 38 oA) 152 39 oB 152 39 = oB := up2_same _ _ _ _
      refine s180_43.mpr ?_
      simp only [s180_44, s180_45, s180_46, s180_47, s180_48, s180_49, s180_50, s180_51, s180_52, s180_53, s180_54, Option.toList_some, Option.toList_none, List.cons_append, List.nil_append, Nat.le_refl, true_and, and_true, true_or, or_true, false_or, or_false, true_implies, false_implies, implies_true, not_true_eq_false, not_false_eq_true, eq_self, Nat.reduceLT, Nat.reduceLeDiff, Nat.reduceEqDiff, Nat.reduceAdd, Nat.reduceSub, Int.reduceLT, Int.reduceLE, Int.reduceEq, Int.reduceNeg, Int.reduceNe, Int.reduceAdd, Int.reduceSub, Int.reduceMul, Int.reduceToNat, Int.toNat_zero, Int.toNat_one, Int.toNat_natCast, am_cats, am_cat, am_st1, am_st2, am_clr, up2_na, up2_nj, up2_same, List.getElem?_cons_zero, List.getElem?_cons_succ, List.set_cons_zero, List.set_cons_succ, ne_eq, t152, e38, e39]
      exact ⟨fun _ => ⟨ha, fin _ _ hJ5 hJM (w64_lo _).1 (w64_lo _).2⟩, fun _ => ⟨ha, fin _ _ hJ5 hJM (w64_lo _).1 (w64_lo _).2⟩⟩
    show wp codeT mX (d + 5) 180 0 _ [] _ _
    simp only [e180, s180_0, s180_1, s180_2, s180_3, s180_4, s180_5, s180_6, s180_7, s180_8, s180_9, s180_10, s180_11, s180_12, s180_13, s180_14, s180_15, s180_16, s180_17, s180_18, s180_19, s180_20, s180_21, s180_22, s180_23, s180_24, s180_25, s180_26, s180_27, s180_28, s180_29, s180_31, s180_32, s180_33, s180_34, s180_35, s180_36, s180_37, s180_38, s180_39, s180_40, s180_41, s180_42, s180_44, s180_45, s180_46, s180_47, s180_48, s180_49, s180_50, s180_51, s180_52, s180_53, s180_54, e181, s181_0, s181_1, s181_2, s181_3, s181_4, s181_5, s181_6, s181_7, s181_8, s181_9, s181_10, s181_11, s181_12, s181_13, s181_14, e164, s164_0, s164_1, s164_2, s164_3, s164_4, s164_5, s164_6, s164_7, s164_8, s164_9, e134, s134_0, s134_1, s134_2, s134_3, s134_4, s134_5, s134_6, s134_7, s134_8, s134_9, e136, s136_0, s136_1, s136_2, s136_3, s136_4, s136_5, s136_6, s136_7, s136_8, s136_9, Option.toList_some, Option.toList_none, List.cons_append, List.nil_append, Nat.le_refl, true_and, and_true, true_or, or_true, false_or, or_false, true_implies, false_implies, implies_true, not_true_eq_false, not_false_eq_true, eq_self, Nat.reduceLT, Nat.reduceLeDiff, Nat.reduceEqDiff, Nat.reduceAdd, Nat.reduceSub, Int.reduceLT, Int.reduceLE, Int.reduceEq, Int.reduceNeg, Int.reduceNe, Int.reduceAdd, Int.reduceSub, Int.reduceMul, Int.reduceToNat, Int.toNat_zero, Int.toNat_one, Int.toNat_natCast, am_cats, am_cat, am_st1, am_st2, am_clr, up2_na, up2_nj, up2_same, List.getElem?_cons_zero, List.getElem?_cons_succ, List.set_cons_zero, List.set_cons_succ, ne_eq, t152, kw, neg1, neg2]
    intros
    exact key _ _
