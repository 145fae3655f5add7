/-! by hand, 6: the reference's givesBy -/
section
variable {d s : Nat} {T : Nat → Nat × Nat} {I J : Nat → Nat → Int} {R : Nat → Nat → Option Nat} {Q : Option AV → AH → Prop}
theorem gb_end (hQ : ∀ (z : Int) (S : Nat → Int), -2147483648 ≤ z ∧ z ≤ 2147483647 → (∀ j, j < 180 → -2147483648 ≤ S j ∧ S j ≤ 2147483647) → Q (some (.inl z)) (185, s, T, setA I 173 S, J, R)) {k sh z : Int} {l4 : Option AV} {S : Nat → Int} (hS : ∀ j, j < 180 → -2147483648 ≤ S j ∧ S j ≤ 2147483647) : wp codeT mX (d + 5) 167 50 [some (.inr (.inr (some 152))), some (.inl k), some (.inl sh), some (.inl z), l4] [] (185, s, T, setA I 173 S, J, R) Q := by
  have f : ∀ z, Q (some (.inl (w32 z))) (185, s, T, setA I 173 S, J, R) := fun z => hQ _ _ (w32_lo z) hS
  refine s167_50.mpr ?_
  simp only [s167_51, s167_52, s167_53, s167_54, s167_55, s167_56, s167_57, s167_58, s167_59, s167_60, s167_61, s167_62, s167_63, s167_64, s167_65, s167_66, Option.toList_some, Option.toList_none, List.cons_append, List.nil_append, Nat.le_refl, true_and, and_true, true_or, or_true, false_or, or_false, true_implies, false_implies, implies_true, not_true_eq_false, not_false_eq_true, eq_self, Nat.reduceLT, Nat.reduceLeDiff, Nat.reduceEqDiff, Nat.reduceAdd, Nat.reduceSub, Int.reduceLT, Int.reduceLE, Int.reduceEq, Int.reduceNeg, Int.reduceNe, Int.reduceAdd, Int.reduceSub, Int.reduceMul, Int.reduceToNat, Int.toNat_zero, Int.toNat_one, Int.toNat_natCast, am_cats, am_cat, am_st1, am_st2, am_clr, up2_na, up2_nj, up2_same, List.getElem?_cons_zero, List.getElem?_cons_succ, List.set_cons_zero, List.set_cons_succ, ne_eq, f]
  done
set_option maxHeartbeats 1000000 in
theorem gb_loop (hm : mdl T R) (hX : ∀ j, j < 1080 → I 168 j ≤ 2147483647) (hF : ∀ j, j < 9 → -2147483648 ≤ I 174 j ∧ I 174 j ≤ 2147483647) (hQ : ∀ (z : Int) (S : Nat → Int), -2147483648 ≤ z ∧ z ≤ 2147483647 → (∀ j, j < 180 → -2147483648 ≤ S j ∧ S j ≤ 2147483647) → Q (some (.inl z)) (185, s, T, setA I 173 S, J, R)) {k M : Nat} {sh : Int} (hk : k < 6) (hM : I 169 k = (M : Int)) (hM2 : M ≤ 12) (hw : wfT (185, s, T, I, J, R) k) : ∀ (r j : Nat), j + r = M → ∀ (z : Int) (S : Nat → Int), (∀ j, j < 180 → -2147483648 ≤ S j ∧ S j ≤ 2147483647) → wp codeT mX (d + 5) 167 13 [some (.inr (.inr (some 152))), some (.inl (k : Int)), some (.inl sh), some (.inl z), some (.inl (12 * (k : Int) + j))] [] (185, s, T, setA I 173 S, J, R) Q := by
  have t152 : T 152 = (12, 53) := hm.1 152 (by decide)
  have t169 : T 169 = (100, 6) := hm.1 169 (by decide)
  have t170 : T 170 = (100, 72) := hm.1 170 (by decide)
  have t171 : T 171 = (100, 72) := hm.1 171 (by decide)
  have t172 : T 172 = (100, 72) := hm.1 172 (by decide)
  have r2 : R 152 32 = some 169 := hm.2 32 169 (by decide +kernel) (by decide)
  have r3 : R 152 33 = some 170 := hm.2 33 170 (by decide +kernel) (by decide)
  have r4 : R 152 34 = some 171 := hm.2 34 171 (by decide +kernel) (by decide)
  have r5 : R 152 35 = some 172 := hm.2 35 172 (by decide +kernel) (by decide)
  intro r
  induction r with
  | zero =>
    intro j hj z S hS
    have gh : ¬ (12 * (k : Int) + j < 12 * (k : Int) + M) := by omega
    have kk : 0 ≤ (k : Int) ∧ (k : Int) < 6 := by omega
    have w1 : w32 (12 * (k : Int)) = 12 * (k : Int) := w32_eq (by omega) (by omega)
    have w2 : w32 (12 * (k : Int) + (M : Int)) = 12 * (k : Int) + (M : Int) := w32_eq (by omega) (by omega)
    refine s167_13.mpr ?_
    simp only [s167_14, s167_15, s167_16, s167_17, s167_18, s167_19, s167_20, s167_21, s167_22, Option.toList_some, Option.toList_none, List.cons_append, List.nil_append, Nat.le_refl, true_and, and_true, true_or, or_true, false_or, or_false, true_implies, false_implies, implies_true, not_true_eq_false, not_false_eq_true, eq_self, Nat.reduceLT, Nat.reduceLeDiff, Nat.reduceEqDiff, Nat.reduceAdd, Nat.reduceSub, Int.reduceLT, Int.reduceLE, Int.reduceEq, Int.reduceNeg, Int.reduceNe, Int.reduceAdd, Int.reduceSub, Int.reduceMul, Int.reduceToNat, Int.toNat_zero, Int.toNat_one, Int.toNat_natCast, am_cats, am_cat, am_st1, am_st2, am_clr, up2_na, up2_nj, up2_same, List.getElem?_cons_zero, List.getElem?_cons_succ, List.set_cons_zero, List.set_cons_succ, ne_eq, t152, t169, r2, setA_ne, hM, w1, w2]
    exact ⟨kk, fun z => absurd z gh, fun _ => gb_end hQ hS⟩
  | succ r ih =>
    intro j hj z S hS
    have gh : 12 * (k : Int) + j < 12 * (k : Int) + M := by omega
    have kk : 0 ≤ (k : Int) ∧ (k : Int) < 6 := by omega
    have kj : 0 ≤ 12 * (k : Int) + j ∧ 12 * (k : Int) + j < 72 := by omega
    have nt : (12 * (k : Int) + j).toNat = 12 * k + j := by omega
    have go := ih (j + 1) (by omega)
    have e1 : 12 * (k : Int) + ((j + 1 : Nat) : Int) = 12 * (k : Int) + j + 1 := by omega
    rw [e1] at go
    obtain ⟨f, m, t, f1, f2, f3, f4, f5, f6, f7⟩ := hw (12 * k + j) (by omega) (by show _ < 12 * (k : Int) + I 169 k; rw [hM]; omega)
    have f1 : I 170 (12 * k + j) = f := f1
    have f2 : I 171 (12 * k + j) = ((f + m : Nat) : Int) := f2
    have f3 : I 172 (12 * k + j) = ((f + m + t : Nat) : Int) := f3
    have c1 : ∀ S, (∀ j, j < 180 → -2147483648 ≤ S j ∧ S j ≤ 2147483647) → wpc codeT mX (d + 4) 168 [.inr (.inr (some 152)), .inl ((f + m : Nat) : Int), .inl ((f + m + t : Nat) : Int)] (185, s, T, setA I 173 S, J, R) (ctQ s T I J R) := fun S hS => w_comesTo hm hX hF hk (by omega) (by omega) f7 hS (by omega)
    have c2 : ∀ S, (∀ j, j < 180 → -2147483648 ≤ S j ∧ S j ≤ 2147483647) → wpc codeT mX (d + 4) 168 [.inr (.inr (some 152)), .inl (f : Int), .inl ((f + m : Nat) : Int)] (185, s, T, setA I 173 S, J, R) (ctQ s T I J R) := fun S hS => w_comesTo hm hX hF hk (by omega) (by omega) f6 hS (by omega)
    have w1 : w32 (12 * (k : Int)) = 12 * (k : Int) := w32_eq (by omega) (by omega)
    have w2 : w32 (12 * (k : Int) + (M : Int)) = 12 * (k : Int) + (M : Int) := w32_eq (by omega) (by omega)
    have w3 : w32 (12 * (k : Int) + j + 1) = 12 * (k : Int) + j + 1 := w32_eq (by omega) (by omega)
    refine s167_13.mpr ?_
    simp only [s167_14, s167_15, s167_16, s167_17, s167_18, s167_19, s167_20, s167_21, s167_22, s167_23, s167_24, s167_25, s167_26, s167_27, s167_28, s167_29, s167_30, s167_31, s167_32, Option.toList_some, Option.toList_none, List.cons_append, List.nil_append, Nat.le_refl, true_and, and_true, true_or, or_true, false_or, or_false, true_implies, false_implies, implies_true, not_true_eq_false, not_false_eq_true, eq_self, Nat.reduceLT, Nat.reduceLeDiff, Nat.reduceEqDiff, Nat.reduceAdd, Nat.reduceSub, Int.reduceLT, Int.reduceLE, Int.reduceEq, Int.reduceNeg, Int.reduceNe, Int.reduceAdd, Int.reduceSub, Int.reduceMul, Int.reduceToNat, Int.toNat_zero, Int.toNat_one, Int.toNat_natCast, am_cats, am_cat, am_st1, am_st2, am_clr, up2_na, up2_nj, up2_same, List.getElem?_cons_zero, List.getElem?_cons_succ, List.set_cons_zero, List.set_cons_succ, ne_eq, t152, t169, t171, t172, r2, r4, r5, setA_ne, hM, w1, w2, nt, f2, f3]
    refine ⟨kk, fun _ => ⟨kj, kj, wpc_mn (c1 S hS) ?_⟩, fun z => absurd gh z⟩
    rintro v g ⟨z1, S1, rfl, z2, z3, hS1, rfl⟩
    refine ⟨⟨Nat.le_refl _, Nat.le_refl _⟩, ?_⟩
    simp only [s167_33, s167_34, s167_35, s167_36, s167_37, s167_38, s167_39, s167_40, s167_41, s167_42, s167_43, s167_44, s167_45, s167_48, s167_49, Option.toList_some, Option.toList_none, List.cons_append, List.nil_append, Nat.le_refl, true_and, and_true, true_or, or_true, false_or, or_false, true_implies, false_implies, implies_true, not_true_eq_false, not_false_eq_true, eq_self, Nat.reduceLT, Nat.reduceLeDiff, Nat.reduceEqDiff, Nat.reduceAdd, Nat.reduceSub, Int.reduceLT, Int.reduceLE, Int.reduceEq, Int.reduceNeg, Int.reduceNe, Int.reduceAdd, Int.reduceSub, Int.reduceMul, Int.reduceToNat, Int.toNat_zero, Int.toNat_one, Int.toNat_natCast, am_cats, am_cat, am_st1, am_st2, am_clr, up2_na, up2_nj, up2_same, List.getElem?_cons_zero, List.getElem?_cons_succ, List.set_cons_zero, List.set_cons_succ, ne_eq, t152, t170, t171, r3, r4, setA_ne, nt, f1, f2, w3]
    refine ⟨fun _ => ⟨kj, kj, wpc_mn (c2 S1 hS1) ?_⟩, fun _ => go z S1 hS1⟩
    rintro v g ⟨z4, S2, rfl, z5, z6, hS2, rfl⟩
    refine ⟨⟨Nat.le_refl _, Nat.le_refl _⟩, ?_⟩
    simp only [s167_46, s167_47, Option.toList_some, Option.toList_none, List.cons_append, List.nil_append, Nat.le_refl, true_and, and_true, true_or, or_true, false_or, or_false, true_implies, false_implies, implies_true, not_true_eq_false, not_false_eq_true, eq_self, Nat.reduceLT, Nat.reduceLeDiff, Nat.reduceEqDiff, Nat.reduceAdd, Nat.reduceSub, Int.reduceLT, Int.reduceLE, Int.reduceEq, Int.reduceNeg, Int.reduceNe, Int.reduceAdd, Int.reduceSub, Int.reduceMul, Int.reduceToNat, Int.toNat_zero, Int.toNat_one, Int.toNat_natCast, am_cats, am_cat, am_st1, am_st2, am_clr, up2_na, up2_nj, up2_same, List.getElem?_cons_zero, List.getElem?_cons_succ, List.set_cons_zero, List.set_cons_succ, ne_eq]
    exact gb_end hQ hS2
end
theorem con_givesBy : conS cn142 := by
  intro g ls hH hs hc d hd
  obtain ⟨c, s, T, I, J, R⟩ := g
  obtain ⟨d, rfl⟩ : ∃ e, d = e + 5 := ⟨d - 5, by have : 5 ≤ d := hd; omega⟩
  obtain ⟨p0, m0, rfl, q0, hc⟩ := rZ_cons hc.1
  obtain ⟨p1, m1, rfl, q1, hc⟩ := rZ_cons hc
  obtain ⟨p2, m2, rfl, q2, hc⟩ := rZ_cons hc
  obtain ⟨p3, m3, rfl, q3, hc⟩ := rZ_cons hc
  obtain ⟨p4, m4, rfl, q4, hc⟩ := rZ_cons hc
  cases rZ_nil hc
  cases pLr (i := 152) q0
  obtain ⟨k, rfl, b1, b1'⟩ := pLi q1
  obtain ⟨sh, rfl, b2, b2'⟩ := pLi q2
  have h5 := eH5_of hH
  have hW := hH.2.2.2.2.2
  have hc0 : c = 185 := hH.1
  subst hc0
  have hm := mdl_of h5
  obtain ⟨k, rfl⟩ : ∃ n : Nat, k = (n : Int) := ⟨k.toNat, by omega⟩
  have hk : k < 6 := by omega
  have t152 : T 152 = (12, 53) := hm.1 152 (by decide)
  have t169 : T 169 = (100, 6) := hm.1 169 (by decide)
  have r2 : R 152 32 = some 169 := hm.2 32 169 (by decide +kernel) (by decide)
  have hF : ∀ j, j < 9 → -2147483648 ≤ I 174 j ∧ I 174 j ≤ 2147483647 := by
    intro j hj
    have := eB h5 (a := 174) (j := j) (by decide) (by exact hj)
    rw [bI_hi (show 100 ≤ (tT.getD 174 (0, 0)).1 by decide), show bI 174 0 = (-2147483648, 2147483647) by decide] at this
    exact this
  have hX : ∀ j, j < 1080 → I 168 j ≤ 2147483647 := by
    intro j hj
    have := eB h5 (a := 168) (j := j) (by decide) (by exact hj)
    rw [bI_hi (show 100 ≤ (tT.getD 168 (0, 0)).1 by decide), show bI 168 0 = (-2147483648, 2147483647) by decide] at this
    exact this.2
  have hS : ∀ j, j < 180 → -2147483648 ≤ I 173 j ∧ I 173 j ≤ 2147483647 := by
    intro j hj
    have := eB h5 (a := 173) (j := j) (by decide) (by exact hj)
    rw [bI_hi (show 100 ≤ (tT.getD 173 (0, 0)).1 by decide), show bI 173 0 = (-2147483648, 2147483647) by decide] at this
    exact this
  have hb : 0 ≤ I 169 k ∧ I 169 k ≤ 12 := by
    have := eB h5 (a := 169) (j := k) (by decide) (by exact hk)
    rw [bI_hi (show 100 ≤ (tT.getD 169 (0, 0)).1 by decide), show bI 169 0 = (0, 12) by decide] at this
    exact this
  obtain ⟨M, hM⟩ : ∃ n : Nat, I 169 k = (n : Int) := ⟨(I 169 k).toNat, by omega⟩
  have hQ : ∀ (z : Int) (S : Nat → Int), -2147483648 ≤ z ∧ z ≤ 2147483647 → (∀ j, j < 180 → -2147483648 ≤ S j ∧ S j ≤ 2147483647) → conQ cn142 (185, s, T, I, J, R) (some (.inl z)) (185, s, T, setA I 173 S, J, R) := by
    intro z S hz hS
    refine ⟨⟨rfl, hz.1, hz.2⟩, eH_mk ?_ (eW_of (g := (185, s, T, I, J, R)) ?_ hW), ?_⟩
    · refine ⟨h5.1, h5.2.1, fun a j ha hj => ?_, h5.2.2.2⟩
      show (bI a j).1 ≤ setA I 173 S a j ∧ setA I 173 S a j ≤ (bI a j).2
      by_cases e : a = 173
      · subst e
        rw [setA_same, bI_hi (show 100 ≤ (tT.getD 173 (0, 0)).1 by decide), show bI 173 0 = (-2147483648, 2147483647) by decide]
        exact hS j hj
      · rw [setA_ne e]
        exact h5.2.2.1 a j ha hj
    · intro a ha
      refine setA_ne ?_
      intro e
      subst e
      exact absurd ha (by decide)
    · refine ⟨rfl, rfl, rfl, fun a j e => ⟨?_, rfl, rfl⟩⟩
      show setA I 173 S a j = I a j
      rw [setA_ne]
      intro e2
      subst e2
      exact absurd e (by show ¬ (true = false); decide)
  have go := gb_loop (d := d) (s := s) (sh := sh) hm hX hF hQ hk hM (by omega) (hW.1 k hk) M 0 (by omega)
  show wp codeT mX (d + 5) 167 0 _ [] _ _
  have kk : 0 ≤ (k : Int) ∧ (k : Int) < 6 := by omega
  have w1 : w32 (12 * (k : Int)) = 12 * (k : Int) := w32_eq (by omega) (by omega)
  have g1 : ∀ z : Int, wp codeT mX (d + 5) 167 13 [some (.inr (.inr (some 152))), some (.inl (k : Int)), some (.inl sh), some (.inl z), some (.inl (12 * (k : Int)))] [] (185, s, T, I, J, R) (conQ cn142 (185, s, T, I, J, R)) := by
    intro z
    have := go z (I 173) hS
    rw [setA_id, show (12 * (k : Int) + ((0 : Nat) : Int)) = 12 * (k : Int) by omega] at this
    exact this
  simp only [s167_0, s167_1, s167_2, s167_3, s167_4, s167_5, s167_6, s167_7, s167_8, s167_9, s167_10, s167_11, s167_12, Option.toList_some, Option.toList_none, List.cons_append, List.nil_append, Nat.le_refl, true_and, and_true, true_or, or_true, false_or, or_false, true_implies, false_implies, implies_true, not_true_eq_false, not_false_eq_true, eq_self, Nat.reduceLT, Nat.reduceLeDiff, Nat.reduceEqDiff, Nat.reduceAdd, Nat.reduceSub, Int.reduceLT, Int.reduceLE, Int.reduceEq, Int.reduceNeg, Int.reduceNe, Int.reduceAdd, Int.reduceSub, Int.reduceMul, Int.reduceToNat, Int.toNat_zero, Int.toNat_one, Int.toNat_natCast, am_cats, am_cat, am_st1, am_st2, am_clr, up2_na, up2_nj, up2_same, List.getElem?_cons_zero, List.getElem?_cons_succ, List.set_cons_zero, List.set_cons_succ, ne_eq, t152, t169, r2, w1]
  exact ⟨kk, fun _ => g1 _, fun _ => g1 _⟩
