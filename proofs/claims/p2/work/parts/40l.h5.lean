/-! by hand, 5: the reference's comesTo -/
def setA (I : Nat → Nat → Int) (a : Nat) (S : Nat → Int) : Nat → Nat → Int := fun x => if x = a then S else I x
theorem setA_ne {I : Nat → Nat → Int} {a x : Nat} {S : Nat → Int} (h : x ≠ a) : setA I a S x = I x := if_neg h
theorem setA_same {I : Nat → Nat → Int} {a : Nat} {S : Nat → Int} : setA I a S a = S := if_pos rfl
theorem up2_setA {I : Nat → Nat → Int} {a j : Nat} {S : Nat → Int} {v : Int} : up2 (setA I a S) a j v = setA I a (fun y => if y = j then v else S y) := by
  funext x y
  unfold up2 setA
  by_cases h : x = a
  · subst h
    by_cases h2 : y = j
    · simp only [h2, and_self, if_true]
    · simp only [h2, and_false, if_false, if_true]
  · simp only [h, false_and, if_false]
theorem setA_id {I : Nat → Nat → Int} {a : Nat} : setA I a (I a) = I := by
  funext x
  unfold setA
  split
  · rename_i h; rw [h]
  · rfl
theorem cOp_bd {c : Int} (h : 0 ≤ c) (h2 : c ≤ 2147483647) : 0 ≤ cOp c ∧ cOp c ≤ 2047 ∧ 0 ≤ cVl c ∧ cVl c ≤ 1048575 ∧ c = cOp c * 1048576 + cVl c := by
  unfold cOp cVl
  rw [Int.tdiv_eq_ediv_of_nonneg h]
  omega
theorem dep_bd {X : Nat → Int} {b f n : Nat} (hw : wfS X b f n) : ∀ i, i ≤ n → 0 ≤ dep X f i ∧ dep X f i ≤ i
  | 0, _ => ⟨Int.le_refl 0, Int.le_refl 0⟩
  | i + 1, h => by
    have h1 := dep_bd hw i (by omega)
    obtain ⟨-, -, -, h2, -⟩ := hw i (by omega)
    rw [dep]
    unfold cNeed at h2
    unfold cEff
    split at h2
    · rename_i e
      rw [if_pos e]
      omega
    · rename_i e
      rw [if_neg e]
      split at h2 <;> split <;> omega
section
variable {d s : Nat} {T : Nat → Nat × Nat} {I J : Nat → Nat → Int} {R : Nat → Nat → Option Nat}
/-- what comesTo leaves behind -/
def ctQ (s : Nat) (T : Nat → Nat × Nat) (I J : Nat → Nat → Int) (R : Nat → Nat → Option Nat) : Option AV → AH → Prop := fun v g => ∃ (z : Int) (S : Nat → Int), v = some (.inl z) ∧ -2147483648 ≤ z ∧ z ≤ 2147483647 ∧ (∀ j, j < 180 → -2147483648 ≤ S j ∧ S j ≤ 2147483647) ∧ g = (185, s, T, setA I 173 S, J, R)
theorem ctQ_i {S : Nat → Int} {z : Int} (hS : ∀ j, j < 180 → -2147483648 ≤ S j ∧ S j ≤ 2147483647) (h1 : -2147483648 ≤ z) (h2 : z ≤ 2147483647) : ctQ s T I J R (some (.inl z)) (185, s, T, setA I 173 S, J, R) := ⟨z, S, rfl, h1, h2, hS, rfl⟩
theorem S_up {S : Nat → Int} {j : Nat} {v : Int} (hS : ∀ j, j < 180 → -2147483648 ≤ S j ∧ S j ≤ 2147483647) (h : -2147483648 ≤ v ∧ v ≤ 2147483647) : ∀ y, y < 180 → -2147483648 ≤ (if y = j then v else S y) ∧ (if y = j then v else S y) ≤ 2147483647 := by
  intro y hy
  split
  · exact h
  · exact hS y hy
set_option maxHeartbeats 4000000 in
theorem ct_loop (hm : mdl T R) (hX : ∀ j, j < 1080 → I 168 j ≤ 2147483647) (hF : ∀ j, j < 9 → -2147483648 ≤ I 174 j ∧ I 174 j ≤ 2147483647) {b f n : Nat} (hn : n ≤ 180) (hf : f + n ≤ 1080) (hb : b ≤ 1080) (hw : wfS (I 168) b f n) : ∀ (r i : Nat), i + r = n → ∀ (l6 l7 : Option AV) (S : Nat → Int), (∀ j, j < 180 → -2147483648 ≤ S j ∧ S j ≤ 2147483647) → wp codeT mX (d + 1) 168 10 [some (.inr (.inr (some 152))), some (.inl (f : Int)), some (.inl ((f : Int) + n)), some (.inl (dep (I 168) f i)), some (.inl (b : Int)), some (.inl ((f : Int) + i)), l6, l7] [] (185, s, T, setA I 173 S, J, R) (ctQ s T I J R) := by
  have t152 : T 152 = (12, 53) := hm.1 152 (by decide)
  have t168 : T 168 = (100, 1080) := hm.1 168 (by decide)
  have t173 : T 173 = (100, 180) := hm.1 173 (by decide)
  have t174 : T 174 = (100, 9) := hm.1 174 (by decide)
  have r1 : R 152 31 = some 168 := hm.2 31 168 (by decide +kernel) (by decide)
  have r2 : R 152 36 = some 173 := hm.2 36 173 (by decide +kernel) (by decide)
  have r3 : R 152 37 = some 174 := hm.2 37 174 (by decide +kernel) (by decide)
  intro r
  induction r using Nat.strongRecOn with
  | _ r ih =>
    intro i hi l6 l7 S hS
    by_cases h0 : i = n
    · subst h0
      refine s168_10.mpr ?_
      simp only [s168_11, s168_12, s168_136, s168_137, s168_138, s168_139, s168_140, Option.toList_some, Option.toList_none, List.cons_append, List.nil_append, Nat.le_refl, true_and, and_true, true_or, or_true, false_or, or_false, true_implies, false_implies, implies_true, not_true_eq_false, not_false_eq_true, eq_self, Nat.reduceLT, Nat.reduceLeDiff, Nat.reduceEqDiff, Nat.reduceAdd, Nat.reduceSub, Int.reduceLT, Int.reduceLE, Int.reduceEq, Int.reduceNeg, Int.reduceNe, Int.reduceAdd, Int.reduceSub, Int.reduceMul, Int.reduceToNat, Int.toNat_zero, Int.toNat_one, Int.toNat_natCast, am_cats, am_cat, am_st1, am_st2, am_clr, up2_na, up2_nj, up2_same, List.getElem?_cons_zero, List.getElem?_cons_succ, List.set_cons_zero, List.set_cons_succ, ne_eq, t152, t173, r2, setA_same]
      refine ⟨fun z => absurd z (by omega), fun _ => ⟨by omega, ?_⟩⟩
      exact ctQ_i hS (hS 0 (by decide)).1 (hS 0 (by decide)).2
    · have hin : i < n := by omega
      obtain ⟨c1, c2, c3, c4, c5⟩ := hw i hin
      have hD := dep_bd hw i (by omega)
      have hx := hX (f + i) (by omega)
      obtain ⟨o1, -, v1, v2, -⟩ := cOp_bd c1 hx
      have hdn : dep (I 168) f (i + 1) = dep (I 168) f i + cEff (I 168 (f + i)) := rfl
      have nat1 : ((f : Int) + (i : Int)).toNat = f + i := by omega
      obtain ⟨o, ho⟩ : ∃ o, cOp (I 168 (f + i)) = o := ⟨_, rfl⟩
      obtain ⟨v, hv⟩ : ∃ v, cVl (I 168 (f + i)) = v := ⟨_, rfl⟩
      rw [ho] at o1 c2 c3 c5
      rw [hv] at v1 v2 c3
      -- the next one
      have nx : ∀ (D : Int), D = dep (I 168) f (i + 1) → ∀ (l6 l7 : Option AV) (S : Nat → Int), (∀ j, j < 180 → -2147483648 ≤ S j ∧ S j ≤ 2147483647) → wp codeT mX (d + 1) 168 10 [some (.inr (.inr (some 152))), some (.inl (f : Int)), some (.inl ((f : Int) + n)), some (.inl D), some (.inl (b : Int)), some (.inl ((f : Int) + i + 1)), l6, l7] [] (185, s, T, setA I 173 S, J, R) (ctQ s T I J R) := by
        intro D hD l6 l7 S hS
        have := ih (r - 1) (by omega) (i + 1) (by omega) l6 l7 S hS
        rw [hD, show (f : Int) + i + 1 = (f : Int) + ((i + 1 : Nat) : Int) by omega]
        exact this
      obtain ⟨D, hDD⟩ : ∃ n : Nat, dep (I 168) f i = (n : Int) := ⟨(dep (I 168) f i).toNat, by omega⟩
      rw [hDD] at c4 hdn hD
      have d1 : D < 180 := by omega
      have d2 : (D : Int) ≤ 1080 := by omega
      have d3 : (f : Int) + i ≤ 1080 := by omega
      have d4 : 0 ≤ (f : Int) + i := by omega
      have d5 : (f : Int) + i < (f : Int) + n := by omega
      have d6 : (f : Int) + i < 1080 := by omega
      have d7 : (D : Int) < 180 := by omega
      have d8 : 0 ≤ (D : Int) := by omega
      have d9 : (-2147483648 : Int) ≤ v ∧ v ≤ 2147483647 := by omega
      have hSD := hS D d1
      have hSD1 : -2147483648 ≤ S (D - 1) ∧ S (D - 1) ≤ 2147483647 := hS (D - 1) (by omega)
      have nat2 : ((D : Int) - 1).toNat = D - 1 := by omega
      have hE : cEff (I 168 (f + i)) = (if o = 0 ∨ o = 1 then 1 else if o = 10 then 0 else -1) := by unfold cEff; rw [ho]
      have hNd : cNeed (I 168 (f + i)) = (if o = 0 ∨ o = 1 then 0 else if 10 ≤ o then 1 else 2) := by unfold cNeed; rw [ho]
      rw [hE] at hdn
      rw [hNd] at c4
      clear hE hNd ih
      by_cases k0 : o = 0
      · subst k0
        rw [if_pos (Or.inl rfl)] at hdn
        have go := nx _ hdn.symm
        clear hdn c4 c2 c3 c5 nx
        have hop : w32 (Int.tdiv (I 168 (f + i)) 1048576) = o := by
          have e : Int.tdiv (I 168 (f + i)) 1048576 = o := ho
          rw [e]
          exact w32_sm ⟨o1.1, o1.2⟩
        have hvl : w32 (I 168 (f + i) - Int.tdiv (I 168 (f + i)) 1048576 * 1048576) = v := by
          have e : I 168 (f + i) - Int.tdiv (I 168 (f + i)) 1048576 * 1048576 = v := hv
          rw [e]
          exact w32_eq d9.1 d9.2
        have hk1 : w32 ((f : Int) + i + 1) = (f : Int) + i + 1 := w32_p1 d4 d3
        have w1 : w32 ((D : Int) + 1) = (D : Int) + 1 := w32_p1 d8 d2
        have w2 : w32 ((D : Int) - 1) = (D : Int) - 1 := w32_m1 d8 d2
        refine s168_10.mpr ?_
        rw [hDD]
        simp only [s168_0, s168_1, s168_2, s168_3, s168_4, s168_5, s168_6, s168_7, s168_8, s168_9, s168_11, s168_12, s168_13, s168_14, s168_15, s168_16, s168_17, s168_18, s168_19, s168_20, s168_21, s168_22, s168_23, s168_24, s168_25, s168_26, s168_27, s168_28, s168_29, s168_30, s168_31, s168_32, s168_33, s168_34, s168_35, s168_36, s168_37, s168_38, s168_39, s168_40, s168_41, s168_42, s168_43, s168_44, s168_45, s168_46, s168_47, s168_48, s168_49, s168_50, s168_51, s168_52, s168_53, s168_54, s168_55, s168_56, s168_57, s168_58, s168_59, s168_60, s168_61, s168_62, s168_63, s168_64, s168_65, s168_66, s168_67, s168_68, s168_69, s168_70, s168_71, s168_72, s168_73, s168_74, s168_75, s168_76, s168_77, s168_78, s168_79, s168_80, s168_81, s168_82, s168_83, s168_84, s168_85, s168_86, s168_87, s168_88, s168_89, s168_90, s168_91, s168_92, s168_93, s168_94, s168_95, s168_96, s168_97, s168_98, s168_99, s168_100, s168_101, s168_102, s168_103, s168_104, s168_105, s168_106, s168_107, s168_108, s168_109, s168_110, s168_111, s168_112, s168_113, s168_114, s168_115, s168_116, s168_117, s168_118, s168_119, s168_120, s168_121, s168_122, s168_123, s168_124, s168_125, s168_126, s168_127, s168_128, s168_129, s168_130, s168_131, s168_132, s168_133, s168_134, s168_135, s168_136, s168_137, s168_138, s168_139, s168_140, Option.toList_some, Option.toList_none, List.cons_append, List.nil_append, Nat.le_refl, true_and, and_true, true_or, or_true, false_or, or_false, true_implies, false_implies, implies_true, not_true_eq_false, not_false_eq_true, eq_self, Nat.reduceLT, Nat.reduceLeDiff, Nat.reduceEqDiff, Nat.reduceAdd, Nat.reduceSub, Int.reduceLT, Int.reduceLE, Int.reduceEq, Int.reduceNeg, Int.reduceNe, Int.reduceAdd, Int.reduceSub, Int.reduceMul, Int.reduceToNat, Int.toNat_zero, Int.toNat_one, Int.toNat_natCast, am_cats, am_cat, am_st1, am_st2, am_clr, up2_na, up2_nj, up2_same, List.getElem?_cons_zero, List.getElem?_cons_succ, List.set_cons_zero, List.set_cons_succ, ne_eq, t152, t168, t173, t174, r1, r2, r3, setA_same, setA_ne, up2_setA, nat1, hop, hvl, hk1, w1]
        exact ⟨fun _ => ⟨⟨d4, d6⟩, ⟨d4, d6⟩, ⟨d8, d7⟩, go _ _ _ (S_up hS d9)⟩, fun z => absurd d5 z⟩
      by_cases k1 : o = 1
      · subst k1
        rw [if_pos (Or.inr rfl)] at hdn
        have go := nx _ hdn.symm
        obtain ⟨v, rfl⟩ : ∃ n : Nat, v = (n : Int) := ⟨v.toNat, by omega⟩
        have hv8 := c3 rfl
        have hFv := hF v (by omega)
        have dv : 0 ≤ (v : Int) ∧ (v : Int) < 9 := by omega
        clear hdn c4 c2 c3 c5 nx
        have hop : w32 (Int.tdiv (I 168 (f + i)) 1048576) = o := by
          have e : Int.tdiv (I 168 (f + i)) 1048576 = o := ho
          rw [e]
          exact w32_sm ⟨o1.1, o1.2⟩
        have hvl : w32 (I 168 (f + i) - Int.tdiv (I 168 (f + i)) 1048576 * 1048576) = v := by
          have e : I 168 (f + i) - Int.tdiv (I 168 (f + i)) 1048576 * 1048576 = v := hv
          rw [e]
          exact w32_eq d9.1 d9.2
        have hk1 : w32 ((f : Int) + i + 1) = (f : Int) + i + 1 := w32_p1 d4 d3
        have w1 : w32 ((D : Int) + 1) = (D : Int) + 1 := w32_p1 d8 d2
        have w2 : w32 ((D : Int) - 1) = (D : Int) - 1 := w32_m1 d8 d2
        refine s168_10.mpr ?_
        rw [hDD]
        simp only [s168_0, s168_1, s168_2, s168_3, s168_4, s168_5, s168_6, s168_7, s168_8, s168_9, s168_11, s168_12, s168_13, s168_14, s168_15, s168_16, s168_17, s168_18, s168_19, s168_20, s168_21, s168_22, s168_23, s168_24, s168_25, s168_26, s168_27, s168_28, s168_29, s168_30, s168_31, s168_32, s168_33, s168_34, s168_35, s168_36, s168_37, s168_38, s168_39, s168_40, s168_41, s168_42, s168_43, s168_44, s168_45, s168_46, s168_47, s168_48, s168_49, s168_50, s168_51, s168_52, s168_53, s168_54, s168_55, s168_56, s168_57, s168_58, s168_59, s168_60, s168_61, s168_62, s168_63, s168_64, s168_65, s168_66, s168_67, s168_68, s168_69, s168_70, s168_71, s168_72, s168_73, s168_74, s168_75, s168_76, s168_77, s168_78, s168_79, s168_80, s168_81, s168_82, s168_83, s168_84, s168_85, s168_86, s168_87, s168_88, s168_89, s168_90, s168_91, s168_92, s168_93, s168_94, s168_95, s168_96, s168_97, s168_98, s168_99, s168_100, s168_101, s168_102, s168_103, s168_104, s168_105, s168_106, s168_107, s168_108, s168_109, s168_110, s168_111, s168_112, s168_113, s168_114, s168_115, s168_116, s168_117, s168_118, s168_119, s168_120, s168_121, s168_122, s168_123, s168_124, s168_125, s168_126, s168_127, s168_128, s168_129, s168_130, s168_131, s168_132, s168_133, s168_134, s168_135, s168_136, s168_137, s168_138, s168_139, s168_140, Option.toList_some, Option.toList_none, List.cons_append, List.nil_append, Nat.le_refl, true_and, and_true, true_or, or_true, false_or, or_false, true_implies, false_implies, implies_true, not_true_eq_false, not_false_eq_true, eq_self, Nat.reduceLT, Nat.reduceLeDiff, Nat.reduceEqDiff, Nat.reduceAdd, Nat.reduceSub, Int.reduceLT, Int.reduceLE, Int.reduceEq, Int.reduceNeg, Int.reduceNe, Int.reduceAdd, Int.reduceSub, Int.reduceMul, Int.reduceToNat, Int.toNat_zero, Int.toNat_one, Int.toNat_natCast, am_cats, am_cat, am_st1, am_st2, am_clr, up2_na, up2_nj, up2_same, List.getElem?_cons_zero, List.getElem?_cons_succ, List.set_cons_zero, List.set_cons_succ, ne_eq, t152, t168, t173, t174, r1, r2, r3, setA_same, setA_ne, up2_setA, nat1, hop, hvl, hk1, w1]
        exact ⟨fun _ => ⟨⟨d4, d6⟩, ⟨d4, d6⟩, dv, ⟨d8, d7⟩, go _ _ _ (S_up hS hFv)⟩, fun z => absurd d5 z⟩
      have k01 : ¬ (o = 0 ∨ o = 1) := fun z => z.elim k0 k1
      rw [if_neg k01] at hdn c4
      by_cases k2 : o = 10
      · subst k2
        rw [if_pos rfl] at hdn
        rw [if_pos (by decide)] at c4
        have dm : 0 ≤ (D : Int) - 1 ∧ (D : Int) - 1 < 180 := by omega
        have go := nx _ (by rw [hdn]; exact (Int.add_zero _).symm)
        clear hdn c4 c2 c3 c5 nx
        have hop : w32 (Int.tdiv (I 168 (f + i)) 1048576) = o := by
          have e : Int.tdiv (I 168 (f + i)) 1048576 = o := ho
          rw [e]
          exact w32_sm ⟨o1.1, o1.2⟩
        have hvl : w32 (I 168 (f + i) - Int.tdiv (I 168 (f + i)) 1048576 * 1048576) = v := by
          have e : I 168 (f + i) - Int.tdiv (I 168 (f + i)) 1048576 * 1048576 = v := hv
          rw [e]
          exact w32_eq d9.1 d9.2
        have hk1 : w32 ((f : Int) + i + 1) = (f : Int) + i + 1 := w32_p1 d4 d3
        have w1 : w32 ((D : Int) + 1) = (D : Int) + 1 := w32_p1 d8 d2
        have w2 : w32 ((D : Int) - 1) = (D : Int) - 1 := w32_m1 d8 d2
        refine s168_10.mpr ?_
        rw [hDD]
        simp only [s168_0, s168_1, s168_2, s168_3, s168_4, s168_5, s168_6, s168_7, s168_8, s168_9, s168_11, s168_12, s168_13, s168_14, s168_15, s168_16, s168_17, s168_18, s168_19, s168_20, s168_21, s168_22, s168_23, s168_24, s168_25, s168_26, s168_27, s168_28, s168_29, s168_30, s168_31, s168_32, s168_33, s168_34, s168_35, s168_36, s168_37, s168_38, s168_39, s168_40, s168_41, s168_42, s168_43, s168_44, s168_45, s168_46, s168_47, s168_48, s168_49, s168_50, s168_51, s168_52, s168_53, s168_54, s168_55, s168_56, s168_57, s168_58, s168_59, s168_60, s168_61, s168_62, s168_63, s168_64, s168_65, s168_66, s168_67, s168_68, s168_69, s168_70, s168_71, s168_72, s168_73, s168_74, s168_75, s168_76, s168_77, s168_78, s168_79, s168_80, s168_81, s168_82, s168_83, s168_84, s168_85, s168_86, s168_87, s168_88, s168_89, s168_90, s168_91, s168_92, s168_93, s168_94, s168_95, s168_96, s168_97, s168_98, s168_99, s168_100, s168_101, s168_102, s168_103, s168_104, s168_105, s168_106, s168_107, s168_108, s168_109, s168_110, s168_111, s168_112, s168_113, s168_114, s168_115, s168_116, s168_117, s168_118, s168_119, s168_120, s168_121, s168_122, s168_123, s168_124, s168_125, s168_126, s168_127, s168_128, s168_129, s168_130, s168_131, s168_132, s168_133, s168_134, s168_135, s168_136, s168_137, s168_138, s168_139, s168_140, Option.toList_some, Option.toList_none, List.cons_append, List.nil_append, Nat.le_refl, true_and, and_true, true_or, or_true, false_or, or_false, true_implies, false_implies, implies_true, not_true_eq_false, not_false_eq_true, eq_self, Nat.reduceLT, Nat.reduceLeDiff, Nat.reduceEqDiff, Nat.reduceAdd, Nat.reduceSub, Int.reduceLT, Int.reduceLE, Int.reduceEq, Int.reduceNeg, Int.reduceNe, Int.reduceAdd, Int.reduceSub, Int.reduceMul, Int.reduceToNat, Int.toNat_zero, Int.toNat_one, Int.toNat_natCast, am_cats, am_cat, am_st1, am_st2, am_clr, up2_na, up2_nj, up2_same, List.getElem?_cons_zero, List.getElem?_cons_succ, List.set_cons_zero, List.set_cons_succ, ne_eq, t152, t168, t173, t174, r1, r2, r3, setA_same, setA_ne, up2_setA, nat1, nat2, hop, hvl, hk1, w2]
        exact ⟨fun _ => ⟨⟨d4, d6⟩, ⟨d4, d6⟩, dm, dm, go _ _ _ (S_up hS (w32_lo _))⟩, fun z => absurd d5 z⟩
      rw [if_neg k2] at hdn
      by_cases k3 : 11 ≤ o
      · rw [if_pos (by omega)] at c4
        obtain ⟨t, e1, e2, e3, e4⟩ := c5 k3
        have dm : 0 ≤ (D : Int) - 1 ∧ (D : Int) - 1 < 180 := by omega
        have ge : w32 ((b : Int) + v) = (f : Int) + (t : Int) := by
          rw [e1]
          exact w32_eq (by omega) (by omega)
        have go := nx _ hdn.symm
        sorry
      · sorry
end
