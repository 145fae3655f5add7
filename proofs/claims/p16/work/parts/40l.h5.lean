/-! by hand, 5: the reference's comesTo -/
def setA (I : Nat → Nat → Int) (a : Nat) (S : Nat → Int) : Nat → Nat → Int := fun x => if x = a then S else I x
theorem setA_ne {I : Nat → Nat → Int} {a x : Nat} {S : Nat → Int} (h : x ≠ a) : setA I a S x = I x := if_neg h
theorem setA_same {I : Nat → Nat → Int} {a : Nat} {S : Nat → Int} : setA I a S a = S := if_pos rfl
theorem up2_setA {I : Nat → Nat → Int} {a j : Nat} {S : Nat → Int} {v : Int} : up2 (setA I a S) a j v = setA I a (fun y => if y = j then v else S y) := by
  funext x y
  unfold up2 setA
  by_cases h : x = a
  · subst h
    by_cases h2 : y = j
    · simp only [h2, and_self, if_true]
    · simp only [h2, and_false, if_false, if_true]
  · simp only [h, false_and, if_false]
theorem setA_id {I : Nat → Nat → Int} {a : Nat} : setA I a (I a) = I := by
  funext x
  unfold setA
  split
  · rename_i h; rw [h]
  · rfl
theorem cOp_bd {c : Int} (h : 0 ≤ c) (h2 : c ≤ 2147483647) : 0 ≤ cOp c ∧ cOp c ≤ 2047 ∧ 0 ≤ cVl c ∧ cVl c ≤ 1048575 ∧ c = cOp c * 1048576 + cVl c := by
  unfold cOp cVl
  rw [Int.tdiv_eq_ediv_of_nonneg h]
  omega
theorem dep_bd {X : Nat → Int} {b f n : Nat} (hw : wfS X b f n) : ∀ i, i ≤ n → 0 ≤ dep X f i ∧ dep X f i ≤ i
  | 0, _ => ⟨Int.le_refl 0, Int.le_refl 0⟩
  | i + 1, h => by
    have h1 := dep_bd hw i (by omega)
    obtain ⟨-, -, -, h2, -⟩ := hw i (by omega)
    rw [dep]
    unfold cNeed at h2
    unfold cEff
    split at h2
    · rename_i e
      rw [if_pos e]
      omega
    · rename_i e
      rw [if_neg e]
      split at h2 <;> split <;> omega
def rkn (o a b : Int) : Int := if o = 2 then w32 (a + b) else if o = 3 then w32 (a - b) else if o = 4 then w32 (a * b) else if o = 5 then w32 (Int.tdiv a b) else if o = 6 then w32 (a - Int.tdiv a b * b) else if o = 7 then (if a < b then 1 else 0) else if o = 8 then (if b < a then 1 else 0) else if a = b then 1 else 0
theorem rkn_rg {o a b : Int} : -2147483648 ≤ rkn o a b ∧ rkn o a b ≤ 2147483647 := by
  unfold rkn
  split
  · exact w32_lo _
  split
  · exact w32_lo _
  split
  · exact w32_lo _
  split
  · exact w32_lo _
  split
  · exact w32_lo _
  split
  · split <;> decide
  split
  · split <;> decide
  split <;> decide
theorem w_reckon {d : Nat} {h : AH} {o a b : Int} (ho : 2 ≤ o ∧ o ≤ 9) (hz : o = 5 ∨ o = 6 → b ≠ 0) : wpc codeT mX d 169 [.inl o, .inl a, .inl b] h (fun v g => g = h ∧ v = some (.inl (rkn o a b))) := by
  have k : o = 2 ∨ o = 3 ∨ o = 4 ∨ o = 5 ∨ o = 6 ∨ o = 7 ∨ o = 8 ∨ o = 9 := by omega
  rcases k with rfl | rfl | rfl | rfl | rfl | rfl | rfl | rfl <;> simp only [e169, s169_0, s169_1, s169_2, s169_3, s169_4, s169_5, s169_6, s169_7, s169_8, s169_9, s169_10, s169_11, s169_12, s169_13, s169_14, s169_15, s169_16, s169_17, s169_18, s169_19, s169_20, s169_21, s169_22, s169_23, s169_24, s169_25, s169_26, s169_27, s169_28, s169_29, s169_30, s169_31, s169_32, s169_33, s169_34, s169_35, s169_36, s169_37, s169_38, s169_39, s169_40, s169_41, s169_42, Option.toList_some, Option.toList_none, List.cons_append, List.nil_append, Nat.le_refl, true_and, and_true, true_or, or_true, false_or, or_false, true_implies, false_implies, implies_true, not_true_eq_false, not_false_eq_true, eq_self, Nat.reduceLT, Nat.reduceLeDiff, Nat.reduceEqDiff, Nat.reduceAdd, Nat.reduceSub, Int.reduceLT, Int.reduceLE, Int.reduceEq, Int.reduceNeg, Int.reduceNe, Int.reduceAdd, Int.reduceSub, Int.reduceMul, Int.reduceToNat, Int.toNat_zero, Int.toNat_one, Int.toNat_natCast, am_cats, am_cat, am_st1, am_st2, am_clr, up2_na, up2_nj, up2_same, List.getElem?_cons_zero, List.getElem?_cons_succ, List.set_cons_zero, List.set_cons_succ, ne_eq]
  · rfl
  · rfl
  · rfl
  · exact ⟨hz (Or.inl rfl), rfl⟩
  · exact ⟨hz (Or.inr rfl), rfl⟩
  · exact ⟨fun z => by show _ = some (Sum.inl (if a < b then 1 else 0)); rw [if_pos z], fun z => by show _ = some (Sum.inl (if a < b then 1 else 0)); rw [if_neg z]⟩
  · exact ⟨fun z => by show _ = some (Sum.inl (if b < a then 1 else 0)); rw [if_pos z], fun z => by show _ = some (Sum.inl (if b < a then 1 else 0)); rw [if_neg z]⟩
  · exact ⟨fun z => by show _ = some (Sum.inl (if a = b then 1 else 0)); rw [if_pos z], fun z => by show _ = some (Sum.inl (if a = b then 1 else 0)); rw [if_neg z]⟩
section
variable {d s : Nat} {T : Nat → Nat × Nat} {I J : Nat → Nat → Int} {R : Nat → Nat → Option Nat}
/-- what comesTo leaves behind -/
def ctQ (s : Nat) (T : Nat → Nat × Nat) (I J : Nat → Nat → Int) (R : Nat → Nat → Option Nat) : Option AV → AH → Prop := fun v g => ∃ (z : Int) (S : Nat → Int), v = some (.inl z) ∧ -2147483648 ≤ z ∧ z ≤ 2147483647 ∧ (∀ j, j < 180 → -2147483648 ≤ S j ∧ S j ≤ 2147483647) ∧ g = (185, s, T, setA I 173 S, J, R)
theorem ctQ_i {S : Nat → Int} {z : Int} (hS : ∀ j, j < 180 → -2147483648 ≤ S j ∧ S j ≤ 2147483647) (h1 : -2147483648 ≤ z) (h2 : z ≤ 2147483647) : ctQ s T I J R (some (.inl z)) (185, s, T, setA I 173 S, J, R) := ⟨z, S, rfl, h1, h2, hS, rfl⟩
theorem S_up {S : Nat → Int} {j : Nat} {v : Int} (hS : ∀ j, j < 180 → -2147483648 ≤ S j ∧ S j ≤ 2147483647) (h : -2147483648 ≤ v ∧ v ≤ 2147483647) : ∀ y, y < 180 → -2147483648 ≤ (if y = j then v else S y) ∧ (if y = j then v else S y) ≤ 2147483647 := by
  intro y hy
  split
  · exact h
  · exact hS y hy
set_option maxHeartbeats 4000000 in
theorem ct_loop (hm : mdl T R) (hX : ∀ j, j < 1080 → I 168 j ≤ 2147483647) (hF : ∀ j, j < 9 → -2147483648 ≤ I 174 j ∧ I 174 j ≤ 2147483647) {b f n : Nat} (hn : n ≤ 180) (hf : f + n ≤ 1080) (hb : b ≤ 1080) (hw : wfS (I 168) b f n) : ∀ (r i : Nat), i + r = n → ∀ (l6 l7 : Option AV) (S : Nat → Int), (∀ j, j < 180 → -2147483648 ≤ S j ∧ S j ≤ 2147483647) → wp codeT mX (d + 1) 168 10 [some (.inr (.inr (some 152))), some (.inl (f : Int)), some (.inl ((f : Int) + n)), some (.inl (dep (I 168) f i)), some (.inl (b : Int)), some (.inl ((f : Int) + i)), l6, l7] [] (185, s, T, setA I 173 S, J, R) (ctQ s T I J R) := by
  have t152 : T 152 = (12, 53) := hm.1 152 (by decide)
  have t168 : T 168 = (100, 1080) := hm.1 168 (by decide)
  have t173 : T 173 = (100, 180) := hm.1 173 (by decide)
  have t174 : T 174 = (100, 9) := hm.1 174 (by decide)
  have r1 : R 152 31 = some 168 := hm.2 31 168 (by decide +kernel) (by decide)
  have r2 : R 152 36 = some 173 := hm.2 36 173 (by decide +kernel) (by decide)
  have r3 : R 152 37 = some 174 := hm.2 37 174 (by decide +kernel) (by decide)
  intro r
  induction r using Nat.strongRecOn with
  | _ r ih =>
    intro i hi l6 l7 S hS
    by_cases h0 : i = n
    · subst h0
      refine s168_10.mpr ?_
      simp only [s168_11, s168_12, s168_136, s168_137, s168_138, s168_139, s168_140, Option.toList_some, Option.toList_none, List.cons_append, List.nil_append, Nat.le_refl, true_and, and_true, true_or, or_true, false_or, or_false, true_implies, false_implies, implies_true, not_true_eq_false, not_false_eq_true, eq_self, Nat.reduceLT, Nat.reduceLeDiff, Nat.reduceEqDiff, Nat.reduceAdd, Nat.reduceSub, Int.reduceLT, Int.reduceLE, Int.reduceEq, Int.reduceNeg, Int.reduceNe, Int.reduceAdd, Int.reduceSub, Int.reduceMul, Int.reduceToNat, Int.toNat_zero, Int.toNat_one, Int.toNat_natCast, am_cats, am_cat, am_st1, am_st2, am_clr, up2_na, up2_nj, up2_same, List.getElem?_cons_zero, List.getElem?_cons_succ, List.set_cons_zero, List.set_cons_succ, ne_eq, t152, t173, r2, setA_same]
      refine ⟨fun z => absurd z (by omega), fun _ => ⟨by omega, ?_⟩⟩
      exact ctQ_i hS (hS 0 (by decide)).1 (hS 0 (by decide)).2
    · have hin : i < n := by omega
      obtain ⟨c1, c2, c3, c4, c5⟩ := hw i hin
      have hD := dep_bd hw i (by omega)
      have hx := hX (f + i) (by omega)
      obtain ⟨o1, -, v1, v2, -⟩ := cOp_bd c1 hx
      have hdn : dep (I 168) f (i + 1) = dep (I 168) f i + cEff (I 168 (f + i)) := rfl
      have nat1 : ((f : Int) + (i : Int)).toNat = f + i := by omega
      obtain ⟨o, ho⟩ : ∃ o, cOp (I 168 (f + i)) = o := ⟨_, rfl⟩
      obtain ⟨v, hv⟩ : ∃ v, cVl (I 168 (f + i)) = v := ⟨_, rfl⟩
      rw [ho] at o1 c2 c3 c5
      rw [hv] at v1 v2 c3
      -- the next one
      have nx : ∀ (D : Int), D = dep (I 168) f (i + 1) → ∀ (l6 l7 : Option AV) (S : Nat → Int), (∀ j, j < 180 → -2147483648 ≤ S j ∧ S j ≤ 2147483647) → wp codeT mX (d + 1) 168 10 [some (.inr (.inr (some 152))), some (.inl (f : Int)), some (.inl ((f : Int) + n)), some (.inl D), some (.inl (b : Int)), some (.inl ((f : Int) + i + 1)), l6, l7] [] (185, s, T, setA I 173 S, J, R) (ctQ s T I J R) := by
        intro D hD l6 l7 S hS
        have := ih (r - 1) (by omega) (i + 1) (by omega) l6 l7 S hS
        rw [hD, show (f : Int) + i + 1 = (f : Int) + ((i + 1 : Nat) : Int) by omega]
        exact this
      have jmp : ∀ (t : Nat) (D : Int), i < t → t ≤ n → D = dep (I 168) f t → ∀ (l6 l7 : Option AV) (S : Nat → Int), (∀ j, j < 180 → -2147483648 ≤ S j ∧ S j ≤ 2147483647) → wp codeT mX (d + 1) 168 10 [some (.inr (.inr (some 152))), some (.inl (f : Int)), some (.inl ((f : Int) + n)), some (.inl D), some (.inl (b : Int)), some (.inl ((f : Int) + t)), l6, l7] [] (185, s, T, setA I 173 S, J, R) (ctQ s T I J R) := by
        intro t D ht1 ht2 hD l6 l7 S hS
        have := ih (n - t) (by omega) t (by omega) l6 l7 S hS
        rw [hD]
        exact this
      obtain ⟨D, hDD⟩ : ∃ n : Nat, dep (I 168) f i = (n : Int) := ⟨(dep (I 168) f i).toNat, by omega⟩
      rw [hDD] at c4 hdn hD
      have d1 : D < 180 := by omega
      have d2 : (D : Int) ≤ 1080 := by omega
      have d3 : (f : Int) + i ≤ 1080 := by omega
      have d4 : 0 ≤ (f : Int) + i := by omega
      have d5 : (f : Int) + i < (f : Int) + n := by omega
      have d6 : (f : Int) + i < 1080 := by omega
      have d7 : (D : Int) < 180 := by omega
      have d8 : 0 ≤ (D : Int) := by omega
      have d9 : (-2147483648 : Int) ≤ v ∧ v ≤ 2147483647 := by omega
      have hSD := hS D d1
      have hSD1 : -2147483648 ≤ S (D - 1) ∧ S (D - 1) ≤ 2147483647 := hS (D - 1) (by omega)
      have nat2 : ((D : Int) - 1).toNat = D - 1 := by omega
      have hE : cEff (I 168 (f + i)) = (if o = 0 ∨ o = 1 then 1 else if o = 10 then 0 else -1) := by unfold cEff; rw [ho]
      have hNd : cNeed (I 168 (f + i)) = (if o = 0 ∨ o = 1 then 0 else if 10 ≤ o then 1 else 2) := by unfold cNeed; rw [ho]
      rw [hE] at hdn
      rw [hNd] at c4
      clear hE hNd ih
      by_cases k0 : o = 0
      · subst k0
        rw [if_pos (Or.inl rfl)] at hdn
        have go := nx _ hdn.symm
        clear hdn c4 c2 c3 c5 nx
        have hop : w32 (Int.tdiv (I 168 (f + i)) 1048576) = 0 := by
          have e : Int.tdiv (I 168 (f + i)) 1048576 = 0 := ho
          rw [e]
          exact w32_sm (by decide)
        have hvl : w32 (I 168 (f + i) - Int.tdiv (I 168 (f + i)) 1048576 * 1048576) = v := by
          have e : I 168 (f + i) - Int.tdiv (I 168 (f + i)) 1048576 * 1048576 = v := hv
          rw [e]
          exact w32_eq d9.1 d9.2
        have hk1 : w32 ((f : Int) + i + 1) = (f : Int) + i + 1 := w32_p1 d4 d3
        have w1 : w32 ((D : Int) + 1) = (D : Int) + 1 := w32_p1 d8 d2
        have w2 : w32 ((D : Int) - 1) = (D : Int) - 1 := w32_m1 d8 d2
        refine s168_10.mpr ?_
        rw [hDD]
        simp only [s168_0, s168_1, s168_2, s168_3, s168_4, s168_5, s168_6, s168_7, s168_8, s168_9, s168_11, s168_12, s168_13, s168_14, s168_15, s168_16, s168_17, s168_18, s168_19, s168_20, s168_21, s168_22, s168_23, s168_24, s168_25, s168_26, s168_27, s168_28, s168_29, s168_30, s168_31, s168_32, s168_33, s168_34, s168_35, s168_36, s168_37, s168_38, s168_39, s168_40, s168_41, s168_42, s168_43, s168_44, s168_45, s168_46, s168_47, s168_48, s168_49, s168_50, s168_51, s168_52, s168_53, s168_54, s168_55, s168_56, s168_57, s168_58, s168_59, s168_60, s168_61, s168_62, s168_63, s168_64, s168_65, s168_66, s168_67, s168_68, s168_69, s168_70, s168_71, s168_72, s168_73, s168_74, s168_75, s168_76, s168_77, s168_78, s168_79, s168_80, s168_81, s168_82, s168_83, s168_84, s168_85, s168_86, s168_87, s168_88, s168_89, s168_90, s168_91, s168_92, s168_93, s168_94, s168_95, s168_96, s168_97, s168_98, s168_99, s168_100, s168_101, s168_102, s168_103, s168_104, s168_105, s168_106, s168_107, s168_108, s168_109, s168_110, s168_111, s168_112, s168_113, s168_114, s168_115, s168_116, s168_117, s168_118, s168_119, s168_120, s168_121, s168_122, s168_123, s168_124, s168_125, s168_126, s168_127, s168_128, s168_129, s168_130, s168_131, s168_132, s168_133, s168_134, s168_135, s168_136, s168_137, s168_138, s168_139, s168_140, Option.toList_some, Option.toList_none, List.cons_append, List.nil_append, Nat.le_refl, true_and, and_true, true_or, or_true, false_or, or_false, true_implies, false_implies, implies_true, not_true_eq_false, not_false_eq_true, eq_self, Nat.reduceLT, Nat.reduceLeDiff, Nat.reduceEqDiff, Nat.reduceAdd, Nat.reduceSub, Int.reduceLT, Int.reduceLE, Int.reduceEq, Int.reduceNeg, Int.reduceNe, Int.reduceAdd, Int.reduceSub, Int.reduceMul, Int.reduceToNat, Int.toNat_zero, Int.toNat_one, Int.toNat_natCast, am_cats, am_cat, am_st1, am_st2, am_clr, up2_na, up2_nj, up2_same, List.getElem?_cons_zero, List.getElem?_cons_succ, List.set_cons_zero, List.set_cons_succ, ne_eq, t152, t168, t173, t174, r1, r2, r3, setA_same, setA_ne, up2_setA, nat1, hop, hvl, hk1, w1]
        exact ⟨fun _ => ⟨⟨d4, d6⟩, ⟨d4, d6⟩, ⟨d8, d7⟩, go _ _ _ (S_up hS d9)⟩, fun z => absurd d5 z⟩
      by_cases k1 : o = 1
      · subst k1
        rw [if_pos (Or.inr rfl)] at hdn
        have go := nx _ hdn.symm
        obtain ⟨v, rfl⟩ : ∃ n : Nat, v = (n : Int) := ⟨v.toNat, by omega⟩
        have hv8 := c3 rfl
        have hFv := hF v (by omega)
        have dv : 0 ≤ (v : Int) ∧ (v : Int) < 9 := by omega
        clear hdn c4 c2 c3 c5 nx
        have hop : w32 (Int.tdiv (I 168 (f + i)) 1048576) = 1 := by
          have e : Int.tdiv (I 168 (f + i)) 1048576 = 1 := ho
          rw [e]
          exact w32_sm (by decide)
        have hvl : w32 (I 168 (f + i) - Int.tdiv (I 168 (f + i)) 1048576 * 1048576) = v := by
          have e : I 168 (f + i) - Int.tdiv (I 168 (f + i)) 1048576 * 1048576 = v := hv
          rw [e]
          exact w32_eq d9.1 d9.2
        have hk1 : w32 ((f : Int) + i + 1) = (f : Int) + i + 1 := w32_p1 d4 d3
        have w1 : w32 ((D : Int) + 1) = (D : Int) + 1 := w32_p1 d8 d2
        have w2 : w32 ((D : Int) - 1) = (D : Int) - 1 := w32_m1 d8 d2
        refine s168_10.mpr ?_
        rw [hDD]
        simp only [s168_0, s168_1, s168_2, s168_3, s168_4, s168_5, s168_6, s168_7, s168_8, s168_9, s168_11, s168_12, s168_13, s168_14, s168_15, s168_16, s168_17, s168_18, s168_19, s168_20, s168_21, s168_22, s168_23, s168_24, s168_25, s168_26, s168_27, s168_28, s168_29, s168_30, s168_31, s168_32, s168_33, s168_34, s168_35, s168_36, s168_37, s168_38, s168_39, s168_40, s168_41, s168_42, s168_43, s168_44, s168_45, s168_46, s168_47, s168_48, s168_49, s168_50, s168_51, s168_52, s168_53, s168_54, s168_55, s168_56, s168_57, s168_58, s168_59, s168_60, s168_61, s168_62, s168_63, s168_64, s168_65, s168_66, s168_67, s168_68, s168_69, s168_70, s168_71, s168_72, s168_73, s168_74, s168_75, s168_76, s168_77, s168_78, s168_79, s168_80, s168_81, s168_82, s168_83, s168_84, s168_85, s168_86, s168_87, s168_88, s168_89, s168_90, s168_91, s168_92, s168_93, s168_94, s168_95, s168_96, s168_97, s168_98, s168_99, s168_100, s168_101, s168_102, s168_103, s168_104, s168_105, s168_106, s168_107, s168_108, s168_109, s168_110, s168_111, s168_112, s168_113, s168_114, s168_115, s168_116, s168_117, s168_118, s168_119, s168_120, s168_121, s168_122, s168_123, s168_124, s168_125, s168_126, s168_127, s168_128, s168_129, s168_130, s168_131, s168_132, s168_133, s168_134, s168_135, s168_136, s168_137, s168_138, s168_139, s168_140, Option.toList_some, Option.toList_none, List.cons_append, List.nil_append, Nat.le_refl, true_and, and_true, true_or, or_true, false_or, or_false, true_implies, false_implies, implies_true, not_true_eq_false, not_false_eq_true, eq_self, Nat.reduceLT, Nat.reduceLeDiff, Nat.reduceEqDiff, Nat.reduceAdd, Nat.reduceSub, Int.reduceLT, Int.reduceLE, Int.reduceEq, Int.reduceNeg, Int.reduceNe, Int.reduceAdd, Int.reduceSub, Int.reduceMul, Int.reduceToNat, Int.toNat_zero, Int.toNat_one, Int.toNat_natCast, am_cats, am_cat, am_st1, am_st2, am_clr, up2_na, up2_nj, up2_same, List.getElem?_cons_zero, List.getElem?_cons_succ, List.set_cons_zero, List.set_cons_succ, ne_eq, t152, t168, t173, t174, r1, r2, r3, setA_same, setA_ne, up2_setA, nat1, hop, hvl, hk1, w1]
        exact ⟨fun _ => ⟨⟨d4, d6⟩, ⟨d4, d6⟩, dv, ⟨d8, d7⟩, go _ _ _ (S_up hS hFv)⟩, fun z => absurd d5 z⟩
      have k01 : ¬ (o = 0 ∨ o = 1) := fun z => z.elim k0 k1
      rw [if_neg k01] at hdn c4
      by_cases k2 : o = 10
      · subst k2
        rw [if_pos rfl] at hdn
        rw [if_pos (by decide)] at c4
        have dm : 0 ≤ (D : Int) - 1 ∧ (D : Int) - 1 < 180 := by omega
        have go := nx (D : Int) (by rw [hdn]; omega)
        clear hdn c4 c2 c3 c5 nx
        have hop : w32 (Int.tdiv (I 168 (f + i)) 1048576) = 10 := by
          have e : Int.tdiv (I 168 (f + i)) 1048576 = 10 := ho
          rw [e]
          exact w32_sm (by decide)
        have hvl : w32 (I 168 (f + i) - Int.tdiv (I 168 (f + i)) 1048576 * 1048576) = v := by
          have e : I 168 (f + i) - Int.tdiv (I 168 (f + i)) 1048576 * 1048576 = v := hv
          rw [e]
          exact w32_eq d9.1 d9.2
        have hk1 : w32 ((f : Int) + i + 1) = (f : Int) + i + 1 := w32_p1 d4 d3
        have w1 : w32 ((D : Int) + 1) = (D : Int) + 1 := w32_p1 d8 d2
        have w2 : w32 ((D : Int) - 1) = (D : Int) - 1 := w32_m1 d8 d2
        refine s168_10.mpr ?_
        rw [hDD]
        simp only [s168_0, s168_1, s168_2, s168_3, s168_4, s168_5, s168_6, s168_7, s168_8, s168_9, s168_11, s168_12, s168_13, s168_14, s168_15, s168_16, s168_17, s168_18, s168_19, s168_20, s168_21, s168_22, s168_23, s168_24, s168_25, s168_26, s168_27, s168_28, s168_29, s168_30, s168_31, s168_32, s168_33, s168_34, s168_35, s168_36, s168_37, s168_38, s168_39, s168_40, s168_41, s168_42, s168_43, s168_44, s168_45, s168_46, s168_47, s168_48, s168_49, s168_50, s168_51, s168_52, s168_53, s168_54, s168_55, s168_56, s168_57, s168_58, s168_59, s168_60, s168_61, s168_62, s168_63, s168_64, s168_65, s168_66, s168_67, s168_68, s168_69, s168_70, s168_71, s168_72, s168_73, s168_74, s168_75, s168_76, s168_77, s168_78, s168_79, s168_80, s168_81, s168_82, s168_83, s168_84, s168_85, s168_86, s168_87, s168_88, s168_89, s168_90, s168_91, s168_92, s168_93, s168_94, s168_95, s168_96, s168_97, s168_98, s168_99, s168_100, s168_101, s168_102, s168_103, s168_104, s168_105, s168_106, s168_107, s168_108, s168_109, s168_110, s168_111, s168_112, s168_113, s168_114, s168_115, s168_116, s168_117, s168_118, s168_119, s168_120, s168_121, s168_122, s168_123, s168_124, s168_125, s168_126, s168_127, s168_128, s168_129, s168_130, s168_131, s168_132, s168_133, s168_134, s168_135, s168_136, s168_137, s168_138, s168_139, s168_140, Option.toList_some, Option.toList_none, List.cons_append, List.nil_append, Nat.le_refl, true_and, and_true, true_or, or_true, false_or, or_false, true_implies, false_implies, implies_true, not_true_eq_false, not_false_eq_true, eq_self, Nat.reduceLT, Nat.reduceLeDiff, Nat.reduceEqDiff, Nat.reduceAdd, Nat.reduceSub, Int.reduceLT, Int.reduceLE, Int.reduceEq, Int.reduceNeg, Int.reduceNe, Int.reduceAdd, Int.reduceSub, Int.reduceMul, Int.reduceToNat, Int.toNat_zero, Int.toNat_one, Int.toNat_natCast, am_cats, am_cat, am_st1, am_st2, am_clr, up2_na, up2_nj, up2_same, List.getElem?_cons_zero, List.getElem?_cons_succ, List.set_cons_zero, List.set_cons_succ, ne_eq, t152, t168, t173, t174, r1, r2, r3, setA_same, setA_ne, up2_setA, nat1, nat2, hop, hvl, hk1, w2]
        exact ⟨fun _ => ⟨⟨d4, d6⟩, ⟨d4, d6⟩, dm, dm, go _ _ _ (S_up hS (w32_lo _))⟩, fun z => absurd d5 z⟩
      rw [if_neg k2] at hdn
      by_cases k3 : 11 ≤ o
      · rw [if_pos (by omega)] at c4
        obtain ⟨t, e1, e2, e3, e4⟩ := c5 k3
        have dm : 0 ≤ (D : Int) - 1 ∧ (D : Int) - 1 < 180 := by omega
        have ge : w32 ((b : Int) + v) = (f : Int) + (t : Int) := by
          rw [← hv, e1]
          exact w32_eq (by omega) (by omega)
        have go := nx ((D : Int) - 1) (by omega)
        have gj := jmp t D e2 e3 (by rw [e4, hDD])
        have k4 : o = 11 ∨ o = 12 := by omega
        clear hdn c4 c2 c3 c5 nx jmp k3 e1 e2 e3 e4
        have hvl : w32 (I 168 (f + i) - Int.tdiv (I 168 (f + i)) 1048576 * 1048576) = v := by
          have e : I 168 (f + i) - Int.tdiv (I 168 (f + i)) 1048576 * 1048576 = v := hv
          rw [e]
          exact w32_eq d9.1 d9.2
        have hk1 : w32 ((f : Int) + i + 1) = (f : Int) + i + 1 := w32_p1 d4 d3
        have w2 : w32 ((D : Int) - 1) = (D : Int) - 1 := w32_m1 d8 d2
        rcases k4 with rfl | rfl
        · have hop : w32 (Int.tdiv (I 168 (f + i)) 1048576) = 11 := by
            have e : Int.tdiv (I 168 (f + i)) 1048576 = 11 := ho
            rw [e]
            exact w32_sm (by decide)
          refine s168_10.mpr ?_
          rw [hDD]
          simp only [s168_0, s168_1, s168_2, s168_3, s168_4, s168_5, s168_6, s168_7, s168_8, s168_9, s168_11, s168_12, s168_13, s168_14, s168_15, s168_16, s168_17, s168_18, s168_19, s168_20, s168_21, s168_22, s168_23, s168_24, s168_25, s168_26, s168_27, s168_28, s168_29, s168_30, s168_31, s168_32, s168_33, s168_34, s168_35, s168_36, s168_37, s168_38, s168_39, s168_40, s168_41, s168_42, s168_43, s168_44, s168_45, s168_46, s168_47, s168_48, s168_49, s168_50, s168_51, s168_52, s168_53, s168_54, s168_55, s168_56, s168_57, s168_58, s168_59, s168_60, s168_61, s168_62, s168_63, s168_64, s168_65, s168_66, s168_67, s168_68, s168_69, s168_70, s168_71, s168_72, s168_73, s168_74, s168_75, s168_76, s168_77, s168_78, s168_79, s168_80, s168_81, s168_82, s168_83, s168_84, s168_85, s168_86, s168_87, s168_88, s168_89, s168_90, s168_91, s168_92, s168_93, s168_94, s168_95, s168_96, s168_97, s168_98, s168_99, s168_100, s168_101, s168_102, s168_103, s168_104, s168_105, s168_106, s168_107, s168_108, s168_109, s168_110, s168_111, s168_112, s168_113, s168_114, s168_115, s168_116, s168_117, s168_118, s168_119, s168_120, s168_121, s168_122, s168_123, s168_124, s168_125, s168_126, s168_127, s168_128, s168_129, s168_130, s168_131, s168_132, s168_133, s168_134, s168_135, s168_136, s168_137, s168_138, s168_139, s168_140, Option.toList_some, Option.toList_none, List.cons_append, List.nil_append, Nat.le_refl, true_and, and_true, true_or, or_true, false_or, or_false, true_implies, false_implies, implies_true, not_true_eq_false, not_false_eq_true, eq_self, Nat.reduceLT, Nat.reduceLeDiff, Nat.reduceEqDiff, Nat.reduceAdd, Nat.reduceSub, Int.reduceLT, Int.reduceLE, Int.reduceEq, Int.reduceNeg, Int.reduceNe, Int.reduceAdd, Int.reduceSub, Int.reduceMul, Int.reduceToNat, Int.toNat_zero, Int.toNat_one, Int.toNat_natCast, am_cats, am_cat, am_st1, am_st2, am_clr, up2_na, up2_nj, up2_same, List.getElem?_cons_zero, List.getElem?_cons_succ, List.set_cons_zero, List.set_cons_succ, ne_eq, t152, t168, t173, t174, r1, r2, r3, setA_same, setA_ne, up2_setA, nat1, nat2, hop, hvl, hk1, w2, ge]
          exact ⟨fun _ => ⟨⟨d4, d6⟩, ⟨d4, d6⟩, dm, fun _ => gj _ _ _ hS, fun _ => go _ _ _ hS⟩, fun z => absurd d5 z⟩
        · have hop : w32 (Int.tdiv (I 168 (f + i)) 1048576) = 12 := by
            have e : Int.tdiv (I 168 (f + i)) 1048576 = 12 := ho
            rw [e]
            exact w32_sm (by decide)
          refine s168_10.mpr ?_
          rw [hDD]
          simp only [s168_0, s168_1, s168_2, s168_3, s168_4, s168_5, s168_6, s168_7, s168_8, s168_9, s168_11, s168_12, s168_13, s168_14, s168_15, s168_16, s168_17, s168_18, s168_19, s168_20, s168_21, s168_22, s168_23, s168_24, s168_25, s168_26, s168_27, s168_28, s168_29, s168_30, s168_31, s168_32, s168_33, s168_34, s168_35, s168_36, s168_37, s168_38, s168_39, s168_40, s168_41, s168_42, s168_43, s168_44, s168_45, s168_46, s168_47, s168_48, s168_49, s168_50, s168_51, s168_52, s168_53, s168_54, s168_55, s168_56, s168_57, s168_58, s168_59, s168_60, s168_61, s168_62, s168_63, s168_64, s168_65, s168_66, s168_67, s168_68, s168_69, s168_70, s168_71, s168_72, s168_73, s168_74, s168_75, s168_76, s168_77, s168_78, s168_79, s168_80, s168_81, s168_82, s168_83, s168_84, s168_85, s168_86, s168_87, s168_88, s168_89, s168_90, s168_91, s168_92, s168_93, s168_94, s168_95, s168_96, s168_97, s168_98, s168_99, s168_100, s168_101, s168_102, s168_103, s168_104, s168_105, s168_106, s168_107, s168_108, s168_109, s168_110, s168_111, s168_112, s168_113, s168_114, s168_115, s168_116, s168_117, s168_118, s168_119, s168_120, s168_121, s168_122, s168_123, s168_124, s168_125, s168_126, s168_127, s168_128, s168_129, s168_130, s168_131, s168_132, s168_133, s168_134, s168_135, s168_136, s168_137, s168_138, s168_139, s168_140, Option.toList_some, Option.toList_none, List.cons_append, List.nil_append, Nat.le_refl, true_and, and_true, true_or, or_true, false_or, or_false, true_implies, false_implies, implies_true, not_true_eq_false, not_false_eq_true, eq_self, Nat.reduceLT, Nat.reduceLeDiff, Nat.reduceEqDiff, Nat.reduceAdd, Nat.reduceSub, Int.reduceLT, Int.reduceLE, Int.reduceEq, Int.reduceNeg, Int.reduceNe, Int.reduceAdd, Int.reduceSub, Int.reduceMul, Int.reduceToNat, Int.toNat_zero, Int.toNat_one, Int.toNat_natCast, am_cats, am_cat, am_st1, am_st2, am_clr, up2_na, up2_nj, up2_same, List.getElem?_cons_zero, List.getElem?_cons_succ, List.set_cons_zero, List.set_cons_succ, ne_eq, t152, t168, t173, t174, r1, r2, r3, setA_same, setA_ne, up2_setA, nat1, nat2, hop, hvl, hk1, w2, ge]
          exact ⟨fun _ => ⟨⟨d4, d6⟩, ⟨d4, d6⟩, dm, fun _ => gj _ _ _ hS, fun _ => go _ _ _ hS⟩, fun z => absurd d5 z⟩
      · rw [if_neg (by omega)] at c4
        obtain ⟨E, rfl⟩ : ∃ E, D = E + 2 := ⟨D - 2, by omega⟩
        have dm : 0 ≤ ((E + 2 : Nat) : Int) - 1 ∧ ((E + 2 : Nat) : Int) - 1 < 180 := by omega
        have dn : 0 ≤ ((E + 2 : Nat) : Int) - 1 - 1 ∧ ((E + 2 : Nat) : Int) - 1 - 1 < 180 := by omega
        have n2 : (((E + 2 : Nat) : Int) - 1).toNat = E + 1 := by omega
        have n3 : (((E + 2 : Nat) : Int) - 1 - 1).toNat = E := by omega
        have go := nx (((E + 2 : Nat) : Int) - 1) (by omega)
        have k4 : 2 ≤ o ∧ o ≤ 9 := by omega
        have k5 : ¬ o = 11 ∧ ¬ o = 12 := by omega
        have ow : w32 o = o := w32_sm ⟨o1, c2⟩
        have hS1 := hS (E + 1) (by omega)
        have hS0 := hS E (by omega)
        clear hdn c4 c2 c3 c5 nx jmp k3 nat2 hSD1
        have hvl : w32 (I 168 (f + i) - Int.tdiv (I 168 (f + i)) 1048576 * 1048576) = v := by
          have e : I 168 (f + i) - Int.tdiv (I 168 (f + i)) 1048576 * 1048576 = v := hv
          rw [e]
          exact w32_eq d9.1 d9.2
        have hk1 : w32 ((f : Int) + i + 1) = (f : Int) + i + 1 := w32_p1 d4 d3
        have w2 : w32 (((E + 2 : Nat) : Int) - 1) = ((E + 2 : Nat) : Int) - 1 := w32_m1 d8 d2
        have w3 : w32 (((E + 2 : Nat) : Int) - 1 - 1) = ((E + 2 : Nat) : Int) - 1 - 1 := w32_m1 dm.1 (Int.le_trans (Int.le_of_lt dm.2) (by decide))
        have hop : w32 (Int.tdiv (I 168 (f + i)) 1048576) = o := by
          have e : Int.tdiv (I 168 (f + i)) 1048576 = o := ho
          rw [e]
          exact ow
        refine s168_10.mpr ?_
        rw [hDD]
        by_cases z0 : (o = 5 ∨ o = 6) ∧ S (E + 1) = 0
        · have z1 := z0.2
          have fi := ctQ_i (T := T) (I := I) (J := J) (R := R) (s := s) hS (z := 0) (by decide) (by decide)
          rcases z0.1 with rfl | rfl <;> simp only [s168_0, s168_1, s168_2, s168_3, s168_4, s168_5, s168_6, s168_7, s168_8, s168_9, s168_11, s168_12, s168_13, s168_14, s168_15, s168_16, s168_17, s168_18, s168_19, s168_20, s168_21, s168_22, s168_23, s168_24, s168_25, s168_26, s168_27, s168_28, s168_29, s168_30, s168_31, s168_32, s168_33, s168_34, s168_35, s168_36, s168_37, s168_38, s168_39, s168_40, s168_41, s168_42, s168_43, s168_44, s168_45, s168_46, s168_47, s168_48, s168_49, s168_50, s168_51, s168_52, s168_53, s168_54, s168_55, s168_56, s168_57, s168_58, s168_59, s168_60, s168_61, s168_62, s168_63, s168_64, s168_65, s168_66, s168_67, s168_68, s168_69, s168_70, s168_71, s168_72, s168_73, s168_74, s168_75, s168_76, s168_77, s168_78, s168_79, s168_80, s168_81, s168_82, s168_83, s168_84, s168_85, s168_86, s168_87, s168_88, s168_89, s168_90, s168_91, s168_92, s168_93, s168_94, s168_95, s168_96, s168_97, s168_98, s168_99, s168_100, s168_101, s168_102, s168_103, s168_104, s168_105, s168_106, s168_107, s168_108, s168_109, s168_110, s168_111, s168_112, s168_113, s168_114, s168_115, s168_116, s168_117, s168_118, s168_119, s168_120, s168_121, s168_122, s168_123, s168_124, s168_125, s168_126, s168_127, s168_128, s168_129, s168_130, s168_131, s168_132, s168_133, s168_134, s168_135, s168_136, s168_137, s168_138, s168_139, s168_140, Option.toList_some, Option.toList_none, List.cons_append, List.nil_append, Nat.le_refl, true_and, and_true, true_or, or_true, false_or, or_false, true_implies, false_implies, implies_true, not_true_eq_false, not_false_eq_true, eq_self, Nat.reduceLT, Nat.reduceLeDiff, Nat.reduceEqDiff, Nat.reduceAdd, Nat.reduceSub, Int.reduceLT, Int.reduceLE, Int.reduceEq, Int.reduceNeg, Int.reduceNe, Int.reduceAdd, Int.reduceSub, Int.reduceMul, Int.reduceToNat, Int.toNat_zero, Int.toNat_one, Int.toNat_natCast, am_cats, am_cat, am_st1, am_st2, am_clr, up2_na, up2_nj, up2_same, List.getElem?_cons_zero, List.getElem?_cons_succ, List.set_cons_zero, List.set_cons_succ, ne_eq, t152, t168, t173, t174, r1, r2, r3, setA_same, setA_ne, up2_setA, nat1, n2, n3, hop, hvl, hk1, w2, w3, z1]
          · exact ⟨fun _ => ⟨⟨d4, d6⟩, ⟨d4, d6⟩, dm, fi⟩, fun z => absurd d5 z⟩
          · exact ⟨fun _ => ⟨⟨d4, d6⟩, ⟨d4, d6⟩, dm, fi⟩, fun z => absurd d5 z⟩
        · have kr : ∀ (h : AH) (Q : Option AV → AH → Prop), wpc codeT mX d 169 [.inl o, .inl (S E), .inl (S (E + 1))] h Q ↔ Q (some (.inl (rkn o (S E) (S (E + 1))))) h := fun h Q => wpc_det (w_reckon k4 (fun z1 z2 => z0 ⟨z1, z2⟩))
          have hk := rkn_rg (o := o) (a := S E) (b := S (E + 1))
          by_cases z1 : o = 5 ∨ o = 6
          · have z2 : ¬ S (E + 1) = 0 := fun z => z0 ⟨z1, z⟩
            rcases z1 with rfl | rfl <;> simp only [s168_0, s168_1, s168_2, s168_3, s168_4, s168_5, s168_6, s168_7, s168_8, s168_9, s168_11, s168_12, s168_13, s168_14, s168_15, s168_16, s168_17, s168_18, s168_19, s168_20, s168_21, s168_22, s168_23, s168_24, s168_25, s168_26, s168_27, s168_28, s168_29, s168_30, s168_31, s168_32, s168_33, s168_34, s168_35, s168_36, s168_37, s168_38, s168_39, s168_40, s168_41, s168_42, s168_43, s168_44, s168_45, s168_46, s168_47, s168_48, s168_49, s168_50, s168_51, s168_52, s168_53, s168_54, s168_55, s168_56, s168_57, s168_58, s168_59, s168_60, s168_61, s168_62, s168_63, s168_64, s168_65, s168_66, s168_67, s168_68, s168_69, s168_70, s168_71, s168_72, s168_73, s168_74, s168_75, s168_76, s168_77, s168_78, s168_79, s168_80, s168_81, s168_82, s168_83, s168_84, s168_85, s168_86, s168_87, s168_88, s168_89, s168_90, s168_91, s168_92, s168_93, s168_94, s168_95, s168_96, s168_97, s168_98, s168_99, s168_100, s168_101, s168_102, s168_103, s168_104, s168_105, s168_106, s168_107, s168_108, s168_109, s168_110, s168_111, s168_112, s168_113, s168_114, s168_115, s168_116, s168_117, s168_118, s168_119, s168_120, s168_121, s168_122, s168_123, s168_124, s168_125, s168_126, s168_127, s168_128, s168_129, s168_130, s168_131, s168_132, s168_133, s168_134, s168_135, s168_136, s168_137, s168_138, s168_139, s168_140, Option.toList_some, Option.toList_none, List.cons_append, List.nil_append, Nat.le_refl, true_and, and_true, true_or, or_true, false_or, or_false, true_implies, false_implies, implies_true, not_true_eq_false, not_false_eq_true, eq_self, Nat.reduceLT, Nat.reduceLeDiff, Nat.reduceEqDiff, Nat.reduceAdd, Nat.reduceSub, Int.reduceLT, Int.reduceLE, Int.reduceEq, Int.reduceNeg, Int.reduceNe, Int.reduceAdd, Int.reduceSub, Int.reduceMul, Int.reduceToNat, Int.toNat_zero, Int.toNat_one, Int.toNat_natCast, am_cats, am_cat, am_st1, am_st2, am_clr, up2_na, up2_nj, up2_same, List.getElem?_cons_zero, List.getElem?_cons_succ, List.set_cons_zero, List.set_cons_succ, ne_eq, t152, t168, t173, t174, r1, r2, r3, setA_same, setA_ne, up2_setA, nat1, n2, n3, hop, hvl, hk1, w2, w3, z2, kr]
            · exact ⟨fun _ => ⟨⟨d4, d6⟩, ⟨d4, d6⟩, dm, dn, dm, dn, go _ _ _ (S_up hS hk)⟩, fun z => absurd d5 z⟩
            · exact ⟨fun _ => ⟨⟨d4, d6⟩, ⟨d4, d6⟩, dm, dn, dm, dn, go _ _ _ (S_up hS hk)⟩, fun z => absurd d5 z⟩
          · have z2 : ¬ o = 5 ∧ ¬ o = 6 := ⟨fun z => z1 (Or.inl z), fun z => z1 (Or.inr z)⟩
            simp only [s168_0, s168_1, s168_2, s168_3, s168_4, s168_5, s168_6, s168_7, s168_8, s168_9, s168_11, s168_12, s168_13, s168_14, s168_15, s168_16, s168_17, s168_18, s168_19, s168_20, s168_21, s168_22, s168_23, s168_24, s168_25, s168_26, s168_27, s168_28, s168_29, s168_30, s168_31, s168_32, s168_33, s168_34, s168_35, s168_36, s168_37, s168_38, s168_39, s168_40, s168_41, s168_42, s168_43, s168_44, s168_45, s168_46, s168_47, s168_48, s168_49, s168_50, s168_51, s168_52, s168_53, s168_54, s168_55, s168_56, s168_57, s168_58, s168_59, s168_60, s168_61, s168_62, s168_63, s168_64, s168_65, s168_66, s168_67, s168_68, s168_69, s168_70, s168_71, s168_72, s168_73, s168_74, s168_75, s168_76, s168_77, s168_78, s168_79, s168_80, s168_81, s168_82, s168_83, s168_84, s168_85, s168_86, s168_87, s168_88, s168_89, s168_90, s168_91, s168_92, s168_93, s168_94, s168_95, s168_96, s168_97, s168_98, s168_99, s168_100, s168_101, s168_102, s168_103, s168_104, s168_105, s168_106, s168_107, s168_108, s168_109, s168_110, s168_111, s168_112, s168_113, s168_114, s168_115, s168_116, s168_117, s168_118, s168_119, s168_120, s168_121, s168_122, s168_123, s168_124, s168_125, s168_126, s168_127, s168_128, s168_129, s168_130, s168_131, s168_132, s168_133, s168_134, s168_135, s168_136, s168_137, s168_138, s168_139, s168_140, Option.toList_some, Option.toList_none, List.cons_append, List.nil_append, Nat.le_refl, true_and, and_true, true_or, or_true, false_or, or_false, true_implies, false_implies, implies_true, not_true_eq_false, not_false_eq_true, eq_self, Nat.reduceLT, Nat.reduceLeDiff, Nat.reduceEqDiff, Nat.reduceAdd, Nat.reduceSub, Int.reduceLT, Int.reduceLE, Int.reduceEq, Int.reduceNeg, Int.reduceNe, Int.reduceAdd, Int.reduceSub, Int.reduceMul, Int.reduceToNat, Int.toNat_zero, Int.toNat_one, Int.toNat_natCast, am_cats, am_cat, am_st1, am_st2, am_clr, up2_na, up2_nj, up2_same, List.getElem?_cons_zero, List.getElem?_cons_succ, List.set_cons_zero, List.set_cons_succ, ne_eq, t152, t168, t173, t174, r1, r2, r3, setA_same, setA_ne, up2_setA, nat1, n2, n3, hop, hvl, hk1, w2, w3, z2, k5, k0, k1, k2, kr]
            exact ⟨fun _ => ⟨⟨d4, d6⟩, ⟨d4, d6⟩, dn, dm, dn, go _ _ _ (S_up hS hk)⟩, fun z => absurd d5 z⟩
theorem w_comesTo (hm : mdl T R) (hX : ∀ j, j < 1080 → I 168 j ≤ 2147483647) (hF : ∀ j, j < 9 → -2147483648 ≤ I 174 j ∧ I 174 j ≤ 2147483647) {k f n : Nat} (hk : k < 6) (h1 : 180 * k ≤ f) (h2 : f + n ≤ 180 * k + 180) (hw : wfS (I 168) (180 * k) f n) {S : Nat → Int} (hS : ∀ j, j < 180 → -2147483648 ≤ S j ∧ S j ≤ 2147483647) {t : Int} (ht : t = (f : Int) + n) : wpc codeT mX (d + 1) 168 [.inr (.inr (some 152)), .inl (f : Int), .inl t] (185, s, T, setA I 173 S, J, R) (ctQ s T I J R) := by
  subst ht
  obtain ⟨b, hb, hb2, hb3⟩ : ∃ b : Nat, w32 (180 * w32 (Int.tdiv (f : Int) 180)) = b ∧ b ≤ 1080 ∧ wfS (I 168) b f n := by
    have e : Int.tdiv (f : Int) 180 = ((f / 180 : Nat) : Int) := by rw [Int.tdiv_eq_ediv_of_nonneg (by omega)]; omega
    have e2 : w32 ((f / 180 : Nat) : Int) = ((f / 180 : Nat) : Int) := w32_eq (by omega) (by omega)
    refine ⟨180 * (f / 180), ?_, by omega, ?_⟩
    · rw [e, e2]
      have e3 : (180 : Int) * ((f / 180 : Nat) : Int) = ((180 * (f / 180) : Nat) : Int) := by omega
      rw [e3]
      exact w32_eq (by omega) (by omega)
    · by_cases hn : n = 0
      · subst hn
        exact fun i hi => absurd hi (Nat.not_lt_zero i)
      · rw [show 180 * (f / 180) = 180 * k by omega]
        exact hw
  have go := ct_loop (d := d) (s := s) (J := J) hm hX hF (by omega) (by omega) hb2 hb3 n 0 (by omega) none none S hS
  simp only [dep, Int.natCast_zero, Int.add_zero] at go
  simp only [e168, s168_0, s168_1, s168_2, s168_3, s168_4, s168_5, s168_6, s168_7, s168_8, s168_9, Option.toList_some, Option.toList_none, List.cons_append, List.nil_append, Nat.le_refl, true_and, and_true, true_or, or_true, false_or, or_false, true_implies, false_implies, implies_true, not_true_eq_false, not_false_eq_true, eq_self, Nat.reduceLT, Nat.reduceLeDiff, Nat.reduceEqDiff, Nat.reduceAdd, Nat.reduceSub, Int.reduceLT, Int.reduceLE, Int.reduceEq, Int.reduceNeg, Int.reduceNe, Int.reduceAdd, Int.reduceSub, Int.reduceMul, Int.reduceToNat, Int.toNat_zero, Int.toNat_one, Int.toNat_natCast, am_cats, am_cat, am_st1, am_st2, am_clr, up2_na, up2_nj, up2_same, List.getElem?_cons_zero, List.getElem?_cons_succ, List.set_cons_zero, List.set_cons_succ, ne_eq, hb]
  exact go
theorem wpc_mn {m : Nat} {as : List AV} {h : AH} {P Q : Option AV → AH → Prop} (w : wpc codeT mX d m as h P) (k : ∀ v g, P v g → Q v g) : wpc codeT mX d m as h Q := wp_mono codeT mX w k
end
