/-! by hand, 3: the reference's odds; worse -/
theorem wp_det {d m k : Nat} {ls : AL} {st : List AV} {h : AH} {v0 : Option AV} {g0 : AH} (w : wp codeT mX d m k ls st h (fun v g => g = g0 ∧ v = v0)) {Q : Option AV → AH → Prop} : wp codeT mX d m k ls st h Q ↔ Q v0 g0 := by
  obtain ⟨n, v, g, e, rfl, rfl⟩ := w
  constructor
  · rintro ⟨n2, v2, g2, e2, q⟩
    have h1 := ev_mono codeT mX _ _ _ _ _ _ _ _ e (max n n2) (Nat.le_max_left _ _)
    have h2 := ev_mono codeT mX _ _ _ _ _ _ _ _ e2 (max n n2) (Nat.le_max_right _ _)
    rw [h1] at h2
    cases h2
    exact q
  · intro q
    exact ⟨n, _, _, e, q⟩
theorem wpc_det {d m : Nat} {as : List AV} {h : AH} {v0 : Option AV} {g0 : AH} (w : wpc codeT mX d m as h (fun v g => g = g0 ∧ v = v0)) {Q : Option AV → AH → Prop} : wpc codeT mX d m as h Q ↔ Q v0 g0 := wp_det w
/-- what is told above the line, of the first i -/
def odA (A B all : Int) : Nat → Int
  | 0 => 0
  | i + 1 => w64 (odA A B all i + w64 (chP A i * chP B (w32 (all - i))))
theorem odA_rg (A B all : Int) : ∀ i, -9223372036854775808 ≤ odA A B all i ∧ odA A B all i ≤ 9223372036854775807
  | 0 => by show _ ≤ (0 : Int) ∧ (0 : Int) ≤ _; decide
  | i + 1 => w64_lo _
theorem up2_up2 {α : Type} (f : Nat → Nat → α) (a j : Nat) (v w : α) : up2 (up2 f a j v) a j w = up2 f a j w := by
  funext x y
  unfold up2
  split <;> rfl
section
variable {s : Nat} {T : Nat → Nat × Nat} {I : Nat → Nat → Int} {R : Nat → Nat → Option Nat}
theorem weighs_loop (hm : mdl T R) {N : Nat} (hI : ∀ j, j < N → 0 ≤ I 160 j ∧ I 160 j ≤ 1) (hN : I 152 4 = (N : Int)) (hN2 : N ≤ 200) {x y t A B all : Int} (hA : 0 ≤ A ∧ A ≤ 25) (hB : 0 ≤ B ∧ B ≤ 25) {d : Nat} {J : Nat → Nat → Int} {K : Nat} (hK : rgt I x t N = (K : Int)) {Q : Option AV → AH → Prop} (hQ : Q (some (.inl 1)) (185, s, T, I, up2 (up2 J 152 38 (odA A B all (K + 1))) 152 39 (chP (w32 (A + B)) all), R)) : ∀ (r i : Nat), i + r = K + 1 → wp codeT mX (d + 1) 182 37 [some (.inr (.inr (some 152))), some (.inl x), some (.inl y), some (.inl t), some (.inl A), some (.inl B), some (.inl all), some (.inl (i : Int))] [] (185, s, T, I, up2 J 152 38 (odA A B all i), R) Q := by
  have t152 : T 152 = (12, 53) := hm.1 152 (by decide)
  have kr : ∀ (J : Nat → Nat → Int) (h t : Int) (Q : Option AV → AH → Prop), wpc codeT mX d 178 [.inr (.inr (some 152)), .inl h, .inl t] (185, s, T, I, J, R) Q ↔ Q (some (.inl (rgt I h t N))) (185, s, T, I, J, R) := fun J h t Q => wpc_det (w_rights hm hI hN hN2)
  have kc1 : ∀ (k : Int) (h : AH) (Q : Option AV → AH → Prop), wpc codeT mX d 183 [.inl A, .inl k] h Q ↔ Q (some (.inr (.inl (chP A k)))) h := fun k h Q => wpc_det (w_choose (by omega))
  have kc2 : ∀ (k : Int) (h : AH) (Q : Option AV → AH → Prop), wpc codeT mX d 183 [.inl B, .inl k] h Q ↔ Q (some (.inr (.inl (chP B k)))) h := fun k h Q => wpc_det (w_choose (by omega))
  have kc3 : ∀ (k : Int) (h : AH) (Q : Option AV → AH → Prop), wpc codeT mX d 183 [.inl (w32 (A + B)), .inl k] h Q ↔ Q (some (.inr (.inl (chP (w32 (A + B)) k)))) h := fun k h Q => wpc_det (w_choose (by unfold w32; omega))
  have hb := rgt_bd hI x t N (Nat.le_refl N)
  have hb2 := mny_bd I x t N
  intro r
  induction r with
  | zero =>
    intro i hi
    have hi : i = K + 1 := by omega
    subst hi
    refine s182_37.mpr ?_
    simp only [s182_0, s182_1, s182_2, s182_3, s182_4, s182_5, s182_6, s182_7, s182_8, s182_9, s182_10, s182_11, s182_12, s182_13, s182_14, s182_15, s182_16, s182_17, s182_18, s182_19, s182_20, s182_21, s182_22, s182_23, s182_24, s182_25, s182_26, s182_27, s182_28, s182_29, s182_30, s182_31, s182_32, s182_33, s182_34, s182_35, s182_36, s182_38, s182_39, s182_40, s182_41, s182_42, s182_43, s182_44, s182_45, s182_46, s182_47, s182_48, s182_49, s182_50, s182_51, s182_52, s182_53, s182_54, s182_55, s182_56, s182_57, s182_58, s182_59, s182_60, s182_61, s182_62, s182_63, s182_64, s182_65, s182_66, s182_67, Option.toList_some, Option.toList_none, List.cons_append, List.nil_append, Nat.le_refl, true_and, and_true, true_or, or_true, false_or, or_false, true_implies, false_implies, implies_true, not_true_eq_false, not_false_eq_true, eq_self, Nat.reduceLT, Nat.reduceLeDiff, Nat.reduceEqDiff, Nat.reduceAdd, Nat.reduceSub, Int.reduceLT, Int.reduceLE, Int.reduceEq, Int.reduceNeg, Int.reduceNe, Int.reduceAdd, Int.reduceSub, Int.reduceMul, Int.reduceToNat, Int.toNat_zero, Int.toNat_one, Int.toNat_natCast, am_cats, am_cat, am_st1, am_st2, am_clr, up2_na, up2_nj, up2_same, List.getElem?_cons_zero, List.getElem?_cons_succ, List.set_cons_zero, List.set_cons_succ, ne_eq, t152, kr, kc3, hK]
    exact ⟨fun _ => hQ, fun z => absurd (show ((K : Nat) : Int) < ((K + 1 : Nat) : Int) by omega) z⟩
  | succ r ih =>
    intro i hi
    have nx : wp codeT mX (d + 1) 182 37 [some (.inr (.inr (some 152))), some (.inl x), some (.inl y), some (.inl t), some (.inl A), some (.inl B), some (.inl all), some (.inl ((i : Int) + 1))] [] (185, s, T, I, up2 J 152 38 (w64 (odA A B all i + w64 (chP A i * chP B (w32 (all - i))))), R) Q := ih (i + 1) (by omega)
    have e1 : w32 ((i : Int) + 1) = (i : Int) + 1 := w32_eq (by omega) (by omega)
    refine s182_37.mpr ?_
    simp only [s182_0, s182_1, s182_2, s182_3, s182_4, s182_5, s182_6, s182_7, s182_8, s182_9, s182_10, s182_11, s182_12, s182_13, s182_14, s182_15, s182_16, s182_17, s182_18, s182_19, s182_20, s182_21, s182_22, s182_23, s182_24, s182_25, s182_26, s182_27, s182_28, s182_29, s182_30, s182_31, s182_32, s182_33, s182_34, s182_35, s182_36, s182_38, s182_39, s182_40, s182_41, s182_42, s182_43, s182_44, s182_45, s182_46, s182_47, s182_48, s182_49, s182_50, s182_51, s182_52, s182_53, s182_54, s182_55, s182_56, s182_57, s182_58, s182_59, s182_60, s182_61, s182_62, s182_63, s182_64, s182_65, s182_66, s182_67, Option.toList_some, Option.toList_none, List.cons_append, List.nil_append, Nat.le_refl, true_and, and_true, true_or, or_true, false_or, or_false, true_implies, false_implies, implies_true, not_true_eq_false, not_false_eq_true, eq_self, Nat.reduceLT, Nat.reduceLeDiff, Nat.reduceEqDiff, Nat.reduceAdd, Nat.reduceSub, Int.reduceLT, Int.reduceLE, Int.reduceEq, Int.reduceNeg, Int.reduceNe, Int.reduceAdd, Int.reduceSub, Int.reduceMul, Int.reduceToNat, Int.toNat_zero, Int.toNat_one, Int.toNat_natCast, am_cats, am_cat, am_st1, am_st2, am_clr, up2_na, up2_nj, up2_same, List.getElem?_cons_zero, List.getElem?_cons_succ, List.set_cons_zero, List.set_cons_succ, ne_eq, t152, kr, kc1, kc2, hK, e1, up2_up2]
    exact ⟨fun z => absurd z (by omega), fun _ => nx⟩
theorem w_weighs (hm : mdl T R) {N : Nat} (hI : ∀ j, j < N → 0 ≤ I 160 j ∧ I 160 j ≤ 1) (hN : I 152 4 = (N : Int)) (hN2 : N ≤ 200) {x y t : Int} {d : Nat} {J : Nat → Nat → Int} : wpc codeT mX (d + 1) 182 [.inr (.inr (some 152)), .inl x, .inl y, .inl t] (185, s, T, I, J, R) (fun v g => g = (if mny I x t N = 0 ∨ mny I y t N = 0 ∨ 25 < mny I x t N ∨ 25 < mny I y t N then (185, s, T, I, J, R) else (185, s, T, I, up2 (up2 J 152 38 (odA (mny I x t N) (mny I y t N) (rgt I x t N + rgt I y t N) ((rgt I x t N).toNat + 1))) 152 39 (chP (mny I x t N + mny I y t N) (rgt I x t N + rgt I y t N)), R)) ∧ v = some (.inl (if mny I x t N = 0 ∨ mny I y t N = 0 ∨ 25 < mny I x t N ∨ 25 < mny I y t N then 0 else 1))) := by
  have t152 : T 152 = (12, 53) := hm.1 152 (by decide)
  have kr : ∀ (J : Nat → Nat → Int) (h t : Int) (Q : Option AV → AH → Prop), wpc codeT mX d 178 [.inr (.inr (some 152)), .inl h, .inl t] (185, s, T, I, J, R) Q ↔ Q (some (.inl (rgt I h t N))) (185, s, T, I, J, R) := fun J h t Q => wpc_det (w_rights hm hI hN hN2)
  have km : ∀ (J : Nat → Nat → Int) (h t : Int) (Q : Option AV → AH → Prop), wpc codeT mX d 177 [.inr (.inr (some 152)), .inl h, .inl t] (185, s, T, I, J, R) Q ↔ Q (some (.inl (mny I h t N))) (185, s, T, I, J, R) := fun J h t Q => wpc_det (w_many hm hN hN2)
  have hx := rgt_bd hI x t N (Nat.le_refl N)
  have hx2 := mny_bd I x t N
  have hy := rgt_bd hI y t N (Nat.le_refl N)
  have hy2 := mny_bd I y t N
  generalize hA : mny I x t N = A at *
  generalize hB : mny I y t N = B at *
  have kA : ∀ (J : Nat → Nat → Int) (Q : Option AV → AH → Prop), wpc codeT mX d 177 [.inr (.inr (some 152)), .inl x, .inl t] (185, s, T, I, J, R) Q ↔ Q (some (.inl A)) (185, s, T, I, J, R) := fun J Q => by rw [km, hA]
  have kB : ∀ (J : Nat → Nat → Int) (Q : Option AV → AH → Prop), wpc codeT mX d 177 [.inr (.inr (some 152)), .inl y, .inl t] (185, s, T, I, J, R) Q ↔ Q (some (.inl B)) (185, s, T, I, J, R) := fun J Q => by rw [km, hB]
  simp only [e182, s182_0, s182_1, s182_2, s182_3, s182_4, s182_5, s182_6, s182_7, s182_8, s182_9, s182_10, s182_11, s182_12, s182_13, s182_14, s182_15, s182_16, s182_17, s182_18, s182_19, s182_20, s182_21, s182_22, s182_23, s182_24, s182_25, s182_26, s182_27, s182_28, s182_29, s182_30, s182_31, s182_32, s182_33, s182_34, s182_35, s182_36, s182_38, s182_39, s182_40, s182_41, s182_42, s182_43, s182_44, s182_45, s182_46, s182_47, s182_48, s182_49, s182_50, s182_51, s182_52, s182_53, s182_54, s182_55, s182_56, s182_57, s182_58, s182_59, s182_60, s182_61, s182_62, s182_63, s182_64, s182_65, s182_66, s182_67, Option.toList_some, Option.toList_none, List.cons_append, List.nil_append, Nat.le_refl, true_and, and_true, true_or, or_true, false_or, or_false, true_implies, false_implies, implies_true, not_true_eq_false, not_false_eq_true, eq_self, Nat.reduceLT, Nat.reduceLeDiff, Nat.reduceEqDiff, Nat.reduceAdd, Nat.reduceSub, Int.reduceLT, Int.reduceLE, Int.reduceEq, Int.reduceNeg, Int.reduceNe, Int.reduceAdd, Int.reduceSub, Int.reduceMul, Int.reduceToNat, Int.toNat_zero, Int.toNat_one, Int.toNat_natCast, am_cats, am_cat, am_st1, am_st2, am_clr, up2_na, up2_nj, up2_same, List.getElem?_cons_zero, List.getElem?_cons_succ, List.set_cons_zero, List.set_cons_succ, ne_eq, t152, kr, kA, kB]
  refine ⟨fun h1 => ?_, fun h1 => ⟨fun h2 => ?_, fun h2 => ⟨fun h3 => ?_, fun h3 => ⟨fun h4 => ?_, fun h4 => ?_⟩⟩⟩⟩
  · rw [if_pos (Or.inl h1), if_pos (Or.inl h1)]
    exact ⟨rfl, rfl⟩
  · rw [if_pos (Or.inr (Or.inl h2)), if_pos (Or.inr (Or.inl h2))]
    exact ⟨rfl, rfl⟩
  · rw [if_pos (Or.inr (Or.inr (Or.inl h3))), if_pos (Or.inr (Or.inr (Or.inl h3)))]
    exact ⟨rfl, rfl⟩
  · rw [if_pos (Or.inr (Or.inr (Or.inr h4))), if_pos (Or.inr (Or.inr (Or.inr h4)))]
    exact ⟨rfl, rfl⟩
  · rw [if_neg (by omega), if_neg (by omega)]
    obtain ⟨K, hK⟩ : ∃ K : Nat, rgt I x t N = (K : Int) := ⟨(rgt I x t N).toNat, by omega⟩
    rw [w32_eq (z := rgt I x t N + rgt I y t N) (by omega) (by omega)]
    have e2 : w32 (A + B) = A + B := w32_eq (by omega) (by omega)
    have go := weighs_loop (s := s) hm hI hN hN2 (x := x) (y := y) (t := t) (A := A) (B := B) (all := rgt I x t N + rgt I y t N) (by omega) (by omega) (d := d) (J := J) hK (Q := fun v g => g = (185, s, T, I, up2 (up2 J 152 38 (odA A B (rgt I x t N + rgt I y t N) ((rgt I x t N).toNat + 1))) 152 39 (chP (A + B) (rgt I x t N + rgt I y t N)), R) ∧ v = some (.inl 1)) (by
      rw [e2, hK, Int.toNat_natCast]
      exact ⟨rfl, rfl⟩) (K + 1) 0 (by omega)
    exact go
end
