/-! the law's two readers, 7: the reference's sums -/
theorem end_pl {sg : Nat → Int} : ∀ (r o p n : Nat), (prsS sg r 7 o p n).1 = 0 → muS (sg (prsS sg r 7 o p n).2.1) = 0
  | 0, o, p, n => fun h => absurd h (rbad_n (by decide))
  | r + 1, o, p, n => by
    show (if muS (sg p) = 0 then ((0, p, []) : RR) else rsq (prsS sg r 0 o (p + 1) n) (fun p' m => rcat [(muS (sg p), 0)] (prsS sg r 7 o p' (n + m + 1)))).1 = 0 → muS (sg (if muS (sg p) = 0 then ((0, p, []) : RR) else rsq (prsS sg r 0 o (p + 1) n) (fun p' m => rcat [(muS (sg p), 0)] (prsS sg r 7 o p' (n + m + 1)))).2.1) = 0
    split
    · rename_i h
      exact fun _ => h
    · intro h
      obtain ⟨e1, e2, e3⟩ := rsq_ok h
      rw [e3]
      exact end_pl r o _ _ e2
theorem end_p {sg : Nat → Int} (r o p n : Nat) (h : (prsS sg r 1 o p n).1 = 0) : muS (sg (prsS sg r 1 o p n).2.1) = 0 := by
  match r with
  | 0 => exact absurd h (rbad_n (by decide))
  | r + 1 =>
    have h : (rsq (prsS sg r 0 o p n) (fun p' m => prsS sg r 7 o p' (n + m))).1 = 0 := h
    show muS (sg (rsq (prsS sg r 0 o p n) (fun p' m => prsS sg r 7 o p' (n + m))).2.1) = 0
    obtain ⟨e1, e2, e3⟩ := rsq_ok h
    rw [e3]
    exact end_pl r o _ _ e2
theorem end_sl {sg : Nat → Int} : ∀ (r o p n : Nat), muS (sg p) = 0 → (prsS sg r 8 o p n).1 = 0 → muS (sg (prsS sg r 8 o p n).2.1) = 0 ∧ adS (sg (prsS sg r 8 o p n).2.1) = 0
  | 0, o, p, n => fun _ h => absurd h (rbad_n (by decide))
  | r + 1, o, p, n => by
    intro hp
    show (if adS (sg p) = 0 then ((0, p, []) : RR) else rsq (prsS sg r 1 o (p + 1) n) (fun p' m => rcat [(adS (sg p), 0)] (prsS sg r 8 o p' (n + m + 1)))).1 = 0 → muS (sg (if adS (sg p) = 0 then ((0, p, []) : RR) else rsq (prsS sg r 1 o (p + 1) n) (fun p' m => rcat [(adS (sg p), 0)] (prsS sg r 8 o p' (n + m + 1)))).2.1) = 0 ∧ adS (sg (if adS (sg p) = 0 then ((0, p, []) : RR) else rsq (prsS sg r 1 o (p + 1) n) (fun p' m => rcat [(adS (sg p), 0)] (prsS sg r 8 o p' (n + m + 1)))).2.1) = 0
    split
    · rename_i h
      exact fun _ => ⟨hp, h⟩
    · intro h
      obtain ⟨e1, e2, e3⟩ := rsq_ok h
      rw [e3]
      exact end_sl r o _ _ (end_p r o (p + 1) n e1) e2
theorem end_s {sg : Nat → Int} (r o p n : Nat) (h : (prsS sg r 2 o p n).1 = 0) : muS (sg (prsS sg r 2 o p n).2.1) = 0 ∧ adS (sg (prsS sg r 2 o p n).2.1) = 0 := by
  match r with
  | 0 => exact absurd h (rbad_n (by decide))
  | r + 1 =>
    have h : (rsq (prsS sg r 1 o p n) (fun p' m => prsS sg r 8 o p' (n + m))).1 = 0 := h
    show muS (sg (rsq (prsS sg r 1 o p n) (fun p' m => prsS sg r 8 o p' (n + m))).2.1) = 0 ∧ adS (sg (rsq (prsS sg r 1 o p n) (fun p' m => prsS sg r 8 o p' (n + m))).2.1) = 0
    obtain ⟨e1, e2, e3⟩ := rsq_ok h
    rw [e3]
    exact end_sl r o _ _ (end_p r o p n e1) e2
/-- what stands around the reference's reader -/
def yHyp (T : Nat → Nat × Nat) (R : Nat → Nat → Option Nat) (I : Nat → Nat → Int) (L : Nat) : Prop := hp T R ∧ I 152 19 = (L : Int) ∧ L ≤ 160 ∧ ∀ j, -128 ≤ I 162 j ∧ I 162 j ≤ 127 ∨ L ≤ j
theorem hr_bd {T : Nat → Nat × Nat} {R : Nat → Nat → Option Nat} {I : Nat → Nat → Int} {L : Nat} (hy : yHyp T R I L) (p : Nat) : hr I L p = -1 ∨ 0 ≤ hr I L p ∧ hr I L p ≤ 255 := by
  unfold hr
  by_cases h : p < L
  · right
    rw [if_pos h]
    rcases hy.2.2.2 p with z | z
    · rw [and255 z.1 z.2]
      omega
    · omega
  · exact Or.inl (if_neg h)
theorem hr_hs {I : Nat → Nat → Int} {L : Nat} : ∀ p, L ≤ p → hr I L p = -1 := fun p h => if_neg (by omega)
section
variable (s L : Nat) (T : Nat → Nat × Nat) (I J : Nat → Nat → Int) (R : Nat → Nat → Option Nat) (fa sm : Int) (F H G : Nat → Int) (b e : Nat) (Q : Option AV → AH → Prop)
/-- behind a fault -/
def mB (f : Int) : Prop := ∀ (p1 o1 n1 w1 nm1 : Int) (X1 W1 : Nat → Int), Q (some (.inl 0)) (185, s, T, pI I p1 f o1 n1 w1 sm nm1 X1 W1 F H G, J, R)
/-- behind readsFactor -/
def cK : Option AV → AH → Prop := fun v g => (185 ≤ g.1 ∧ s ≤ g.2.1) ∧ ((v = some (.inl 0) ∧ Q (some (.inl 0)) g) ∨ (v = some (.inl 1) ∧ ∀ l2, wp codeT mX (e + 4) 146 8 [some (.inr (.inr (some 152))), some (.inl (b : Int)), l2] [] g Q))
/-- what was read is said, but for what waits -/
def aft (n w : Nat) (X W : Nat → Int) (l : List (Int × Int)) (n1 w1 : Nat) (X1 W1 : Nat → Int) (pr0 : List (Int × Int)) (a m : Int) : Prop := (∀ j, j < n → X1 j = X j) ∧ (∀ j, j < w → W1 j = W j) ∧ XB W1 ∧ pnd W1 w w1 a m ∧ ∃ l', pr0 ++ l = l' ++ pcd a m ∧ n1 = n + l'.length ∧ RB X1 n l'
/-- kinds 0, 1, 2 from readsFactor's loop -/
def mF (r k : Nat) : Prop := ∀ (o p n w : Nat) (X W : Nat → Int) (nm : Int), o ≤ 6 → 8 * (L + 1 - p) + k ≤ r → p ≤ L → n ≤ p → w ≤ p → b ≤ w → XB W → (w = 0 ∨ (k = 0 ∨ 10 ≤ cOp (W (w - 1)) ∨ (k = 1 ∧ cOp (W (w - 1)) ≤ 3))) → (∀ f, (prsS (hr I L) r k o p n).1 = f → ¬ f = 0 → mB s T I J R sm F H G Q f) → ((prsS (hr I L) r k o p n).1 = 0 → ∀ (a m : Int) (n1 w1 : Nat) (X1 W1 : Nat → Int) (nm1 : Int), (k = 0 → a = 0 ∧ m = 0) → (k = 1 → a = 0) → aft n w X W (prsS (hr I L) r k o p n).2.2 n1 w1 X1 W1 [] a m → ∀ l2, wp codeT mX (e + 4) 146 8 [some (.inr (.inr (some 152))), some (.inl (b : Int)), l2] [] (185, s, T, pI I ((prsS (hr I L) r k o p n).2.1 : Int) fa (o : Int) (n1 : Int) (w1 : Int) sm nm1 X1 W1 F H G, J, R) Q) → wp codeT mX (e + 3) 147 0 [some (.inr (.inr (some 152))), none] [] (185, s, T, pI I (p : Int) fa (o : Int) (n : Int) (w : Int) sm nm X W F H G, J, R) (cK s b e Q)
/-- a product's loop -/
def mPl (r : Nat) : Prop := ∀ (o p n w w1 : Nat) (m : Int) (X W : Nat → Int) (nm : Int), o ≤ 6 → 8 * (L + 1 - p) ≤ r → p ≤ L → n + (pcd 0 m).length ≤ p → w1 ≤ p → b ≤ w → XB W → pnd W w w1 0 m → (w = 0 ∨ (10 ≤ cOp (W (w - 1)) ∨ cOp (W (w - 1)) ≤ 3)) → (∀ f, (prsS (hr I L) r 7 o p (n + (pcd 0 m).length)).1 = f → ¬ f = 0 → mB s T I J R sm F H G Q f) → ((prsS (hr I L) r 7 o p (n + (pcd 0 m).length)).1 = 0 → ∀ (m2 : Int) (n2 w2 : Nat) (X2 W2 : Nat → Int) (nm2 : Int), aft n w X W (prsS (hr I L) r 7 o p (n + (pcd 0 m).length)).2.2 n2 w2 X2 W2 (pcd 0 m) 0 m2 → ∀ l2, wp codeT mX (e + 4) 146 8 [some (.inr (.inr (some 152))), some (.inl (b : Int)), l2] [] (185, s, T, pI I ((prsS (hr I L) r 7 o p (n + (pcd 0 m).length)).2.1 : Int) fa (o : Int) (n2 : Int) (w2 : Int) sm nm2 X2 W2 F H G, J, R) Q) → ∀ l2, wp codeT mX (e + 4) 146 8 [some (.inr (.inr (some 152))), some (.inl (b : Int)), l2] [] (185, s, T, pI I (p : Int) fa (o : Int) (n : Int) (w1 : Int) sm nm X W F H G, J, R) Q
/-- a sum's loop -/
def mSl (r : Nat) : Prop := ∀ (o p n w w1 : Nat) (a m : Int) (X W : Nat → Int) (nm : Int), o ≤ 6 → 8 * (L + 1 - p) ≤ r → p ≤ L → n + (pcd a m).length ≤ p → w1 ≤ p → b ≤ w → XB W → pnd W w w1 a m → (w = 0 ∨ 10 ≤ cOp (W (w - 1))) → muS (hr I L p) = 0 → (∀ f, (prsS (hr I L) r 8 o p (n + (pcd a m).length)).1 = f → ¬ f = 0 → mB s T I J R sm F H G Q f) → ((prsS (hr I L) r 8 o p (n + (pcd a m).length)).1 = 0 → ∀ (a2 m2 : Int) (n2 w2 : Nat) (X2 W2 : Nat → Int) (nm2 : Int), aft n w X W (prsS (hr I L) r 8 o p (n + (pcd a m).length)).2.2 n2 w2 X2 W2 (pcd a m) a2 m2 → ∀ l2, wp codeT mX (e + 4) 146 8 [some (.inr (.inr (some 152))), some (.inl (b : Int)), l2] [] (185, s, T, pI I ((prsS (hr I L) r 8 o p (n + (pcd a m).length)).2.1 : Int) fa (o : Int) (n2 : Int) (w2 : Int) sm nm2 X2 W2 F H G, J, R) Q) → ∀ l2, wp codeT mX (e + 4) 146 8 [some (.inr (.inr (some 152))), some (.inl (b : Int)), l2] [] (185, s, T, pI I (p : Int) fa (o : Int) (n : Int) (w1 : Int) sm nm X W F H G, J, R) Q
end
section
variable {s L : Nat} {T : Nat → Nat × Nat} {I J : Nat → Nat → Int} {R : Nat → Nat → Option Nat} {fa sm : Int} {F H G : Nat → Int} {b e r : Nat} {Q : Option AV → AH → Prop}
theorem pnd_0 {W : Nat → Int} {w : Nat} : pnd W w w 0 0 := ⟨Or.inl rfl, Or.inl rfl, Or.inl ⟨rfl, rfl, rfl⟩⟩
theorem pcd_0 : pcd 0 0 = [] := rfl
theorem hr_w {p : Nat} (h : ¬ hr I L p = -1) : p < L := hr_lt rfl h
theorem mf0 (hy : yHyp T R I L) (h2 : mF s L T I J R fa sm F H G b e Q r 2) : mF s L T I J R fa sm F H G b e Q (r + 1) 0 := by
  intro o p n w X W nm ho hr0 hp hn hw hbw hW ht hB hO
  obtain ⟨hh, hL, hL2, -⟩ := id hy
  have hm := mdl_hp hh
  have kh := k_here (J := J) (s := s) hm hL hL2 hp
  have hb := hr_bd hy p
  have p2 : p ≤ 160 := by omega
  have e0 : prsS (hr I L) (r + 1) 0 o p n = (if hr I L p = 91 then (if 6 ≤ o then rbad 5 p else rend 93 (hr I L) (prsS (hr I L) r 2 (o + 1) (p + 1) n)) else if 0 ≤ tkF (hr I L p) then (0, p + 1, [(1, tkF (hr I L p))]) else if 48 ≤ hr I L p ∧ hr I L p ≤ 57 then ((nmS (hr I L) 5 p 0).1, (nmS (hr I L) 5 p 0).2.1, [(0, (nmS (hr I L) 5 p 0).2.2)]) else rbad 1 p) := rfl
  refine s147_0.mpr ?_
  by_cases h91 : hr I L p = 91
  · have hpL : p < L := hr_w (by rw [h91]; decide)
    rw [if_pos h91] at e0
    by_cases ho6 : 6 ≤ o
    · rw [if_pos ho6] at e0
      rw [e0] at hB
      have fin := hB _ rfl (rbad_n (by decide)) p o n w nm X W
      have o6 : o = 6 := by omega
      simp only [s147_1, s147_2, s147_3, s147_4, s147_5, s147_6, s147_7, s147_8, s147_9, Option.toList_some, Option.toList_none, List.cons_append, List.nil_append, Nat.le_refl, true_and, and_true, true_or, or_true, false_or, or_false, true_implies, false_implies, implies_true, not_true_eq_false, not_false_eq_true, eq_self, Nat.reduceLT, Nat.reduceLeDiff, Nat.reduceEqDiff, Nat.reduceAdd, Nat.reduceSub, Int.reduceLT, Int.reduceLE, Int.reduceEq, Int.reduceNeg, Int.reduceNe, Int.reduceAdd, Int.reduceSub, Int.reduceMul, Int.reduceToNat, Int.toNat_zero, Int.toNat_one, Int.toNat_natCast, am_cats, am_cat, am_st1, am_st2, am_clr, up2_na, up2_nj, up2_same, List.getElem?_cons_zero, List.getElem?_cons_succ, List.set_cons_zero, List.set_cons_succ, ne_eq, tk_152 hh, kh, h91, m148n hh p2 o6]
      exact ⟨⟨Nat.le_refl _, Nat.le_refl _⟩, Or.inl ⟨rfl, fin⟩⟩
    · rw [if_neg ho6] at e0
      simp only [s147_1, s147_2, s147_3, s147_4, s147_5, s147_6, s147_7, Option.toList_some, Option.toList_none, List.cons_append, List.nil_append, Nat.le_refl, true_and, and_true, true_or, or_true, false_or, or_false, true_implies, false_implies, implies_true, not_true_eq_false, not_false_eq_true, eq_self, Nat.reduceLT, Nat.reduceLeDiff, Nat.reduceEqDiff, Nat.reduceAdd, Nat.reduceSub, Int.reduceLT, Int.reduceLE, Int.reduceEq, Int.reduceNeg, Int.reduceNe, Int.reduceAdd, Int.reduceSub, Int.reduceMul, Int.reduceToNat, Int.toNat_zero, Int.toNat_one, Int.toNat_natCast, am_cats, am_cat, am_st1, am_st2, am_clr, up2_na, up2_nj, up2_same, List.getElem?_cons_zero, List.getElem?_cons_succ, List.set_cons_zero, List.set_cons_succ, ne_eq, tk_152 hh, kh, h91, m148y hh (by decide : (0 : Int) ≤ 14 ∧ (14 : Int) ≤ 14) p2 (show w ≤ 160 by omega) ho6]
      refine h2 (o + 1) (p + 1) n (w + 1) X _ nm (by omega) (by omega) (by omega) (by omega) (by omega) (by omega) (XB_sx hW (by unfold rg; decide)) (Or.inr (Or.inr (Or.inl ?_))) (fun f hf h0 => ?_) (fun h0 a m n1 w1 X1 W1 nm1 hk0 hk1 haf l2 => ?_)
      · show 10 ≤ cOp (sx W w (1048576 * 14) w)
        rw [sx_s]
        decide
      · have hne : ¬ (prsS (hr I L) r 2 (o + 1) (p + 1) n).1 = 0 := by rw [hf]; exact h0
        have e1 : prsS (hr I L) (r + 1) 0 o p n = prsS (hr I L) r 2 (o + 1) (p + 1) n := by
          rw [e0]
          unfold rend
          rw [if_neg hne]
        exact hB f (by rw [e1]; exact hf) h0
      · obtain ⟨es1, es2⟩ := end_s r (o + 1) (p + 1) n h0
        obtain ⟨ad1, ad2, ad3⟩ := rd_adv (sg := hr I L) (L := L) hr_hs r 2 (o + 1) (p + 1) n (by omega) h0
        obtain ⟨f1, f2, f3, f4, l', f5, f6, f7⟩ := haf
        rw [List.nil_append] at f5
        have flen : (prsS (hr I L) r 2 (o + 1) (p + 1) n).2.2.length = l'.length + (pcd a m).length := by rw [f5, List.length_append]
        have w14 : W1 w = 1048576 * 14 := by rw [f2 w (by omega)]; exact sx_s
        have c14 : cOp (W1 w) = 14 := by rw [w14]; decide
        have hww : w + 1 ≤ w1 ∧ w1 ≤ w + 3 := by
          obtain ⟨-, -, z⟩ := f4
          omega
        have hbnd : p + 1 ≤ 160 := by omega
        generalize hP : prsS (hr I L) r 2 (o + 1) (p + 1) n = P at *
        obtain ⟨P1, p', l⟩ := P
        have h0 : P1 = 0 := h0
        subst h0
        have ad1 : p' ≤ L := ad1
        have ad2 : p + 1 + l.length ≤ p' := ad2
        have es1 : muS (hr I L p') = 0 := es1
        have es2 : adS (hr I L p') = 0 := es2
        have flen : l.length = l'.length + (pcd a m).length := flen
        have f5 : l = l' ++ pcd a m := f5
        have kh2 := k_here (J := J) (s := s) hm hL hL2 ad1
        have esf : ssF (hr I L p') = -1 := by unfold ssF; rw [if_pos es2, if_pos es1]
        have w160 : w1 ≤ 160 := by
          sorry
        refine s146_8.mpr ?_
        by_cases h93 : hr I L p' = 93
        · have q1 : p' < L := hr_w (by rw [h93]; decide)
          have e1 : prsS (hr I L) (r + 1) 0 o p n = (0, p' + 1, l) := by
            rw [e0]
            show (if (0 : Int) = 0 then (if hr I L p' = 93 then ((0, p' + 1, l) : RR) else rbad 1 p') else _) = _
            rw [if_pos rfl, if_pos h93]
          rw [e1] at hO
          have s93 : ssF 93 = -1 := by decide
          simp only [s146_9, s146_10, s146_11, s146_12, s146_13, s146_14, s146_48, s146_49, s146_50, s146_51, s146_52, s146_53, s146_54, s146_55, s146_56, s146_57, s146_58, Option.toList_some, Option.toList_none, List.cons_append, List.nil_append, Nat.le_refl, true_and, and_true, true_or, or_true, false_or, or_false, true_implies, false_implies, implies_true, not_true_eq_false, not_false_eq_true, eq_self, Nat.reduceLT, Nat.reduceLeDiff, Nat.reduceEqDiff, Nat.reduceAdd, Nat.reduceSub, Int.reduceLT, Int.reduceLE, Int.reduceEq, Int.reduceNeg, Int.reduceNe, Int.reduceAdd, Int.reduceSub, Int.reduceMul, Int.reduceToNat, Int.toNat_zero, Int.toNat_one, Int.toNat_natCast, am_cats, am_cat, am_st1, am_st2, am_clr, up2_na, up2_nj, up2_same, List.getElem?_cons_zero, List.getElem?_cons_succ, List.set_cons_zero, List.set_cons_succ, ne_eq, tk_152 hh, kh2, h93, m153, s93, m156y hh f3 w160 ⟨w, hbw, by omega, c14⟩]
          refine mc_all (w := w + 1) hh f3 f4 w160 (by omega) (Or.inr (by show 10 ≤ cOp (W1 w); rw [c14]; decide)) (fun X2 g1 g2 => ⟨⟨Nat.le_refl _, Nat.le_refl _⟩, ?_⟩)
          have fin := hO rfl 0 0 (n1 + (pcd a m).length) w X2 W1 nm1 (fun _ => ⟨rfl, rfl⟩) (fun _ => rfl) ⟨fun j hj => (g1 j (by omega)).trans (f1 j hj), fun j hj => (f2 j (by omega)).trans (sx_n (by omega)), f3, pnd_0, l, by rw [pcd_0, List.append_nil, List.nil_append], by omega, by rw [f5]; exact RB_app (RB_cg f7 (fun j hj => g1 j (by omega))) (by rw [← f6]; exact g2)⟩
          simp only [s146_59, s146_60, s146_61, s146_62, s146_63, s146_64, s146_65, s146_66, s146_67, s146_68, s146_69, s146_70, s146_71, s146_72, s146_73, s146_74, s146_75, s146_76, s146_77, s146_93, Option.toList_some, Option.toList_none, List.cons_append, List.nil_append, Nat.le_refl, true_and, and_true, true_or, or_true, false_or, or_false, true_implies, false_implies, implies_true, not_true_eq_false, not_false_eq_true, eq_self, Nat.reduceLT, Nat.reduceLeDiff, Nat.reduceEqDiff, Nat.reduceAdd, Nat.reduceSub, Int.reduceLT, Int.reduceLE, Int.reduceEq, Int.reduceNeg, Int.reduceNe, Int.reduceAdd, Int.reduceSub, Int.reduceMul, Int.reduceToNat, Int.toNat_zero, Int.toNat_one, Int.toNat_natCast, am_cats, am_cat, am_st1, am_st2, am_clr, up2_na, up2_nj, up2_same, List.getElem?_cons_zero, List.getElem?_cons_succ, List.set_cons_zero, List.set_cons_succ, ne_eq, tk_152 hh, pI_18, pI_21, pI_23, pu_18, pu_21, pu_23, w32_d (show w ≤ 1080 by omega), w32_d (show o ≤ 1080 by omega), w32_s (show p' ≤ 1080 by omega)]
          exact fin _
        · have e1 : prsS (hr I L) (r + 1) 0 o p n = rbad 1 p' := by
            rw [e0]
            show (if (0 : Int) = 0 then (if hr I L p' = 93 then ((0, p' + 1, l) : RR) else rbad 1 p') else _) = _
            rw [if_pos rfl, if_neg h93]
          have fin := hB _ (by rw [e1]) (rbad_n (by decide)) p' ((o + 1 : Nat) : Int) n1 w1 nm1 X1 W1
          have p3 : p' ≤ 160 := by omega
          simp only [s146_9, s146_10, s146_11, s146_12, s146_13, s146_14, s146_48, s146_49, s146_50, s146_51, s146_78, s146_79, s146_80, s146_81, s146_82, s146_83, s146_84, s146_85, s146_86, s146_87, Option.toList_some, Option.toList_none, List.cons_append, List.nil_append, Nat.le_refl, true_and, and_true, true_or, or_true, false_or, or_false, true_implies, false_implies, implies_true, not_true_eq_false, not_false_eq_true, eq_self, Nat.reduceLT, Nat.reduceLeDiff, Nat.reduceEqDiff, Nat.reduceAdd, Nat.reduceSub, Int.reduceLT, Int.reduceLE, Int.reduceEq, Int.reduceNeg, Int.reduceNe, Int.reduceAdd, Int.reduceSub, Int.reduceMul, Int.reduceToNat, Int.toNat_zero, Int.toNat_one, Int.toNat_natCast, am_cats, am_cat, am_st1, am_st2, am_clr, up2_na, up2_nj, up2_same, List.getElem?_cons_zero, List.getElem?_cons_succ, List.set_cons_zero, List.set_cons_succ, ne_eq, tk_152 hh, kh2, h93, m153, esf, m156y hh f3 w160 ⟨w, hbw, by omega, c14⟩, pI_18, m145 hh (by decide : (1 : Int) ≤ 1 ∧ (1 : Int) ≤ 9) p3]
          exact fin
  rw [if_neg h91] at e0
  sorry
end
