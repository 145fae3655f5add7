/-! the law's two readers, 8: the reference's comparisons; jumps -/
section
variable {s L : Nat} {T : Nat → Nat × Nat} {I J : Nat → Nat → Int} {R : Nat → Nat → Option Nat} {fa sm : Int} {F H G : Nat → Int} {e r : Nat} {Q : Option AV → AH → Prop}
theorem m146 (hy : yHyp T R I L) {o p n w : Nat} {nm : Int} {X W : Nat → Int} (ho : o ≤ 6) (hr0 : 8 * (L + 1 - p) + 2 ≤ r) (hp : p ≤ L) (hn : n ≤ p) (hw : w ≤ p) (hW : XB W) (hts : w = 0 ∨ 10 ≤ cOp (W (w - 1))) (hB : ∀ f, (prsS (hr I L) r 2 o p n).1 = f → ¬ f = 0 → mBd s T I J R sm F H G Q f) (hO : (prsS (hr I L) r 2 o p n).1 = 0 → ∀ (nm1 : Int) (X1 W1 : Nat → Int), (∀ j, j < n → X1 j = X j) → (∀ j, j < w → W1 j = W j) → XB W1 → RB X1 n (prsS (hr I L) r 2 o p n).2.2 → Q (some (.inl 1)) (185, s, T, pI I ((prsS (hr I L) r 2 o p n).2.1 : Int) fa (o : Int) ((n + (prsS (hr I L) r 2 o p n).2.2.length : Nat) : Int) (w : Int) sm nm1 X1 W1 F H G, J, R)) : wpc codeT mX (e + 4) 146 [.inr (.inr (some 152))] (185, s, T, pI I (p : Int) fa (o : Int) (n : Int) (w : Int) sm nm X W F H G, J, R) Q := by
  obtain ⟨hh, hL, hL2, -⟩ := id hy
  have ad := rd_adv (sg := hr I L) (L := L) hr_hs r 2 o p n hp
  simp only [s146_0, s146_1, s146_2, s146_3, s146_4, e146, Option.toList_some, Option.toList_none, List.cons_append, List.nil_append, Nat.le_refl, true_and, and_true, true_or, or_true, false_or, or_false, true_implies, false_implies, implies_true, not_true_eq_false, not_false_eq_true, eq_self, Nat.reduceLT, Nat.reduceLeDiff, Nat.reduceEqDiff, Nat.reduceAdd, Nat.reduceSub, Int.reduceLT, Int.reduceLE, Int.reduceEq, Int.reduceNeg, Int.reduceNe, Int.reduceAdd, Int.reduceSub, Int.reduceMul, Int.reduceToNat, Int.toNat_zero, Int.toNat_one, Int.toNat_natCast, am_cats, am_cat, am_st1, am_st2, am_clr, up2_na, up2_nj, up2_same, List.getElem?_cons_zero, List.getElem?_cons_succ, List.set_cons_zero, List.set_cons_succ, ne_eq, tk_152 hh, pI_23]
  refine c5 ((mf_all hy r).1 2 (by decide) o p n w X W nm ho hr0 hp hn hw (Nat.le_refl _) hW (by rcases hts with h | h; exact Or.inl h; exact Or.inr (Or.inr (Or.inl h))) hB (fun h0 a m n1 w1 X1 W1 nm1 hk0 hk1 haf l2 => ?_))
  obtain ⟨ad1, ad2, ad3⟩ := ad h0
  obtain ⟨es1, es2⟩ := end_s r o p n h0
  obtain ⟨f0, f1, f2, f3, f4, l', f5, f6, f7⟩ := haf
  rw [List.nil_append] at f5
  have flen : (prsS (hr I L) r 2 o p n).2.2.length = l'.length + (pcd a m).length := by rw [f5, List.length_append]
  have hO := hO h0 nm1
  generalize prsS (hr I L) r 2 o p n = P at *
  obtain ⟨P1, p', l⟩ := P
  have h0 : P1 = 0 := h0
  subst h0
  have ad1 : p' ≤ L := ad1
  have ad2 : p + l.length ≤ p' := ad2
  have es1 : muS (hr I L p') = 0 := es1
  have es2 : adS (hr I L p') = 0 := es2
  have flen : l.length = l'.length + (pcd a m).length := flen
  have f5 : l = l' ++ pcd a m := f5
  have f0 : w1 ≤ p' := f0
  have kh2 := k_here (J := J) (s := s) (mdl_hp hh) hL hL2 ad1
  have esf : ssF (hr I L p') = -1 := by unfold ssF; rw [if_pos es2, if_pos es1]
  have w160 : w1 ≤ 160 := by omega
  have ww := pnd_le f4
  have ht2 : w = 0 ∨ 10 ≤ cOp (W1 (w - 1)) := by
    by_cases e0 : w = 0
    · exact Or.inl e0
    · rw [f2 (w - 1) (by omega)]
      exact hts
  have key : wp codeT mX (e + 4) 146 88 [some (.inr (.inr (some 152))), some (.inl (w : Int)), some (.inl (-1))] [] (185, s, T, pI I (p' : Int) fa (o : Int) (n1 : Int) (w1 : Int) sm nm1 X1 W1 F H G, J, R) Q := by
    refine s146_88.mpr ?_
    simp only [s146_89, s146_90, Option.toList_some, Option.toList_none, List.cons_append, List.nil_append, Nat.le_refl, true_and, and_true, true_or, or_true, false_or, or_false, true_implies, false_implies, implies_true, not_true_eq_false, not_false_eq_true, eq_self, Nat.reduceLT, Nat.reduceLeDiff, Nat.reduceEqDiff, Nat.reduceAdd, Nat.reduceSub, Int.reduceLT, Int.reduceLE, Int.reduceEq, Int.reduceNeg, Int.reduceNe, Int.reduceAdd, Int.reduceSub, Int.reduceMul, Int.reduceToNat, Int.toNat_zero, Int.toNat_one, Int.toNat_natCast, am_cats, am_cat, am_st1, am_st2, am_clr, up2_na, up2_nj, up2_same, List.getElem?_cons_zero, List.getElem?_cons_succ, List.set_cons_zero, List.set_cons_succ, ne_eq, tk_152 hh]
    refine mc_all (n := n1) (w := w) (m := m) (a := a) hh f3 f4 w160 (by omega) ht2 (fun X2 g1 g2 => ⟨⟨Nat.le_refl _, Nat.le_refl _⟩, ?_⟩)
    have fin := hO X2 W1 (fun j hj => (g1 j (by omega)).trans (f1 j hj)) f2 f3 (by rw [f5]; exact RB_app (RB_cg f7 (fun j hj => g1 j (by omega))) (by rw [← f6]; exact g2))
    rw [show n + l.length = n1 + (pcd a m).length by omega] at fin
    simp only [s146_91, s146_92, Option.toList_some, Option.toList_none, List.cons_append, List.nil_append, Nat.le_refl, true_and, and_true, true_or, or_true, false_or, or_false, true_implies, false_implies, implies_true, not_true_eq_false, not_false_eq_true, eq_self, Nat.reduceLT, Nat.reduceLeDiff, Nat.reduceEqDiff, Nat.reduceAdd, Nat.reduceSub, Int.reduceLT, Int.reduceLE, Int.reduceEq, Int.reduceNeg, Int.reduceNe, Int.reduceAdd, Int.reduceSub, Int.reduceMul, Int.reduceToNat, Int.toNat_zero, Int.toNat_one, Int.toNat_natCast, am_cats, am_cat, am_st1, am_st2, am_clr, up2_na, up2_nj, up2_same, List.getElem?_cons_zero, List.getElem?_cons_succ, List.set_cons_zero, List.set_cons_succ, ne_eq]
    exact fin
  refine s146_8.mpr ?_
  by_cases h93 : hr I L p' = 93
  · have s93 : ssF 93 = -1 := by decide
    simp only [s146_9, s146_10, s146_11, s146_12, s146_13, s146_14, s146_48, s146_49, s146_50, s146_51, s146_52, s146_53, s146_54, s146_55, s146_78, s146_79, s146_80, s146_81, Option.toList_some, Option.toList_none, List.cons_append, List.nil_append, Nat.le_refl, true_and, and_true, true_or, or_true, false_or, or_false, true_implies, false_implies, implies_true, not_true_eq_false, not_false_eq_true, eq_self, Nat.reduceLT, Nat.reduceLeDiff, Nat.reduceEqDiff, Nat.reduceAdd, Nat.reduceSub, Int.reduceLT, Int.reduceLE, Int.reduceEq, Int.reduceNeg, Int.reduceNe, Int.reduceAdd, Int.reduceSub, Int.reduceMul, Int.reduceToNat, Int.toNat_zero, Int.toNat_one, Int.toNat_natCast, am_cats, am_cat, am_st1, am_st2, am_clr, up2_na, up2_nj, up2_same, List.getElem?_cons_zero, List.getElem?_cons_succ, List.set_cons_zero, List.set_cons_succ, ne_eq, tk_152 hh, kh2, h93, m153, s93, m156n hh f3 w160 ww (pnd_14 f4)]
    exact key
  · simp only [s146_9, s146_10, s146_11, s146_12, s146_13, s146_14, s146_48, s146_49, s146_50, s146_51, s146_78, s146_79, s146_80, s146_81, Option.toList_some, Option.toList_none, List.cons_append, List.nil_append, Nat.le_refl, true_and, and_true, true_or, or_true, false_or, or_false, true_implies, false_implies, implies_true, not_true_eq_false, not_false_eq_true, eq_self, Nat.reduceLT, Nat.reduceLeDiff, Nat.reduceEqDiff, Nat.reduceAdd, Nat.reduceSub, Int.reduceLT, Int.reduceLE, Int.reduceEq, Int.reduceNeg, Int.reduceNe, Int.reduceAdd, Int.reduceSub, Int.reduceMul, Int.reduceToNat, Int.toNat_zero, Int.toNat_one, Int.toNat_natCast, am_cats, am_cat, am_st1, am_st2, am_clr, up2_na, up2_nj, up2_same, List.getElem?_cons_zero, List.getElem?_cons_succ, List.set_cons_zero, List.set_cons_succ, ne_eq, tk_152 hh, kh2, h93, m153, esf, m156n hh f3 w160 ww (pnd_14 f4)]
    exact key
/-! denials that end -/
def nts : Nat → List (Int × Int)
  | 0 => []
  | c + 1 => (10, 0) :: nts c
theorem nts_len : ∀ c, (nts c).length = c
  | 0 => rfl
  | c + 1 => by rw [nts, List.length_cons, nts_len c]
theorem nts_app (l : List (Int × Int)) (c : Nat) : l ++ nts (c + 1) = l ++ [(10, 0)] ++ nts c := by
  rw [List.append_assoc]; rfl
/-- c denials wait above w0 -/
def wnt (W : Nat → Int) (w0 c : Nat) : Prop := (∀ j, w0 ≤ j → j < w0 + c → W j = 1048576 * 10) ∧ 1 ≤ w0 ∧ cOp (W (w0 - 1)) ≠ 10
theorem m159_loop (hh : hp T R) {W : Nat → Int} (hW : XB W) {d w0 o0 : Nat} {pp nm : Int} (o6 : o0 ≤ 20) : ∀ (c n : Nat) (X : Nat → Int), wnt W w0 c → w0 + c ≤ 160 → n + c ≤ 180 → c ≤ 20 → (∀ X1 : Nat → Int, (∀ j, j < n → X1 j = X j) → RB X1 n (nts c) → Q none (185, s, T, pI I pp fa (o0 : Int) ((n + c : Nat) : Int) (w0 : Int) sm nm X1 W F H G, J, R)) → wp codeT mX (d + 1) 159 0 [some (.inr (.inr (some 152)))] [] (185, s, T, pI I pp fa ((o0 + c : Nat) : Int) (n : Int) ((w0 + c : Nat) : Int) sm nm X W F H G, J, R) Q := by
  intro c
  induction c with
  | zero =>
    intro n X hw hw1 hn hc hQ
    obtain ⟨h1, h2, h3⟩ := hw
    obtain ⟨v, rfl⟩ : ∃ v, w0 = v + 1 := ⟨w0 - 1, by omega⟩
    have h3 : ¬ cOp (W v) = 10 := h3
    have fin := hQ X (fun _ _ => rfl) RB_nil
    refine s159_0.mpr ?_
    simp only [Nat.add_zero] at fin ⊢
    simp only [s159_1, s159_2, s159_3, s159_21, Option.toList_some, Option.toList_none, List.cons_append, List.nil_append, Nat.le_refl, true_and, and_true, true_or, or_true, false_or, or_false, true_implies, false_implies, implies_true, not_true_eq_false, not_false_eq_true, eq_self, Nat.reduceLT, Nat.reduceLeDiff, Nat.reduceEqDiff, Nat.reduceAdd, Nat.reduceSub, Int.reduceLT, Int.reduceLE, Int.reduceEq, Int.reduceNeg, Int.reduceNe, Int.reduceAdd, Int.reduceSub, Int.reduceMul, Int.reduceToNat, Int.toNat_zero, Int.toNat_one, Int.toNat_natCast, am_cats, am_cat, am_st1, am_st2, am_clr, up2_na, up2_nj, up2_same, List.getElem?_cons_zero, List.getElem?_cons_succ, List.set_cons_zero, List.set_cons_succ, ne_eq, tk_152 hh, m155 hh hW (show v ≤ 160 by omega), h3]
    exact fin
  | succ c ih =>
    intro n X hw hw1 hn hc hQ
    obtain ⟨h1, h2, h3⟩ := hw
    have e10 : cOp (W (w0 + c)) = 10 := by rw [h1 (w0 + c) (by omega) (by omega)]; decide
    have nx := ih (n + 1) (sx X n (1048576 * 10 + 0)) ⟨fun j z1 z2 => h1 j z1 (by omega), h2, h3⟩ (by omega) (by omega) (by omega) (fun X1 g1 g2 => by
      have := hQ X1 (fun j hj => (g1 j (by omega)).trans (sx_n (by omega))) (RB_app (l1 := [(10, 0)]) (RB_cg RB_one (fun j hj => g1 j (by simpa using hj))) g2)
      rw [show n + 1 + c = n + (c + 1) by omega]
      exact this)
    refine s159_0.mpr ?_
    rw [show w0 + (c + 1) = w0 + c + 1 by omega, show o0 + (c + 1) = o0 + c + 1 by omega]
    simp only [s159_1, s159_2, s159_3, s159_4, s159_5, s159_6, s159_7, s159_8, s159_9, s159_10, s159_11, s159_12, s159_13, s159_14, s159_15, s159_16, s159_17, s159_18, s159_19, s159_20, Option.toList_some, Option.toList_none, List.cons_append, List.nil_append, Nat.le_refl, true_and, and_true, true_or, or_true, false_or, or_false, true_implies, false_implies, implies_true, not_true_eq_false, not_false_eq_true, eq_self, Nat.reduceLT, Nat.reduceLeDiff, Nat.reduceEqDiff, Nat.reduceAdd, Nat.reduceSub, Int.reduceLT, Int.reduceLE, Int.reduceEq, Int.reduceNeg, Int.reduceNe, Int.reduceAdd, Int.reduceSub, Int.reduceMul, Int.reduceToNat, Int.toNat_zero, Int.toNat_one, Int.toNat_natCast, am_cats, am_cat, am_st1, am_st2, am_clr, up2_na, up2_nj, up2_same, List.getElem?_cons_zero, List.getElem?_cons_succ, List.set_cons_zero, List.set_cons_succ, ne_eq, tk_152 hh, m155 hh hW (show w0 + c ≤ 160 by omega), e10, m151 hh (by decide : (0 : Int) ≤ 10 ∧ (10 : Int) ≤ 14) (by decide : (0 : Int) ≤ 0 ∧ (0 : Int) < 1048576) (show n < 180 by omega), pI_21, pI_23, pu_21, pu_23, w32_d (show w0 + c ≤ 1080 by omega), w32_d (show o0 + c ≤ 1080 by omega)]
    exact nx
theorem m158 (hy : yHyp T R I L) {o0 c p n w0 : Nat} {nm : Int} {X W : Nat → Int} (ho : o0 + c ≤ 6) (hr0 : 8 * (L + 1 - p) + 3 ≤ r) (hp : p ≤ L) (hn : n + c ≤ p) (hw : w0 + c ≤ p) (hW : XB W) (hnt : wnt W w0 c) (hts : 10 ≤ cOp (W (w0 - 1))) (hB : ∀ f, (prsS (hr I L) r 3 (o0 + c) p n).1 = f → ¬ f = 0 → mBd s T I J R sm F H G Q f) (hO : (prsS (hr I L) r 3 (o0 + c) p n).1 = 0 → ∀ (nm1 : Int) (X1 W1 : Nat → Int), (∀ j, j < n → X1 j = X j) → (∀ j, j < w0 → W1 j = W j) → XB W1 → RB X1 n ((prsS (hr I L) r 3 (o0 + c) p n).2.2 ++ nts c) → Q (some (.inl 1)) (185, s, T, pI I ((prsS (hr I L) r 3 (o0 + c) p n).2.1 : Int) fa (o0 : Int) ((n + (prsS (hr I L) r 3 (o0 + c) p n).2.2.length + c : Nat) : Int) (w0 : Int) sm nm1 X1 W1 F H G, J, R)) : wpc codeT mX (e + 5) 158 [.inr (.inr (some 152))] (185, s, T, pI I (p : Int) fa ((o0 + c : Nat) : Int) (n : Int) ((w0 + c : Nat) : Int) sm nm X W F H G, J, R) Q := by
  obtain ⟨r, rfl⟩ : ∃ r', r = r' + 1 := ⟨r - 1, by omega⟩
  obtain ⟨hh, hL, hL2, -⟩ := id hy
  have hc10 : ∀ j, w0 ≤ j → j < w0 + c → cOp (W j) = 10 := fun j z1 z2 => by rw [hnt.1 j z1 z2]; decide
  have hts1 : w0 + c = 0 ∨ 10 ≤ cOp (W (w0 + c - 1)) := by
    right
    by_cases e0 : c = 0
    · subst e0; exact hts
    · rw [hc10 (w0 + c - 1) (by omega) (by omega)]
      decide
  simp only [s158_0, s158_1, e158, Option.toList_some, Option.toList_none, List.cons_append, List.nil_append, Nat.le_refl, true_and, and_true, true_or, or_true, false_or, or_false, true_implies, false_implies, implies_true, not_true_eq_false, not_false_eq_true, eq_self, Nat.reduceLT, Nat.reduceLeDiff, Nat.reduceEqDiff, Nat.reduceAdd, Nat.reduceSub, Int.reduceLT, Int.reduceLE, Int.reduceEq, Int.reduceNeg, Int.reduceNe, Int.reduceAdd, Int.reduceSub, Int.reduceMul, Int.reduceToNat, Int.toNat_zero, Int.toNat_one, Int.toNat_natCast, am_cats, am_cat, am_st1, am_st2, am_clr, up2_na, up2_nj, up2_same, List.getElem?_cons_zero, List.getElem?_cons_succ, List.set_cons_zero, List.set_cons_succ, ne_eq, tk_152 hh]
  refine m146 (e := e) (r := r) hy ho (by omega) hp (by omega) hw hW hts1 (fun f hf h0 => ?_) (fun h0 nm1 X1 W1 g1 g2 g3 g4 => ⟨⟨Nat.le_refl _, Nat.le_refl _⟩, ?_⟩)
  · have hne : ¬ (prsS (hr I L) r 2 (o0 + c) p n).1 = 0 := by rw [hf]; exact h0
    have e1 : prsS (hr I L) (r + 1) 3 (o0 + c) p n = prsS (hr I L) r 2 (o0 + c) p n := rsq_n (k := fun p1 m => if cmS (hr I L p1) = 0 then rbad 1 p1 else rsq (prsS (hr I L) r 2 (o0 + c) (p1 + 1) (n + m)) (fun p2 _ => (0, p2, [(cmS (hr I L p1), 0)]))) hne
    intro p1 o1 n1 w1 nm1 X1 W1
    have fin := hB f (by rw [e1]; exact hf) h0 p1 o1 n1 w1 nm1 X1 W1
    refine ⟨⟨Nat.le_refl _, Nat.le_refl _⟩, ?_⟩
    simp only [s158_2, s158_3, s158_4, Option.toList_some, Option.toList_none, List.cons_append, List.nil_append, Nat.le_refl, true_and, and_true, true_or, or_true, false_or, or_false, true_implies, false_implies, implies_true, not_true_eq_false, not_false_eq_true, eq_self, Nat.reduceLT, Nat.reduceLeDiff, Nat.reduceEqDiff, Nat.reduceAdd, Nat.reduceSub, Int.reduceLT, Int.reduceLE, Int.reduceEq, Int.reduceNeg, Int.reduceNe, Int.reduceAdd, Int.reduceSub, Int.reduceMul, Int.reduceToNat, Int.toNat_zero, Int.toNat_one, Int.toNat_natCast, am_cats, am_cat, am_st1, am_st2, am_clr, up2_na, up2_nj, up2_same, List.getElem?_cons_zero, List.getElem?_cons_succ, List.set_cons_zero, List.set_cons_succ, ne_eq]
    exact fin
  · have e0 : prsS (hr I L) (r + 1) 3 (o0 + c) p n = rcat (prsS (hr I L) r 2 (o0 + c) p n).2.2 (if cmS (hr I L (prsS (hr I L) r 2 (o0 + c) p n).2.1) = 0 then rbad 1 (prsS (hr I L) r 2 (o0 + c) p n).2.1 else rsq (prsS (hr I L) r 2 (o0 + c) ((prsS (hr I L) r 2 (o0 + c) p n).2.1 + 1) (n + (prsS (hr I L) r 2 (o0 + c) p n).2.2.length)) (fun p2 _ => (0, p2, [(cmS (hr I L (prsS (hr I L) r 2 (o0 + c) p n).2.1), 0)]))) := rsq_y (k := fun p1 m => if cmS (hr I L p1) = 0 then rbad 1 p1 else rsq (prsS (hr I L) r 2 (o0 + c) (p1 + 1) (n + m)) (fun p2 _ => (0, p2, [(cmS (hr I L p1), 0)]))) h0
    obtain ⟨ad1, ad2, ad3⟩ := rd_adv (sg := hr I L) (L := L) hr_hs r 2 (o0 + c) p n hp h0
    have ad3 := ad3 (by decide)
    generalize prsS (hr I L) r 2 (o0 + c) p n = P at *
    obtain ⟨P1, p1, l⟩ := P
    have h0 : P1 = 0 := h0
    subst h0
    have e0 : prsS (hr I L) (r + 1) 3 (o0 + c) p n = rcat l (if cmS (hr I L p1) = 0 then rbad 1 p1 else rsq (prsS (hr I L) r 2 (o0 + c) (p1 + 1) (n + l.length)) (fun p2 _ => (0, p2, [(cmS (hr I L p1), 0)]))) := e0
    have ad1 : p1 ≤ L := ad1
    have ad2 : p + l.length ≤ p1 := ad2
    have ad3 : p < p1 := ad3
    have g4 : RB X1 n l := g4
    have kh := k_here (J := J) (s := s) (mdl_hp hh) hL hL2 ad1
    have p2 : p1 ≤ 160 := by omega
    by_cases hm : cmS (hr I L p1) = 0
    · rw [if_pos hm] at e0
      rw [e0] at hB
      have fin := hB _ rfl (rbad_n (by decide)) p1 ((o0 + c : Nat) : Int) ((n + l.length : Nat) : Int) ((w0 + c : Nat) : Int) nm1 X1 W1
      obtain ⟨c1, c2, c3⟩ := cmS_z hm
      simp only [s158_2, s158_5, s158_6, s158_7, s158_8, s158_11, s158_12, s158_13, s158_14, s158_17, s158_18, s158_19, s158_20, s158_23, s158_24, s158_25, s158_26, s158_27, s158_28, s158_29, s158_30, s158_31, s158_32, s158_33, Option.toList_some, Option.toList_none, List.cons_append, List.nil_append, Nat.le_refl, true_and, and_true, true_or, or_true, false_or, or_false, true_implies, false_implies, implies_true, not_true_eq_false, not_false_eq_true, eq_self, Nat.reduceLT, Nat.reduceLeDiff, Nat.reduceEqDiff, Nat.reduceAdd, Nat.reduceSub, Int.reduceLT, Int.reduceLE, Int.reduceEq, Int.reduceNeg, Int.reduceNe, Int.reduceAdd, Int.reduceSub, Int.reduceMul, Int.reduceToNat, Int.toNat_zero, Int.toNat_one, Int.toNat_natCast, am_cats, am_cat, am_st1, am_st2, am_clr, up2_na, up2_nj, up2_same, List.getElem?_cons_zero, List.getElem?_cons_succ, List.set_cons_zero, List.set_cons_succ, ne_eq, tk_152 hh, kh, c1, c2, c3, pI_18, m145 hh (by decide : (1 : Int) ≤ 1 ∧ (1 : Int) ≤ 9) p2]
      exact fin
    · obtain ⟨hs, hcc⟩ := cmS_n hm
      have hpL : p1 < L := hr_w (I := I) (by omega)
      have hcb : 7 ≤ cmS (hr I L p1) ∧ cmS (hr I L p1) ≤ 9 := by rcases hcc with h | h | h <;> rw [h] <;> decide
      have hne1 : ¬ cmS (hr I L p1) = -1 := by omega
      rw [if_neg hm] at e0
      rw [e0] at hB hO
      have K : wp codeT mX (e + 5) 158 24 [some (.inr (.inr (some 152))), none] [.inl (cmS (hr I L p1))] (185, s, T, pI I (p1 : Int) fa ((o0 + c : Nat) : Int) ((n + l.length : Nat) : Int) ((w0 + c : Nat) : Int) sm nm1 X1 W1 F H G, J, R) Q := by
        generalize hC : cmS (hr I L p1) = C at *
        refine s158_24.mpr ?_
        simp only [s158_25, s158_26, s158_27, s158_34, s158_35, s158_36, s158_37, s158_38, s158_39, s158_40, s158_41, Option.toList_some, Option.toList_none, List.cons_append, List.nil_append, Nat.le_refl, true_and, and_true, true_or, or_true, false_or, or_false, true_implies, false_implies, implies_true, not_true_eq_false, not_false_eq_true, eq_self, Nat.reduceLT, Nat.reduceLeDiff, Nat.reduceEqDiff, Nat.reduceAdd, Nat.reduceSub, Int.reduceLT, Int.reduceLE, Int.reduceEq, Int.reduceNeg, Int.reduceNe, Int.reduceAdd, Int.reduceSub, Int.reduceMul, Int.reduceToNat, Int.toNat_zero, Int.toNat_one, Int.toNat_natCast, am_cats, am_cat, am_st1, am_st2, am_clr, up2_na, up2_nj, up2_same, List.getElem?_cons_zero, List.getElem?_cons_succ, List.set_cons_zero, List.set_cons_succ, ne_eq, tk_152 hh, hne1, pI_18, pu_18, w32_s (show p1 ≤ 1080 by omega)]
        have hts2 : w0 + c = 0 ∨ 10 ≤ cOp (W1 (w0 + c - 1)) := by
          rcases hts1 with h | h
          · exact Or.inl h
          · right
            rw [g2 (w0 + c - 1) (by have := hnt.2.1; omega)]
            exact h
        refine m146 (e := e) (r := r) hy ho (by omega) (by omega) (by omega) (by omega) g3 hts2 (fun f hf hz => ?_) (fun hz nm2 X2 W2 k1 k2 k3 k4 => ⟨⟨Nat.le_refl _, Nat.le_refl _⟩, ?_⟩)
        · have hne : ¬ (prsS (hr I L) r 2 (o0 + c) (p1 + 1) (n + l.length)).1 = 0 := by rw [hf]; exact hz
          intro p3 o3 n3 w3 nm3 X3 W3
          have fin := hB f (by rw [rsq_n hne]; exact hf) hz p3 o3 n3 w3 nm3 X3 W3
          refine ⟨⟨Nat.le_refl _, Nat.le_refl _⟩, ?_⟩
          simp only [s158_42, s158_43, s158_44, Option.toList_some, Option.toList_none, List.cons_append, List.nil_append, Nat.le_refl, true_and, and_true, true_or, or_true, false_or, or_false, true_implies, false_implies, implies_true, not_true_eq_false, not_false_eq_true, eq_self, Nat.reduceLT, Nat.reduceLeDiff, Nat.reduceEqDiff, Nat.reduceAdd, Nat.reduceSub, Int.reduceLT, Int.reduceLE, Int.reduceEq, Int.reduceNeg, Int.reduceNe, Int.reduceAdd, Int.reduceSub, Int.reduceMul, Int.reduceToNat, Int.toNat_zero, Int.toNat_one, Int.toNat_natCast, am_cats, am_cat, am_st1, am_st2, am_clr, up2_na, up2_nj, up2_same, List.getElem?_cons_zero, List.getElem?_cons_succ, List.set_cons_zero, List.set_cons_succ, ne_eq]
          exact fin
        · obtain ⟨bd1, bd2, bd3⟩ := rd_adv (sg := hr I L) (L := L) hr_hs r 2 (o0 + c) (p1 + 1) (n + l.length) (by omega) hz
          rw [rsq_y hz] at hO
          generalize prsS (hr I L) r 2 (o0 + c) (p1 + 1) (n + l.length) = P2 at *
          obtain ⟨P3, p3, lc⟩ := P2
          have bd1 : p3 ≤ L := bd1
          have bd2 : p1 + 1 + lc.length ≤ p3 := bd2
          have k4 : RB X2 (n + l.length) lc := k4
          have hO : (0 : Int) = 0 → ∀ (nm1 : Int) (X1 W1 : Nat → Int), (∀ j, j < n → X1 j = X j) → (∀ j, j < w0 → W1 j = W j) → XB W1 → RB X1 n (l ++ (lc ++ (C, 0) :: List.nil) ++ nts c) → Q (some (.inl 1)) (185, s, T, pI I (p3 : Int) fa (o0 : Int) ((n + (l ++ (lc ++ (C, 0) :: List.nil)).length + c : Nat) : Int) (w0 : Int) sm nm1 X1 W1 F H G, J, R) := hO
          have elen : (l ++ (lc ++ [(C, (0 : Int))])).length = l.length + lc.length + 1 := by rw [List.length_append, List.length_append]; show _ + (_ + 1) = _; omega
          simp only [s158_42, s158_45, s158_46, s158_47, s158_48, s158_49, s158_50, Option.toList_some, Option.toList_none, List.cons_append, List.nil_append, Nat.le_refl, true_and, and_true, true_or, or_true, false_or, or_false, true_implies, false_implies, implies_true, not_true_eq_false, not_false_eq_true, eq_self, Nat.reduceLT, Nat.reduceLeDiff, Nat.reduceEqDiff, Nat.reduceAdd, Nat.reduceSub, Int.reduceLT, Int.reduceLE, Int.reduceEq, Int.reduceNeg, Int.reduceNe, Int.reduceAdd, Int.reduceSub, Int.reduceMul, Int.reduceToNat, Int.toNat_zero, Int.toNat_one, Int.toNat_natCast, am_cats, am_cat, am_st1, am_st2, am_clr, up2_na, up2_nj, up2_same, List.getElem?_cons_zero, List.getElem?_cons_succ, List.set_cons_zero, List.set_cons_succ, ne_eq, tk_152 hh, m151 hh (show 0 ≤ C ∧ C ≤ 14 by omega) (by decide : (0 : Int) ≤ 0 ∧ (0 : Int) < 1048576) (show n + l.length + lc.length < 180 by omega)]
          rw [e159]
          refine m159_loop (d := e + 3) hh k3 (by omega) c (n + l.length + lc.length + 1) _ ⟨fun j z1 z2 => ?_, hnt.2.1, ?_⟩ (by omega) (by omega) (by omega) (fun X3 y1 y2 => ⟨⟨Nat.le_refl _, Nat.le_refl _⟩, ?_⟩)
          · rw [k2 j (by omega), g2 j (by omega)]
            exact hnt.1 j z1 z2
          · have := hnt.2.1
            rw [k2 (w0 - 1) (by omega), g2 (w0 - 1) (by omega)]
            exact hnt.2.2
          · have fin := hO rfl nm2 X3 W2 (fun j hj => by rw [y1 j (by omega), sx_n (by omega), k1 j (by omega)]; exact g1 j hj) (fun j hj => by rw [k2 j (by omega)]; exact g2 j (by omega)) k3 (by
              refine RB_app (RB_app (RB_cg g4 (fun j hj => by rw [y1 j (by omega), sx_n (by omega)]; exact k1 j (by omega))) (RB_app (RB_cg k4 (fun j hj => by rw [y1 j (by omega), sx_n (by omega)])) (RB_cg RB_one (fun j hj => y1 j (by simpa using hj))))) ?_
              rw [elen, ← Nat.add_assoc, ← Nat.add_assoc]
              exact y2)
            rw [elen, ← Nat.add_assoc, ← Nat.add_assoc] at fin
            simp only [s158_51, s158_52, Option.toList_some, Option.toList_none, List.cons_append, List.nil_append, Nat.le_refl, true_and, and_true, true_or, or_true, false_or, or_false, true_implies, false_implies, implies_true, not_true_eq_false, not_false_eq_true, eq_self, Nat.reduceLT, Nat.reduceLeDiff, Nat.reduceEqDiff, Nat.reduceAdd, Nat.reduceSub, Int.reduceLT, Int.reduceLE, Int.reduceEq, Int.reduceNeg, Int.reduceNe, Int.reduceAdd, Int.reduceSub, Int.reduceMul, Int.reduceToNat, Int.toNat_zero, Int.toNat_one, Int.toNat_natCast, am_cats, am_cat, am_st1, am_st2, am_clr, up2_na, up2_nj, up2_same, List.getElem?_cons_zero, List.getElem?_cons_succ, List.set_cons_zero, List.set_cons_succ, ne_eq]
            exact fin
      rcases hcc with h | h | h
      · rw [h] at K kh
        simp only [s158_2, s158_5, s158_6, s158_7, s158_8, s158_9, s158_10, Option.toList_some, Option.toList_none, List.cons_append, List.nil_append, Nat.le_refl, true_and, and_true, true_or, or_true, false_or, or_false, true_implies, false_implies, implies_true, not_true_eq_false, not_false_eq_true, eq_self, Nat.reduceLT, Nat.reduceLeDiff, Nat.reduceEqDiff, Nat.reduceAdd, Nat.reduceSub, Int.reduceLT, Int.reduceLE, Int.reduceEq, Int.reduceNeg, Int.reduceNe, Int.reduceAdd, Int.reduceSub, Int.reduceMul, Int.reduceToNat, Int.toNat_zero, Int.toNat_one, Int.toNat_natCast, am_cats, am_cat, am_st1, am_st2, am_clr, up2_na, up2_nj, up2_same, List.getElem?_cons_zero, List.getElem?_cons_succ, List.set_cons_zero, List.set_cons_succ, ne_eq, tk_152 hh, kh]
        exact K
      · rw [h] at K kh
        simp only [s158_2, s158_5, s158_6, s158_7, s158_8, s158_11, s158_12, s158_13, s158_14, s158_15, s158_16, Option.toList_some, Option.toList_none, List.cons_append, List.nil_append, Nat.le_refl, true_and, and_true, true_or, or_true, false_or, or_false, true_implies, false_implies, implies_true, not_true_eq_false, not_false_eq_true, eq_self, Nat.reduceLT, Nat.reduceLeDiff, Nat.reduceEqDiff, Nat.reduceAdd, Nat.reduceSub, Int.reduceLT, Int.reduceLE, Int.reduceEq, Int.reduceNeg, Int.reduceNe, Int.reduceAdd, Int.reduceSub, Int.reduceMul, Int.reduceToNat, Int.toNat_zero, Int.toNat_one, Int.toNat_natCast, am_cats, am_cat, am_st1, am_st2, am_clr, up2_na, up2_nj, up2_same, List.getElem?_cons_zero, List.getElem?_cons_succ, List.set_cons_zero, List.set_cons_succ, ne_eq, tk_152 hh, kh]
        exact K
      · rw [h] at K kh
        simp only [s158_2, s158_5, s158_6, s158_7, s158_8, s158_11, s158_12, s158_13, s158_14, s158_17, s158_18, s158_19, s158_20, s158_21, s158_22, Option.toList_some, Option.toList_none, List.cons_append, List.nil_append, Nat.le_refl, true_and, and_true, true_or, or_true, false_or, or_false, true_implies, false_implies, implies_true, not_true_eq_false, not_false_eq_true, eq_self, Nat.reduceLT, Nat.reduceLeDiff, Nat.reduceEqDiff, Nat.reduceAdd, Nat.reduceSub, Int.reduceLT, Int.reduceLE, Int.reduceEq, Int.reduceNeg, Int.reduceNe, Int.reduceAdd, Int.reduceSub, Int.reduceMul, Int.reduceToNat, Int.toNat_zero, Int.toNat_one, Int.toNat_natCast, am_cats, am_cat, am_st1, am_st2, am_clr, up2_na, up2_nj, up2_same, List.getElem?_cons_zero, List.getElem?_cons_succ, List.set_cons_zero, List.set_cons_succ, ne_eq, tk_152 hh, kh]
        exact K
end
