/-! the law's two readers, 9: the reference's conditions -/
theorem end_9 {sg : Nat → Int} : ∀ (r o p n : Nat), (prsS sg r 9 o p n).1 = 0 → sg (prsS sg r 9 o p n).2.1 ≠ 38
  | 0, o, p, n => fun h => absurd h (rbad_n (by decide))
  | r + 1, o, p, n => by
    show (if sg p = 38 then rlop 11 n (prsS sg r 4 o (p + 1) (n + 1)) (fun p' m => prsS sg r 9 o p' m) else ((0, p, []) : RR)).1 = 0 → sg (if sg p = 38 then rlop 11 n (prsS sg r 4 o (p + 1) (n + 1)) (fun p' m => prsS sg r 9 o p' m) else ((0, p, []) : RR)).2.1 ≠ 38
    split
    · unfold rlop
      split
      · exact fun h => end_9 r o _ _ h
      · rename_i h2
        exact fun h => absurd h h2
    · rename_i h
      exact fun _ => h
theorem end_5 {sg : Nat → Int} (r o p n : Nat) (h : (prsS sg r 5 o p n).1 = 0) : sg (prsS sg r 5 o p n).2.1 ≠ 38 := by
  match r with
  | 0 => exact absurd h (rbad_n (by decide))
  | r + 1 =>
    have h : (rsq (prsS sg r 4 o p n) (fun p' m => prsS sg r 9 o p' (n + m))).1 = 0 := h
    show sg (rsq (prsS sg r 4 o p n) (fun p' m => prsS sg r 9 o p' (n + m))).2.1 ≠ 38
    obtain ⟨e1, e2, e3⟩ := rsq_ok h
    rw [e3]
    exact end_9 r o _ _ e2
theorem end_10 {sg : Nat → Int} : ∀ (r o p n : Nat), sg p ≠ 38 → (prsS sg r 10 o p n).1 = 0 → sg (prsS sg r 10 o p n).2.1 ≠ 38 ∧ sg (prsS sg r 10 o p n).2.1 ≠ 124
  | 0, o, p, n => fun _ h => absurd h (rbad_n (by decide))
  | r + 1, o, p, n => by
    intro hp
    show (if sg p = 124 then rlop 12 n (prsS sg r 5 o (p + 1) (n + 1)) (fun p' m => prsS sg r 10 o p' m) else ((0, p, []) : RR)).1 = 0 → sg (if sg p = 124 then rlop 12 n (prsS sg r 5 o (p + 1) (n + 1)) (fun p' m => prsS sg r 10 o p' m) else ((0, p, []) : RR)).2.1 ≠ 38 ∧ sg (if sg p = 124 then rlop 12 n (prsS sg r 5 o (p + 1) (n + 1)) (fun p' m => prsS sg r 10 o p' m) else ((0, p, []) : RR)).2.1 ≠ 124
    split
    · unfold rlop
      split
      · rename_i h2
        exact fun h => end_10 r o _ _ (end_5 r o _ _ h2) h
      · rename_i h2
        exact fun h => absurd h h2
    · rename_i h
      exact fun _ => ⟨hp, h⟩
theorem end_6 {sg : Nat → Int} (r o p n : Nat) (h : (prsS sg r 6 o p n).1 = 0) : sg (prsS sg r 6 o p n).2.1 ≠ 38 ∧ sg (prsS sg r 6 o p n).2.1 ≠ 124 := by
  match r with
  | 0 => exact absurd h (rbad_n (by decide))
  | r + 1 =>
    have h : (rsq (prsS sg r 5 o p n) (fun p' m => prsS sg r 10 o p' (n + m))).1 = 0 := h
    show sg (rsq (prsS sg r 5 o p n) (fun p' m => prsS sg r 10 o p' (n + m))).2.1 ≠ 38 ∧ sg (rsq (prsS sg r 5 o p n) (fun p' m => prsS sg r 10 o p' (n + m))).2.1 ≠ 124
    obtain ⟨e1, e2, e3⟩ := rsq_ok h
    rw [e3]
    exact end_10 r o _ _ (end_5 r o p n e1) e2
def ldJ (op : Int) (X : Nat → Int) (q : Option Nat) (n : Nat) : Nat → Int := match q with
  | none => X
  | some q => sx X q (1048576 * op + (n : Int))
def jnd (W : Nat → Int) (w w1 : Nat) (qo qa : Option Nat) : Prop := match qo, qa with
  | none, none => w1 = w
  | some q, none => w1 = w + 1 ∧ W w = 1048576 * 12 + (q : Int)
  | none, some q => w1 = w + 1 ∧ W w = 1048576 * 11 + (q : Int)
  | some q, some q2 => w1 = w + 2 ∧ W w = 1048576 * 12 + (q : Int) ∧ W (w + 1) = 1048576 * 11 + (q2 : Int)
def JS (n0 : Nat) (X0 : Nat → Int) (l : List (Int × Int)) (n : Nat) (X : Nat → Int) (qo qa : Option Nat) : Prop := (∀ j, j < n0 → X j = X0 j) ∧ n = n0 + l.length ∧ (∀ q, qo = some q → n0 ≤ q ∧ q < n ∧ X q = 1048576 * 12) ∧ (∀ q, qa = some q → n0 ≤ q ∧ q < n ∧ X q = 1048576 * 11) ∧ RB (ldJ 12 (ldJ 11 X qa n) qo n) n0 l
theorem jnd_le {W : Nat → Int} {w w1 : Nat} {qo qa : Option Nat} (h : jnd W w w1 qo qa) : w ≤ w1 ∧ w1 ≤ w + 2 := by
  match qo, qa, h with
  | none, none, h => exact ⟨Nat.le_of_eq h.symm, by rw [show w1 = w from h]; omega⟩
  | some q, none, h => exact ⟨by have := h.1; omega, by have := h.1; omega⟩
  | none, some q, h => exact ⟨by have := h.1; omega, by have := h.1; omega⟩
  | some q, some q2, h => exact ⟨by have := h.1; omega, by have := h.1; omega⟩
section
variable {d s L : Nat} {T : Nat → Nat × Nat} {I J : Nat → Nat → Int} {R : Nat → Nat → Option Nat} {fa op sm nm : Int} {X W F H G : Nat → Int} {n w p : Nat} {Q : Option AV → AH → Prop}
theorem l160_stop (hh : hp T R) (hW : XB W) (hw : w ≤ 160) {b pp cm : Int} {l2 : Option AV} (hQ : Q none (185, s, T, pI I pp fa op cm ((w + 1 : Nat) : Int) sm nm X W F H G, J, R)) (hb : b = 0 ∨ b = 1) (h1 : cOp (W w) ≠ 11) (h2 : b = 0 ∨ cOp (W w) ≠ 12) : wp codeT mX (d + 1) 160 0 [some (.inr (.inr (some 152))), some (.inl b), l2] [] (185, s, T, pI I pp fa op cm ((w + 1 : Nat) : Int) sm nm X W F H G, J, R) Q := by
  refine s160_0.mpr ?_
  rcases hb with rfl | rfl
  · simp only [s160_1, s160_2, s160_3, s160_4, s160_5, s160_6, s160_7, s160_8, s160_9, s160_42, Option.toList_some, Option.toList_none, List.cons_append, List.nil_append, Nat.le_refl, true_and, and_true, true_or, or_true, false_or, or_false, true_implies, false_implies, implies_true, not_true_eq_false, not_false_eq_true, eq_self, Nat.reduceLT, Nat.reduceLeDiff, Nat.reduceEqDiff, Nat.reduceAdd, Nat.reduceSub, Int.reduceLT, Int.reduceLE, Int.reduceEq, Int.reduceNeg, Int.reduceNe, Int.reduceAdd, Int.reduceSub, Int.reduceMul, Int.reduceToNat, Int.toNat_zero, Int.toNat_one, Int.toNat_natCast, am_cats, am_cat, am_st1, am_st2, am_clr, up2_na, up2_nj, up2_same, List.getElem?_cons_zero, List.getElem?_cons_succ, List.set_cons_zero, List.set_cons_succ, ne_eq, tk_152 hh, m155 hh hW hw, h1]
    exact hQ
  · have h2 : ¬ cOp (W w) = 12 := h2.resolve_left (by decide)
    simp only [s160_1, s160_2, s160_3, s160_4, s160_5, s160_6, s160_7, s160_8, s160_9, s160_42, Option.toList_some, Option.toList_none, List.cons_append, List.nil_append, Nat.le_refl, true_and, and_true, true_or, or_true, false_or, or_false, true_implies, false_implies, implies_true, not_true_eq_false, not_false_eq_true, eq_self, Nat.reduceLT, Nat.reduceLeDiff, Nat.reduceEqDiff, Nat.reduceAdd, Nat.reduceSub, Int.reduceLT, Int.reduceLE, Int.reduceEq, Int.reduceNeg, Int.reduceNe, Int.reduceAdd, Int.reduceSub, Int.reduceMul, Int.reduceToNat, Int.toNat_zero, Int.toNat_one, Int.toNat_natCast, am_cats, am_cat, am_st1, am_st2, am_clr, up2_na, up2_nj, up2_same, List.getElem?_cons_zero, List.getElem?_cons_succ, List.set_cons_zero, List.set_cons_succ, ne_eq, tk_152 hh, m155 hh hW hw, h1, h2]
    exact hQ
theorem l160_pop (hh : hp T R) (hW : XB W) (hw : w ≤ 160) (hn : n ≤ 180) {b pp o : Int} {q : Nat} {l2 : Option AV} (hb : b = 0 ∨ b = 1) (ho : o = 11 ∨ (o = 12 ∧ b = 1)) (hq : q < 180) (hWq : W w = 1048576 * o + (q : Int)) (hXq : X q = 1048576 * o) (hQ : ∀ l2, wp codeT mX (d + 1) 160 0 [some (.inr (.inr (some 152))), some (.inl b), l2] [] (185, s, T, pI I pp fa op (n : Int) (w : Int) sm nm (sx X q (1048576 * o + (n : Int))) W F H G, J, R) Q) : wp codeT mX (d + 1) 160 0 [some (.inr (.inr (some 152))), some (.inl b), l2] [] (185, s, T, pI I pp fa op (n : Int) ((w + 1 : Nat) : Int) sm nm X W F H G, J, R) Q := by
  have co : cOp (W w) = o := by rw [hWq]; exact (cOp_c (by omega) (by omega) (by omega)).1
  have ob : 11 ≤ o ∧ o ≤ 12 := by omega
  have u1 : 0 ≤ (w : Int) ∧ (w : Int) < ((180 : Nat) : Int) := by omega
  have u2 : 0 ≤ (q : Int) ∧ (q : Int) < ((180 : Nat) : Int) := by omega
  have t1 : Int.tdiv (W w) 1048576 = o := co
  have t2 : Int.tdiv (X q) 1048576 = o := by
    rw [hXq]
    exact cOp_m (by omega)
  have v1 : W w - o * 1048576 = (q : Int) := by rw [hWq]; omega
  have key : wp codeT mX (d + 1) 160 10 [some (.inr (.inr (some 152))), some (.inl b), l2] [] (185, s, T, pI I pp fa op (n : Int) ((w + 1 : Nat) : Int) sm nm X W F H G, J, R) Q := by
    have hQ := hQ (some (.inl (q : Int)))
    have e1 : w32 (q : Int) = (q : Int) := w32_eq (by omega) (by omega)
    have e2 : w32 o = o := w32_eq (by omega) (by omega)
    have e3 : w32 (1048576 * o) = 1048576 * o := w32_eq (by omega) (by omega)
    have e4 : w32 (1048576 * o + (n : Int)) = 1048576 * o + (n : Int) := w32_eq (by omega) (by omega)
    have e5 := w32_d (n := w) (by clear e1 e2 e3 e4; omega)
    refine s160_10.mpr ?_
    simp only [s160_11, s160_12, s160_13, s160_14, s160_15, s160_16, s160_17, s160_18, s160_19, s160_20, s160_21, s160_22, s160_23, s160_24, s160_25, s160_26, s160_27, s160_28, s160_29, s160_30, s160_31, s160_32, s160_33, s160_34, s160_35, s160_36, s160_37, s160_38, s160_39, s160_40, s160_41, Option.toList_some, Option.toList_none, List.cons_append, List.nil_append, Nat.le_refl, true_and, and_true, true_or, or_true, false_or, or_false, true_implies, false_implies, implies_true, not_true_eq_false, not_false_eq_true, eq_self, Nat.reduceLT, Nat.reduceLeDiff, Nat.reduceEqDiff, Nat.reduceAdd, Nat.reduceSub, Int.reduceLT, Int.reduceLE, Int.reduceEq, Int.reduceNeg, Int.reduceNe, Int.reduceAdd, Int.reduceSub, Int.reduceMul, Int.reduceToNat, Int.toNat_zero, Int.toNat_one, Int.toNat_natCast, am_cats, am_cat, am_st1, am_st2, am_clr, up2_na, up2_nj, up2_same, List.getElem?_cons_zero, List.getElem?_cons_succ, List.set_cons_zero, List.set_cons_succ, ne_eq, tk_152 hh, tk_163 hh, tk_164 hh, rk_152_26 hh, rk_152_27 hh, pI_22, pI_23, pI_163, pI_164, pu_23, pu_163, e5, u1, t1, v1, e1, u2, t2, e2, e3, e4]
    exact hQ
  refine s160_0.mpr ?_
  rcases ho with rfl | ⟨rfl, rfl⟩
  · simp only [s160_1, s160_2, s160_3, Option.toList_some, Option.toList_none, List.cons_append, List.nil_append, Nat.le_refl, true_and, and_true, true_or, or_true, false_or, or_false, true_implies, false_implies, implies_true, not_true_eq_false, not_false_eq_true, eq_self, Nat.reduceLT, Nat.reduceLeDiff, Nat.reduceEqDiff, Nat.reduceAdd, Nat.reduceSub, Int.reduceLT, Int.reduceLE, Int.reduceEq, Int.reduceNeg, Int.reduceNe, Int.reduceAdd, Int.reduceSub, Int.reduceMul, Int.reduceToNat, Int.toNat_zero, Int.toNat_one, Int.toNat_natCast, am_cats, am_cat, am_st1, am_st2, am_clr, up2_na, up2_nj, up2_same, List.getElem?_cons_zero, List.getElem?_cons_succ, List.set_cons_zero, List.set_cons_succ, ne_eq, tk_152 hh, m155 hh hW hw, co]
    exact key
  · simp only [s160_1, s160_2, s160_3, s160_4, s160_5, s160_6, s160_7, s160_8, s160_9, Option.toList_some, Option.toList_none, List.cons_append, List.nil_append, Nat.le_refl, true_and, and_true, true_or, or_true, false_or, or_false, true_implies, false_implies, implies_true, not_true_eq_false, not_false_eq_true, eq_self, Nat.reduceLT, Nat.reduceLeDiff, Nat.reduceEqDiff, Nat.reduceAdd, Nat.reduceSub, Int.reduceLT, Int.reduceLE, Int.reduceEq, Int.reduceNeg, Int.reduceNe, Int.reduceAdd, Int.reduceSub, Int.reduceMul, Int.reduceToNat, Int.toNat_zero, Int.toNat_one, Int.toNat_natCast, am_cats, am_cat, am_st1, am_st2, am_clr, up2_na, up2_nj, up2_same, List.getElem?_cons_zero, List.getElem?_cons_succ, List.set_cons_zero, List.set_cons_succ, ne_eq, tk_152 hh, m155 hh hW hw, co]
    exact key
theorem m160 (hh : hp T R) (hW : XB W) {w1 : Nat} {b pp : Int} {qo qa : Option Nat} {n0 : Nat} {X0 : Nat → Int} {l : List (Int × Int)} (hb : b = 0 ∨ b = 1) (hj : jnd W w w1 qo qa) (hs : JS n0 X0 l n X qo qa) (hq : b = 0 → qo = none) (hw1 : w1 ≤ 160) (hw0 : 1 ≤ w) (hn : n ≤ 160) (h1 : cOp (W (w - 1)) ≠ 11) (h2 : b = 0 ∨ cOp (W (w - 1)) ≠ 12) (hQ : Q none (185, s, T, pI I pp fa op (n : Int) (w : Int) sm nm (ldJ 12 (ldJ 11 X qa n) qo n) W F H G, J, R)) : wpc codeT mX (d + 1) 160 [.inr (.inr (some 152)), .inl b] (185, s, T, pI I pp fa op (n : Int) (w1 : Int) sm nm X W F H G, J, R) Q := by
  obtain ⟨v, rfl⟩ : ∃ v, w = v + 1 := ⟨w - 1, by omega⟩
  have stop : ∀ {X : Nat → Int} {l2 : Option AV}, Q none (185, s, T, pI I pp fa op (n : Int) ((v + 1 : Nat) : Int) sm nm X W F H G, J, R) → wp codeT mX (d + 1) 160 0 [some (.inr (.inr (some 152))), some (.inl b), l2] [] (185, s, T, pI I pp fa op (n : Int) ((v + 1 : Nat) : Int) sm nm X W F H G, J, R) Q := fun hQ => l160_stop hh hW (by have := jnd_le hj; omega) hQ hb h1 h2
  obtain ⟨s1, s2, s3, s4, s5⟩ := hs
  have wl := jnd_le hj
  rw [e160]
  match qo, qa, hj with
  | none, none, hj =>
    have hj : w1 = v + 1 := hj
    subst hj
    exact stop hQ
  | some q, none, hj =>
    obtain ⟨j1, j2⟩ := hj
    subst j1
    obtain ⟨a1, a2, a3⟩ := s3 q rfl
    have hb1 : b = 1 := hb.resolve_left (fun z => by have := hq z; cases this)
    exact l160_pop hh hW (by omega) (by omega) hb (Or.inr ⟨rfl, hb1⟩) (by omega) j2 a3 (fun _ => stop hQ)
  | none, some q, hj =>
    obtain ⟨j1, j2⟩ := hj
    subst j1
    obtain ⟨a1, a2, a3⟩ := s4 q rfl
    exact l160_pop hh hW (by omega) (by omega) hb (Or.inl rfl) (by omega) j2 a3 (fun _ => stop hQ)
  | some q, some q2, hj =>
    obtain ⟨j1, j2, j3⟩ := hj
    subst j1
    obtain ⟨a1, a2, a3⟩ := s3 q rfl
    obtain ⟨b1, b2, b3⟩ := s4 q2 rfl
    have hb1 : b = 1 := hb.resolve_left (fun z => by have := hq z; cases this)
    have hne : q ≠ q2 := by
      intro z
      rw [z, b3] at a3
      omega
    exact l160_pop hh hW (by omega) (by omega) hb (Or.inl rfl) (by omega) j3 b3 (fun _ => l160_pop hh hW (by omega) (by omega) hb (Or.inr ⟨rfl, hb1⟩) (by omega) j2 (by rw [sx_n hne]; exact a3) (fun _ => stop hQ))
theorem m161 (hh : hp T R) {z : Int} (hz : 0 ≤ z ∧ z ≤ 14) (hp2 : p ≤ 160) (hw : w ≤ 160) (hn : n < 180) : wpc codeT mX (d + 1) 161 [.inr (.inr (some 152)), .inl z] (185, s, T, pI I (p : Int) fa op (n : Int) (w : Int) sm nm X W F H G, J, R) Q ↔ Q none (185, s, T, pI I ((p + 1 : Nat) : Int) fa op ((n + 1 : Nat) : Int) ((w + 1 : Nat) : Int) sm nm (sx X n (1048576 * z + 0)) (sx W w (1048576 * z + (n : Int))) F H G, J, R) := wpc_det (by
  have u2 : 0 ≤ (w : Int) ∧ (w : Int) < ((180 : Nat) : Int) := by omega
  have e1 : w32 (1048576 * z) = 1048576 * z := w32_eq (by omega) (by omega)
  have e2 : w32 (1048576 * z + (n : Int)) = 1048576 * z + (n : Int) := w32_eq (by clear e1; omega) (by clear e1; omega)
  simp only [e161, s161_0, s161_1, s161_2, s161_3, s161_4, s161_5, s161_6, s161_7, s161_8, s161_9, s161_10, s161_11, s161_12, s161_13, s161_14, s161_15, s161_16, s161_17, s161_18, s161_19, s161_20, s161_21, s161_22, s161_23, s161_24, s161_25, s161_26, s161_27, Option.toList_some, Option.toList_none, List.cons_append, List.nil_append, Nat.le_refl, true_and, and_true, true_or, or_true, false_or, or_false, true_implies, false_implies, implies_true, not_true_eq_false, not_false_eq_true, eq_self, Nat.reduceLT, Nat.reduceLeDiff, Nat.reduceEqDiff, Nat.reduceAdd, Nat.reduceSub, Int.reduceLT, Int.reduceLE, Int.reduceEq, Int.reduceNeg, Int.reduceNe, Int.reduceAdd, Int.reduceSub, Int.reduceMul, Int.reduceToNat, Int.toNat_zero, Int.toNat_one, Int.toNat_natCast, am_cats, am_cat, am_st1, am_st2, am_clr, up2_na, up2_nj, up2_same, List.getElem?_cons_zero, List.getElem?_cons_succ, List.set_cons_zero, List.set_cons_succ, ne_eq, tk_152 hh, tk_164 hh, rk_152_27 hh, pI_18, pI_22, pI_23, pu_18, pu_23, pu_164, u2, e1, e2, m151 hh hz (by decide : (0 : Int) ≤ 0 ∧ (0 : Int) < 1048576) hn, w32_s (show w ≤ 1080 by clear e1 e2; omega), w32_s (show p ≤ 1080 by clear e1 e2; omega)])
end
section
variable (s L : Nat) (T : Nat → Nat × Nat) (I J : Nat → Nat → Int) (R : Nat → Nat → Option Nat) (fa sm : Int) (F H G : Nat → Int) (e : Nat) (Q : Option AV → AH → Prop)
/-- behind a piece -/
def jH (p o n w : Nat) (nm : Int) (X W : Nat → Int) : Prop := wp codeT mX (e + 6) 157 47 [some (.inr (.inr (some 152)))] [] (185, s, T, pI I (p : Int) fa (o : Int) (n : Int) (w : Int) sm nm X W F H G, J, R) Q
def jP (r : Nat) : Prop := ∀ (o0 c p n w0 : Nat) (X W : Nat → Int) (nm : Int), o0 + c ≤ 6 → 8 * (L + 1 - p) + 4 ≤ r → p ≤ L → n + c ≤ p → w0 + c ≤ p → XB W → wnt W w0 c → 10 ≤ cOp (W (w0 - 1)) → (∀ f, (prsS (hr I L) r 4 (o0 + c) p n).1 = f → ¬ f = 0 → mBd s T I J R sm F H G Q f) → ((prsS (hr I L) r 4 (o0 + c) p n).1 = 0 → ∀ (nm1 : Int) (X1 W1 : Nat → Int), (∀ j, j < n → X1 j = X j) → (∀ j, j < w0 → W1 j = W j) → XB W1 → RB X1 n ((prsS (hr I L) r 4 (o0 + c) p n).2.2 ++ nts c) → jH s T I J R fa sm F H G e Q (prsS (hr I L) r 4 (o0 + c) p n).2.1 o0 (n + (prsS (hr I L) r 4 (o0 + c) p n).2.2.length + c) w0 nm1 X1 W1) → wp codeT mX (e + 6) 157 22 [some (.inr (.inr (some 152)))] [] (185, s, T, pI I (p : Int) fa ((o0 + c : Nat) : Int) (n : Int) ((w0 + c : Nat) : Int) sm nm X W F H G, J, R) Q
/-- a part (5), a choice (6) -/
def jT (r k : Nat) : Prop := ∀ (o p n w : Nat) (X W : Nat → Int) (nm : Int), o ≤ 6 → 8 * (L + 1 - p) + k ≤ r → p ≤ L → n ≤ p → w ≤ p → 1 ≤ w → XB W → 11 ≤ cOp (W (w - 1)) → cOp (W (w - 1)) ≠ 11 → (k = 5 ∨ cOp (W (w - 1)) ≠ 12) → (∀ f, (prsS (hr I L) r k o p n).1 = f → ¬ f = 0 → mBd s T I J R sm F H G Q f) → ((prsS (hr I L) r k o p n).1 = 0 → ∀ (nm1 : Int) (n1 w1 : Nat) (X1 W1 : Nat → Int) (qo qa : Option Nat), (k = 5 → qo = none) → w1 ≤ (prsS (hr I L) r k o p n).2.1 → (∀ j, j < w → W1 j = W j) → XB W1 → jnd W1 w w1 qo qa → JS n X (prsS (hr I L) r k o p n).2.2 n1 X1 qo qa → jH s T I J R fa sm F H G e Q (prsS (hr I L) r k o p n).2.1 o n1 w1 nm1 X1 W1) → wp codeT mX (e + 6) 157 22 [some (.inr (.inr (some 152)))] [] (185, s, T, pI I (p : Int) fa (o : Int) (n : Int) (w : Int) sm nm X W F H G, J, R) Q
/-- their loops (9, 10) -/
def jL (r k : Nat) : Prop := ∀ (o p n0 n w w1 : Nat) (l0 : List (Int × Int)) (X0 W0 X W : Nat → Int) (nm : Int) (qo qa : Option Nat), o ≤ 6 → 8 * (L + 1 - p) ≤ r → p ≤ L → n ≤ p → w1 ≤ p → 1 ≤ w → XB W → 11 ≤ cOp (W (w - 1)) → cOp (W (w - 1)) ≠ 11 → (k = 9 ∨ cOp (W (w - 1)) ≠ 12) → (k = 9 → qo = none) → (∀ j, j < w → W j = W0 j) → jnd W w w1 qo qa → JS n0 X0 l0 n X qo qa → (∀ f, (prsS (hr I L) r k o p n).1 = f → ¬ f = 0 → mBd s T I J R sm F H G Q f) → ((prsS (hr I L) r k o p n).1 = 0 → ∀ (nm1 : Int) (n1 w1 : Nat) (X1 W1 : Nat → Int) (qo qa : Option Nat), (k = 9 → qo = none) → w1 ≤ (prsS (hr I L) r k o p n).2.1 → (∀ j, j < w → W1 j = W0 j) → XB W1 → jnd W1 w w1 qo qa → JS n0 X0 (l0 ++ (prsS (hr I L) r k o p n).2.2) n1 X1 qo qa → jH s T I J R fa sm F H G e Q (prsS (hr I L) r k o p n).2.1 o n1 w1 nm1 X1 W1) → jH s T I J R fa sm F H G e Q p o n w1 nm X W
end
section
variable {s L : Nat} {T : Nat → Nat × Nat} {I J : Nat → Nat → Int} {R : Nat → Nat → Option Nat} {fa sm : Int} {F H G : Nat → Int} {e r : Nat} {Q : Option AV → AH → Prop}
theorem jp4 (hy : yHyp T R I L) (h4 : jP s L T I J R fa sm F H G e Q r) (h6 : jT s L T I J R fa sm F H G e Q r 6) : jP s L T I J R fa sm F H G e Q (r + 1) := by
  intro o0 c p n w0 X W nm ho hr0 hp hn hw hW hnt hts hB hO
  obtain ⟨hh, hL, hL2, -⟩ := id hy
  have kh := k_here (J := J) (s := s) (mdl_hp hh) hL hL2 hp
  have p2 : p ≤ 160 := by omega
  have w01 := hnt.2.1
  have hc10 : ∀ j, w0 ≤ j → j < w0 + c → cOp (W j) = 10 := fun j z1 z2 => by rw [hnt.1 j z1 z2]; decide
  have e0 : prsS (hr I L) (r + 1) 4 (o0 + c) p n = (if hr I L p = 33 then (if 6 ≤ o0 + c then rbad 5 p else rsq (prsS (hr I L) r 4 (o0 + c + 1) (p + 1) n) (fun p' _ => (0, p', [(10, 0)]))) else if hr I L p = 40 then (if 6 ≤ o0 + c then rbad 5 p else rend 41 (hr I L) (prsS (hr I L) r 6 (o0 + c + 1) (p + 1) n)) else prsS (hr I L) r 3 (o0 + c) p n) := rfl
  by_cases h33 : hr I L p = 33
  · have hpL : p < L := hr_w (I := I) (by rw [h33]; decide)
    rw [if_pos h33] at e0
    by_cases ho6 : 6 ≤ o0 + c
    · rw [if_pos ho6] at e0
      rw [e0] at hB
      have fin := hB _ rfl (rbad_n (by decide)) p ((o0 + c : Nat) : Int) n ((w0 + c : Nat) : Int) nm X W
      have o6 : o0 + c = 6 := by omega
      refine s157_22.mpr ?_
      simp only [s157_23, s157_24, s157_25, s157_26, s157_27, s157_28, s157_29, s157_30, s157_31, s157_32, s157_33, s157_34, s157_35, s157_36, s157_37, s157_38, s157_39, s157_40, s157_41, Option.toList_some, Option.toList_none, List.cons_append, List.nil_append, Nat.le_refl, true_and, and_true, true_or, or_true, false_or, or_false, true_implies, false_implies, implies_true, not_true_eq_false, not_false_eq_true, eq_self, Nat.reduceLT, Nat.reduceLeDiff, Nat.reduceEqDiff, Nat.reduceAdd, Nat.reduceSub, Int.reduceLT, Int.reduceLE, Int.reduceEq, Int.reduceNeg, Int.reduceNe, Int.reduceAdd, Int.reduceSub, Int.reduceMul, Int.reduceToNat, Int.toNat_zero, Int.toNat_one, Int.toNat_natCast, am_cats, am_cat, am_st1, am_st2, am_clr, up2_na, up2_nj, up2_same, List.getElem?_cons_zero, List.getElem?_cons_succ, List.set_cons_zero, List.set_cons_succ, ne_eq, tk_152 hh, kh, h33, m148n hh p2 o6]
      exact fin
    · rw [if_neg ho6] at e0
      have W14 : ∀ j, j < w0 + c → sx W (w0 + c) (1048576 * 10) j = W j := fun j hj => sx_n (by omega)
      have nx := h4 o0 (c + 1) (p + 1) n w0 X (sx W (w0 + c) (1048576 * 10)) nm (by omega) (by omega) (by omega) (by omega) (by omega) (XB_sx hW (by unfold rg; decide)) ⟨fun j z1 z2 => by
        by_cases z : j = w0 + c
        · rw [z]; exact sx_s
        · rw [sx_n z]; exact hnt.1 j z1 (by omega), w01, by rw [W14 (w0 - 1) (by omega)]; exact hnt.2.2⟩ (by rw [W14 (w0 - 1) (by omega)]; exact hts) (fun f hf hz => by
        have hne : ¬ (prsS (hr I L) r 4 (o0 + (c + 1)) (p + 1) n).1 = 0 := by rw [hf]; exact hz
        exact hB f (by rw [e0]; rw [show o0 + c + 1 = o0 + (c + 1) by omega, rsq_n hne]; exact hf) hz) (fun hz nm1 X1 W1 g1 g2 g3 g4 => by
        have e1 : prsS (hr I L) (r + 1) 4 (o0 + c) p n = rcat (prsS (hr I L) r 4 (o0 + (c + 1)) (p + 1) n).2.2 (0, (prsS (hr I L) r 4 (o0 + (c + 1)) (p + 1) n).2.1, [(10, 0)]) := by
          rw [e0, show o0 + c + 1 = o0 + (c + 1) by omega]
          exact rsq_y hz
        rw [e1] at hO
        have fin := hO rfl nm1 X1 W1 g1 (fun j hj => (g2 j hj).trans (W14 j (by omega))) g3 (by rw [nts_app] at g4; exact g4)
        have el : n + (rcat (prsS (hr I L) r 4 (o0 + (c + 1)) (p + 1) n).2.2 (0, (prsS (hr I L) r 4 (o0 + (c + 1)) (p + 1) n).2.1, [(10, 0)])).2.2.length + c = n + (prsS (hr I L) r 4 (o0 + (c + 1)) (p + 1) n).2.2.length + (c + 1) := by
          show n + (_ ++ [_]).length + c = _
          rw [List.length_append]
          show _ + (_ + 1) + c = _
          omega
        rw [el] at fin
        exact fin)
      refine s157_22.mpr ?_
      simp only [s157_23, s157_24, s157_25, s157_26, s157_27, s157_28, s157_29, s157_30, s157_31, s157_32, s157_33, s157_34, s157_35, s157_36, s157_37, s157_38, s157_39, Option.toList_some, Option.toList_none, List.cons_append, List.nil_append, Nat.le_refl, true_and, and_true, true_or, or_true, false_or, or_false, true_implies, false_implies, implies_true, not_true_eq_false, not_false_eq_true, eq_self, Nat.reduceLT, Nat.reduceLeDiff, Nat.reduceEqDiff, Nat.reduceAdd, Nat.reduceSub, Int.reduceLT, Int.reduceLE, Int.reduceEq, Int.reduceNeg, Int.reduceNe, Int.reduceAdd, Int.reduceSub, Int.reduceMul, Int.reduceToNat, Int.toNat_zero, Int.toNat_one, Int.toNat_natCast, am_cats, am_cat, am_st1, am_st2, am_clr, up2_na, up2_nj, up2_same, List.getElem?_cons_zero, List.getElem?_cons_succ, List.set_cons_zero, List.set_cons_succ, ne_eq, tk_152 hh, kh, h33, m148y hh (by decide : (0 : Int) ≤ 10 ∧ (10 : Int) ≤ 14) p2 (show w0 + c ≤ 160 by omega) ho6]
      exact nx
  rw [if_neg h33] at e0
  by_cases h40 : hr I L p = 40
  · have hpL : p < L := hr_w (I := I) (by rw [h40]; decide)
    rw [if_pos h40] at e0
    by_cases ho6 : 6 ≤ o0 + c
    · rw [if_pos ho6] at e0
      rw [e0] at hB
      have fin := hB _ rfl (rbad_n (by decide)) p ((o0 + c : Nat) : Int) n ((w0 + c : Nat) : Int) nm X W
      have o6 : o0 + c = 6 := by omega
      refine s157_22.mpr ?_
      simp only [s157_23, s157_24, s157_25, s157_26, s157_27, s157_28, s157_29, s157_30, s157_31, s157_32, s157_33, s157_34, s157_35, s157_36, s157_37, s157_38, s157_39, s157_40, s157_41, Option.toList_some, Option.toList_none, List.cons_append, List.nil_append, Nat.le_refl, true_and, and_true, true_or, or_true, false_or, or_false, true_implies, false_implies, implies_true, not_true_eq_false, not_false_eq_true, eq_self, Nat.reduceLT, Nat.reduceLeDiff, Nat.reduceEqDiff, Nat.reduceAdd, Nat.reduceSub, Int.reduceLT, Int.reduceLE, Int.reduceEq, Int.reduceNeg, Int.reduceNe, Int.reduceAdd, Int.reduceSub, Int.reduceMul, Int.reduceToNat, Int.toNat_zero, Int.toNat_one, Int.toNat_natCast, am_cats, am_cat, am_st1, am_st2, am_clr, up2_na, up2_nj, up2_same, List.getElem?_cons_zero, List.getElem?_cons_succ, List.set_cons_zero, List.set_cons_succ, ne_eq, tk_152 hh, kh, h40, m148n hh p2 o6]
      exact fin
    · rw [if_neg ho6] at e0
      have W14 : ∀ j, j < w0 + c → sx W (w0 + c) (1048576 * 13) j = W j := fun j hj => sx_n (by omega)
      have c13 : cOp (sx W (w0 + c) (1048576 * 13) (w0 + c)) = 13 := by rw [sx_s]; decide
      have nx := h6 (o0 + c + 1) (p + 1) n (w0 + c + 1) X (sx W (w0 + c) (1048576 * 13)) nm (by omega) (by omega) (by omega) (by omega) (by omega) (by omega) (XB_sx hW (by unfold rg; decide)) (by show 11 ≤ cOp (sx W (w0 + c) (1048576 * 13) (w0 + c)); rw [c13]; decide) (by show cOp (sx W (w0 + c) (1048576 * 13) (w0 + c)) ≠ 11; rw [c13]; decide) (Or.inr (by show cOp (sx W (w0 + c) (1048576 * 13) (w0 + c)) ≠ 12; rw [c13]; decide)) (fun f hf hz => by
        have hne : ¬ (prsS (hr I L) r 6 (o0 + c + 1) (p + 1) n).1 = 0 := by rw [hf]; exact hz
        exact hB f (by rw [e0]; unfold rend; rw [if_neg hne]; exact hf) hz) (fun hz nm1 n1 w1 X1 W1 qo qa g0 g1 g2 g3 g4 g5 => by
        obtain ⟨en1, en2⟩ := end_6 r (o0 + c + 1) (p + 1) n hz
        obtain ⟨ad1, ad2, ad3⟩ := rd_adv (sg := hr I L) (L := L) hr_hs r 6 (o0 + c + 1) (p + 1) n (by omega) hz
        generalize prsS (hr I L) r 6 (o0 + c + 1) (p + 1) n = P at *
        obtain ⟨P1, p1, l⟩ := P
        have hz : P1 = 0 := hz
        subst hz
        have ad1 : p1 ≤ L := ad1
        have ad2 : p + 1 + l.length ≤ p1 := ad2
        have en1 : hr I L p1 ≠ 38 := en1
        have en2 : hr I L p1 ≠ 124 := en2
        have g1 : w1 ≤ p1 := g1
        have kh1 := k_here (J := J) (s := s) (mdl_hp hh) hL hL2 ad1
        have g5' := g5
        obtain ⟨s1, s2, s3, s4, s5⟩ := g5'
        have s2 : n1 = n + l.length := s2
        have W1c : cOp (W1 (w0 + c)) = 13 := by rw [g2 (w0 + c) (by omega)]; exact c13
        show wp codeT mX (e + 6) 157 47 _ _ _ _
        refine s157_47.mpr ?_
        by_cases h41 : hr I L p1 = 41
        · have q1 : p1 < L := hr_w (I := I) (by rw [h41]; decide)
          have e1 : prsS (hr I L) (r + 1) 4 (o0 + c) p n = (0, p1 + 1, l) := by
            rw [e0]
            show (if (0 : Int) = 0 then (if hr I L p1 = 41 then ((0, p1 + 1, l) : RR) else rbad 1 p1) else _) = _
            rw [if_pos rfl, if_pos h41]
          rw [e1] at hO
          simp only [s157_48, s157_49, s157_50, s157_51, s157_52, s157_53, Option.toList_some, Option.toList_none, List.cons_append, List.nil_append, Nat.le_refl, true_and, and_true, true_or, or_true, false_or, or_false, true_implies, false_implies, implies_true, not_true_eq_false, not_false_eq_true, eq_self, Nat.reduceLT, Nat.reduceLeDiff, Nat.reduceEqDiff, Nat.reduceAdd, Nat.reduceSub, Int.reduceLT, Int.reduceLE, Int.reduceEq, Int.reduceNeg, Int.reduceNe, Int.reduceAdd, Int.reduceSub, Int.reduceMul, Int.reduceToNat, Int.toNat_zero, Int.toNat_one, Int.toNat_natCast, am_cats, am_cat, am_st1, am_st2, am_clr, up2_na, up2_nj, up2_same, List.getElem?_cons_zero, List.getElem?_cons_succ, List.set_cons_zero, List.set_cons_succ, ne_eq, tk_152 hh, kh1, h41]
          refine m160 (w := w0 + c + 1) hh g3 (Or.inr rfl) g4 g5 (fun z => absurd z (by decide)) (by omega) (by omega) (by omega) (by show cOp (W1 (w0 + c)) ≠ 11; rw [W1c]; decide) (Or.inr (by show cOp (W1 (w0 + c)) ≠ 12; rw [W1c]; decide)) ⟨⟨Nat.le_refl _, Nat.le_refl _⟩, ?_⟩
          have hw0 : ¬ ((w0 + c : Nat) : Int) = 0 := by omega
          simp only [s157_54, s157_55, s157_56, s157_57, s157_58, s157_59, s157_60, s157_61, s157_62, s157_63, s157_64, s157_65, s157_66, s157_67, s157_68, s157_69, s157_70, s157_71, s157_72, s157_73, s157_74, s157_75, s157_76, s157_77, s157_78, Option.toList_some, Option.toList_none, List.cons_append, List.nil_append, Nat.le_refl, true_and, and_true, true_or, or_true, false_or, or_false, true_implies, false_implies, implies_true, not_true_eq_false, not_false_eq_true, eq_self, Nat.reduceLT, Nat.reduceLeDiff, Nat.reduceEqDiff, Nat.reduceAdd, Nat.reduceSub, Int.reduceLT, Int.reduceLE, Int.reduceEq, Int.reduceNeg, Int.reduceNe, Int.reduceAdd, Int.reduceSub, Int.reduceMul, Int.reduceToNat, Int.toNat_zero, Int.toNat_one, Int.toNat_natCast, am_cats, am_cat, am_st1, am_st2, am_clr, up2_na, up2_nj, up2_same, List.getElem?_cons_zero, List.getElem?_cons_succ, List.set_cons_zero, List.set_cons_succ, ne_eq, tk_152 hh, pI_18, pI_21, pI_23, pu_18, pu_21, pu_23, w32_d (show w0 + c ≤ 1080 by omega), w32_d (show o0 + c ≤ 1080 by omega), w32_s (show p1 ≤ 1080 by omega), hw0]
          rw [e159]
          refine m159_loop (d := e + 4) hh g3 (by omega) c n1 _ ⟨fun j z1 z2 => by rw [g2 j (by omega), W14 j (by omega)]; exact hnt.1 j z1 z2, w01, by rw [g2 (w0 - 1) (by omega), W14 (w0 - 1) (by omega)]; exact hnt.2.2⟩ (by omega) (by omega) (by omega) (fun X3 y1 y2 => ⟨⟨Nat.le_refl _, Nat.le_refl _⟩, ?_⟩)
          have ldn : ∀ j, j < n → ldJ 12 (ldJ 11 X1 qa n1) qo n1 j = X1 j := by
            intro j hj
            have a1 : ldJ 11 X1 qa n1 j = X1 j := by
              cases qa with
              | none => rfl
              | some q => exact sx_n (by have := (s4 q rfl).1; omega)
            cases qo with
            | none => exact a1
            | some q => exact (sx_n (by have := (s3 q rfl).1; omega)).trans a1
          have s5 : RB (ldJ 12 (ldJ 11 X1 qa n1) qo n1) n l := s5
          have rb : RB X3 n (l ++ nts c) := RB_app (RB_cg s5 (fun j hj => y1 j (by omega))) (by rw [← s2]; exact y2)
          have fin := hO rfl nm1 X3 W1 (fun j hj => by rw [y1 j (by omega), ldn j hj]; exact s1 j hj) (fun j hj => by rw [g2 j (by omega)]; exact W14 j (by omega)) g3 rb
          have fin : jH s T I J R fa sm F H G e Q (p1 + 1) o0 (n + l.length + c) w0 nm1 X3 W1 := fin
          rw [← s2] at fin
          simp only [s157_79, Option.toList_some, Option.toList_none, List.cons_append, List.nil_append, Nat.le_refl, true_and, and_true, true_or, or_true, false_or, or_false, true_implies, false_implies, implies_true, not_true_eq_false, not_false_eq_true, eq_self, Nat.reduceLT, Nat.reduceLeDiff, Nat.reduceEqDiff, Nat.reduceAdd, Nat.reduceSub, Int.reduceLT, Int.reduceLE, Int.reduceEq, Int.reduceNeg, Int.reduceNe, Int.reduceAdd, Int.reduceSub, Int.reduceMul, Int.reduceToNat, Int.toNat_zero, Int.toNat_one, Int.toNat_natCast, am_cats, am_cat, am_st1, am_st2, am_clr, up2_na, up2_nj, up2_same, List.getElem?_cons_zero, List.getElem?_cons_succ, List.set_cons_zero, List.set_cons_succ, ne_eq]
          exact fin
        · have e1 : prsS (hr I L) (r + 1) 4 (o0 + c) p n = rbad 1 p1 := by
            rw [e0]
            show (if (0 : Int) = 0 then (if hr I L p1 = 41 then ((0, p1 + 1, l) : RR) else rbad 1 p1) else _) = _
            rw [if_pos rfl, if_neg h41]
          rw [e1] at hB
          have fin := hB _ rfl (rbad_n (by decide)) p1 ((o0 + c + 1 : Nat) : Int) n1 w1 nm1 X1 W1
          simp only [s157_48, s157_49, s157_50, s157_80, s157_81, s157_82, s157_83, s157_84, s157_85, s157_86, s157_87, s157_88, s157_89, s157_90, s157_91, s157_92, s157_93, Option.toList_some, Option.toList_none, List.cons_append, List.nil_append, Nat.le_refl, true_and, and_true, true_or, or_true, false_or, or_false, true_implies, false_implies, implies_true, not_true_eq_false, not_false_eq_true, eq_self, Nat.reduceLT, Nat.reduceLeDiff, Nat.reduceEqDiff, Nat.reduceAdd, Nat.reduceSub, Int.reduceLT, Int.reduceLE, Int.reduceEq, Int.reduceNeg, Int.reduceNe, Int.reduceAdd, Int.reduceSub, Int.reduceMul, Int.reduceToNat, Int.toNat_zero, Int.toNat_one, Int.toNat_natCast, am_cats, am_cat, am_st1, am_st2, am_clr, up2_na, up2_nj, up2_same, List.getElem?_cons_zero, List.getElem?_cons_succ, List.set_cons_zero, List.set_cons_succ, ne_eq, tk_152 hh, kh1, h41, en1, en2, pI_18, m145 hh (by decide : (1 : Int) ≤ 1 ∧ (1 : Int) ≤ 9) (show p1 ≤ 160 by omega)]
          exact fin)
      refine s157_22.mpr ?_
      simp only [s157_23, s157_24, s157_25, s157_26, s157_27, s157_28, s157_29, s157_30, s157_31, s157_32, s157_33, s157_34, s157_35, s157_36, s157_37, s157_38, s157_39, Option.toList_some, Option.toList_none, List.cons_append, List.nil_append, Nat.le_refl, true_and, and_true, true_or, or_true, false_or, or_false, true_implies, false_implies, implies_true, not_true_eq_false, not_false_eq_true, eq_self, Nat.reduceLT, Nat.reduceLeDiff, Nat.reduceEqDiff, Nat.reduceAdd, Nat.reduceSub, Int.reduceLT, Int.reduceLE, Int.reduceEq, Int.reduceNeg, Int.reduceNe, Int.reduceAdd, Int.reduceSub, Int.reduceMul, Int.reduceToNat, Int.toNat_zero, Int.toNat_one, Int.toNat_natCast, am_cats, am_cat, am_st1, am_st2, am_clr, up2_na, up2_nj, up2_same, List.getElem?_cons_zero, List.getElem?_cons_succ, List.set_cons_zero, List.set_cons_succ, ne_eq, tk_152 hh, kh, h40, m148y hh (by decide : (0 : Int) ≤ 13 ∧ (13 : Int) ≤ 14) p2 (show w0 + c ≤ 160 by omega) ho6]
      exact nx
  rw [if_neg h40] at e0
  rw [e0] at hB hO
  refine s157_22.mpr ?_
  simp only [s157_23, s157_24, s157_25, s157_26, s157_27, s157_28, s157_29, s157_42, s157_43, Option.toList_some, Option.toList_none, List.cons_append, List.nil_append, Nat.le_refl, true_and, and_true, true_or, or_true, false_or, or_false, true_implies, false_implies, implies_true, not_true_eq_false, not_false_eq_true, eq_self, Nat.reduceLT, Nat.reduceLeDiff, Nat.reduceEqDiff, Nat.reduceAdd, Nat.reduceSub, Int.reduceLT, Int.reduceLE, Int.reduceEq, Int.reduceNeg, Int.reduceNe, Int.reduceAdd, Int.reduceSub, Int.reduceMul, Int.reduceToNat, Int.toNat_zero, Int.toNat_one, Int.toNat_natCast, am_cats, am_cat, am_st1, am_st2, am_clr, up2_na, up2_nj, up2_same, List.getElem?_cons_zero, List.getElem?_cons_succ, List.set_cons_zero, List.set_cons_succ, ne_eq, tk_152 hh, kh, h33, h40]
  refine m158 (e := e) (r := r) hy ho (by omega) hp hn hw hW hnt hts (fun f hf hz => ?_) (fun hz nm1 X1 W1 g1 g2 g3 g4 => ⟨⟨Nat.le_refl _, Nat.le_refl _⟩, ?_⟩)
  · intro p3 o3 n3 w3 nm3 X3 W3
    have fin := hB f hf hz p3 o3 n3 w3 nm3 X3 W3
    refine ⟨⟨Nat.le_refl _, Nat.le_refl _⟩, ?_⟩
    simp only [s157_44, s157_45, s157_46, Option.toList_some, Option.toList_none, List.cons_append, List.nil_append, Nat.le_refl, true_and, and_true, true_or, or_true, false_or, or_false, true_implies, false_implies, implies_true, not_true_eq_false, not_false_eq_true, eq_self, Nat.reduceLT, Nat.reduceLeDiff, Nat.reduceEqDiff, Nat.reduceAdd, Nat.reduceSub, Int.reduceLT, Int.reduceLE, Int.reduceEq, Int.reduceNeg, Int.reduceNe, Int.reduceAdd, Int.reduceSub, Int.reduceMul, Int.reduceToNat, Int.toNat_zero, Int.toNat_one, Int.toNat_natCast, am_cats, am_cat, am_st1, am_st2, am_clr, up2_na, up2_nj, up2_same, List.getElem?_cons_zero, List.getElem?_cons_succ, List.set_cons_zero, List.set_cons_succ, ne_eq]
    exact fin
  · have fin := hO hz nm1 X1 W1 g1 g2 g3 g4
    simp only [s157_44, Option.toList_some, Option.toList_none, List.cons_append, List.nil_append, Nat.le_refl, true_and, and_true, true_or, or_true, false_or, or_false, true_implies, false_implies, implies_true, not_true_eq_false, not_false_eq_true, eq_self, Nat.reduceLT, Nat.reduceLeDiff, Nat.reduceEqDiff, Nat.reduceAdd, Nat.reduceSub, Int.reduceLT, Int.reduceLE, Int.reduceEq, Int.reduceNeg, Int.reduceNe, Int.reduceAdd, Int.reduceSub, Int.reduceMul, Int.reduceToNat, Int.toNat_zero, Int.toNat_one, Int.toNat_natCast, am_cats, am_cat, am_st1, am_st2, am_clr, up2_na, up2_nj, up2_same, List.getElem?_cons_zero, List.getElem?_cons_succ, List.set_cons_zero, List.set_cons_succ, ne_eq]
    exact fin
theorem JS_0 {n n1 : Nat} {X X1 : Nat → Int} {l : List (Int × Int)} (h1 : ∀ j, j < n → X1 j = X j) (h2 : n1 = n + l.length) (h3 : RB X1 n l) : JS n X l n1 X1 none none := ⟨h1, h2, fun q z => (by cases z), fun q z => (by cases z), h3⟩
theorem JS_cat {n0 n n1 : Nat} {X0 X X1 : Nat → Int} {l0 l : List (Int × Int)} {qo qa : Option Nat} (h : JS n X l n1 X1 qo qa) (h0 : ∀ j, j < n0 → X j = X0 j) (hn : n = n0 + l0.length) (hr0 : RB X n0 l0) : JS n0 X0 (l0 ++ l) n1 X1 qo qa := by
  obtain ⟨a1, a2, a3, a4, a5⟩ := h
  refine ⟨fun j hj => (a1 j (by omega)).trans (h0 j hj), by rw [List.length_append]; omega, fun q z => ⟨by have := a3 q z; omega, (a3 q z).2⟩, fun q z => ⟨by have := a4 q z; omega, (a4 q z).2⟩, RB_app (RB_cg hr0 (fun j hj => ?_)) (by rw [← hn]; exact a5)⟩
  have b1 : ldJ 11 X1 qa n1 j = X1 j := by
    cases qa with
    | none => rfl
    | some q => exact sx_n (by have := (a4 q rfl).1; omega)
  have b2 : ldJ 12 (ldJ 11 X1 qa n1) qo n1 j = ldJ 11 X1 qa n1 j := by
    cases qo with
    | none => rfl
    | some q => exact sx_n (by have := (a3 q rfl).1; omega)
  rw [b2, b1]
  exact a1 j (by omega)
theorem jt5 (hy : yHyp T R I L) (h4 : jP s L T I J R fa sm F H G e Q r) (h9 : jL s L T I J R fa sm F H G e Q r 9) : jT s L T I J R fa sm F H G e Q (r + 1) 5 := by
  intro o p n w X W nm ho hr0 hp hn hw hw1 hW t1 t2 t3 hB hO
  refine h4 o 0 p n w X W nm ho (by omega) hp hn hw hW ⟨fun j z1 z2 => absurd z2 (by omega), hw1, by omega⟩ (by omega) (fun f hf hz => ?_) (fun hz nm1 X1 W1 g1 g2 g3 g4 => ?_)
  · have hne : ¬ (prsS (hr I L) r 4 o p n).1 = 0 := by rw [show (prsS (hr I L) r 4 o p n).1 = f from hf]; exact hz
    have e1 : prsS (hr I L) (r + 1) 5 o p n = prsS (hr I L) r 4 o p n := rsq_n (k := fun p' m => prsS (hr I L) r 9 o p' (n + m)) hne
    exact hB f (by rw [e1]; exact hf) hz
  · have hz : (prsS (hr I L) r 4 o p n).1 = 0 := hz
    obtain ⟨ad1, ad2, ad3⟩ := rd_adv (sg := hr I L) (L := L) hr_hs r 4 o p n hp hz
    have ad3 := ad3 (by decide)
    have e1 : prsS (hr I L) (r + 1) 5 o p n = rcat (prsS (hr I L) r 4 o p n).2.2 (prsS (hr I L) r 9 o (prsS (hr I L) r 4 o p n).2.1 (n + (prsS (hr I L) r 4 o p n).2.2.length)) := rsq_y (k := fun p' m => prsS (hr I L) r 9 o p' (n + m)) hz
    rw [e1] at hB hO
    have g4 : RB X1 n (prsS (hr I L) r 4 o p n).2.2 := by
      have g4 : RB X1 n ((prsS (hr I L) r 4 o p n).2.2 ++ nts 0) := g4
      rw [nts, List.append_nil] at g4
      exact g4
    have wl : ∀ j, j < w → W1 j = W j := g2
    have ew : W1 (w - 1) = W (w - 1) := wl _ (by omega)
    refine h9 o (prsS (hr I L) r 4 o p n).2.1 n (n + (prsS (hr I L) r 4 o p n).2.2.length) w w (prsS (hr I L) r 4 o p n).2.2 X W X1 W1 nm1 none none ho (by omega) ad1 (by omega) (by omega) hw1 g3 (by rw [ew]; exact t1) (by rw [ew]; exact t2) (Or.inl rfl) (fun _ => rfl) wl rfl (JS_0 g1 rfl g4) hB (fun hz2 nm2 n2 w2 X2 W2 qo qa k0 k1 k2 k3 k4 k5 => ?_)
    exact hO hz2 nm2 n2 w2 X2 W2 qo qa (fun _ => k0 rfl) k1 k2 k3 k4 k5
theorem jt6 (hy : yHyp T R I L) (h5 : jT s L T I J R fa sm F H G e Q r 5) (h10 : jL s L T I J R fa sm F H G e Q r 10) : jT s L T I J R fa sm F H G e Q (r + 1) 6 := by
  intro o p n w X W nm ho hr0 hp hn hw hw1 hW t1 t2 t3 hB hO
  have t3 : cOp (W (w - 1)) ≠ 12 := t3.resolve_left (by decide)
  refine h5 o p n w X W nm ho (by omega) hp hn hw hw1 hW t1 t2 (Or.inl rfl) (fun f hf hz => ?_) (fun hz nm1 n1 w1 X1 W1 qo qa g0 g1 g2 g3 g4 g5 => ?_)
  · have hne : ¬ (prsS (hr I L) r 5 o p n).1 = 0 := by rw [hf]; exact hz
    have e1 : prsS (hr I L) (r + 1) 6 o p n = prsS (hr I L) r 5 o p n := rsq_n (k := fun p' m => prsS (hr I L) r 10 o p' (n + m)) hne
    exact hB f (by rw [e1]; exact hf) hz
  · obtain ⟨ad1, ad2, ad3⟩ := rd_adv (sg := hr I L) (L := L) hr_hs r 5 o p n hp hz
    have ad3 := ad3 (by decide)
    have e1 : prsS (hr I L) (r + 1) 6 o p n = rcat (prsS (hr I L) r 5 o p n).2.2 (prsS (hr I L) r 10 o (prsS (hr I L) r 5 o p n).2.1 (n + (prsS (hr I L) r 5 o p n).2.2.length)) := rsq_y (k := fun p' m => prsS (hr I L) r 10 o p' (n + m)) hz
    rw [e1] at hB hO
    have en : n + (prsS (hr I L) r 5 o p n).2.2.length = n1 := g5.2.1.symm
    rw [en] at hB hO
    have ew : W1 (w - 1) = W (w - 1) := g2 _ (by omega)
    refine h10 o (prsS (hr I L) r 5 o p n).2.1 n n1 w w1 (prsS (hr I L) r 5 o p n).2.2 X W X1 W1 nm1 qo qa ho (by omega) ad1 (by omega) g1 hw1 g3 (by rw [ew]; exact t1) (by rw [ew]; exact t2) (Or.inr (by rw [ew]; exact t3)) (fun z => absurd z (by decide)) g2 g4 g5 hB (fun hz2 nm2 n2 w2 X2 W2 qo2 qa2 k0 k1 k2 k3 k4 k5 => ?_)
    exact hO hz2 nm2 n2 w2 X2 W2 qo2 qa2 (fun z => absurd z (by decide)) k1 k2 k3 k4 k5
theorem jl9 (hy : yHyp T R I L) (h4 : jP s L T I J R fa sm F H G e Q r) (h9 : jL s L T I J R fa sm F H G e Q r 9) : jL s L T I J R fa sm F H G e Q (r + 1) 9 := by
  intro o p n0 n w w1 l0 X0 W0 X W nm qo qa ho hr0 hp hn hw1 hw0 hW t1 t2 t3 hq hWW hj hs hB hO
  obtain ⟨hh, hL, hL2, -⟩ := id hy
  have kh := k_here (J := J) (s := s) (mdl_hp hh) hL hL2 hp
  have hq := hq rfl
  subst hq
  by_cases hm : hr I L p = 38
  · have hpL : p < L := hr_w (I := I) (by rw [hm]; decide)
    have e0 : prsS (hr I L) (r + 1) 9 o p n = rlop 11 n (prsS (hr I L) r 4 o (p + 1) (n + 1)) (fun p' m => prsS (hr I L) r 9 o p' m) := if_pos hm
    obtain ⟨s1, s2, s3, s4, s5⟩ := id hs
    have s5 : RB (ldJ 11 X qa n) n0 l0 := s5
    have wl := jnd_le hj
    have ldn : ∀ j, j < n0 → ldJ 11 X qa n j = X j := by
      intro j hj2
      cases qa with
      | none => rfl
      | some q => exact sx_n (by have := (s4 q rfl).1; omega)
    unfold jH
    refine s157_47.mpr ?_
    simp only [s157_48, s157_49, s157_50, s157_80, s157_81, s157_82, s157_83, s157_94, s157_95, s157_96, s157_97, s157_98, s157_101, s157_102, Option.toList_some, Option.toList_none, List.cons_append, List.nil_append, Nat.le_refl, true_and, and_true, true_or, or_true, false_or, or_false, true_implies, false_implies, implies_true, not_true_eq_false, not_false_eq_true, eq_self, Nat.reduceLT, Nat.reduceLeDiff, Nat.reduceEqDiff, Nat.reduceAdd, Nat.reduceSub, Int.reduceLT, Int.reduceLE, Int.reduceEq, Int.reduceNeg, Int.reduceNe, Int.reduceAdd, Int.reduceSub, Int.reduceMul, Int.reduceToNat, Int.toNat_zero, Int.toNat_one, Int.toNat_natCast, am_cats, am_cat, am_st1, am_st2, am_clr, up2_na, up2_nj, up2_same, List.getElem?_cons_zero, List.getElem?_cons_succ, List.set_cons_zero, List.set_cons_succ, ne_eq, tk_152 hh, kh, hm]
    refine m160 (w := w) hh hW (Or.inl rfl) hj hs (fun _ => rfl) (by omega) hw0 (by omega) t2 (Or.inl rfl) ⟨⟨Nat.le_refl _, Nat.le_refl _⟩, ?_⟩
    have c11 : cOp (sx W w (1048576 * 11 + (n : Int)) w) = 11 := by rw [sx_s]; exact (cOp_c (by decide) (by omega) (by omega)).1
    have nx := h4 o 0 (p + 1) (n + 1) (w + 1) (sx (ldJ 11 X qa n) n (1048576 * 11 + 0)) (sx W w (1048576 * 11 + (n : Int))) nm ho (by omega) (by omega) (by omega) (by omega) (XB_sx hW ⟨by omega, by omega⟩) ⟨fun j z1 z2 => absurd z2 (by omega), by omega, by show cOp (sx W w (1048576 * 11 + (n : Int)) w) ≠ 10; rw [c11]; decide⟩ (by show 10 ≤ cOp (sx W w (1048576 * 11 + (n : Int)) w); rw [c11]; decide) (fun f hf hz => by
      have hne : ¬ (prsS (hr I L) r 4 o (p + 1) (n + 1)).1 = 0 := by rw [show (prsS (hr I L) r 4 o (p + 1) (n + 1)).1 = f from hf]; exact hz
      exact hB f (by rw [e0]; unfold rlop; rw [if_neg hne]; exact hf) hz) (fun hz nm1 X1 W1 g1 g2 g3 g4 => by
      have hz : (prsS (hr I L) r 4 o (p + 1) (n + 1)).1 = 0 := hz
      obtain ⟨ad1, ad2, ad3⟩ := rd_adv (sg := hr I L) (L := L) hr_hs r 4 o (p + 1) (n + 1) (by omega) hz
      have ad3 := ad3 (by decide)
      have e1 : prsS (hr I L) (r + 1) 9 o p n = rcat ((11, ((n + 1 + (prsS (hr I L) r 4 o (p + 1) (n + 1)).2.2.length : Nat) : Int)) :: (prsS (hr I L) r 4 o (p + 1) (n + 1)).2.2) (prsS (hr I L) r 9 o (prsS (hr I L) r 4 o (p + 1) (n + 1)).2.1 (n + 1 + (prsS (hr I L) r 4 o (p + 1) (n + 1)).2.2.length)) := by
        rw [e0]
        unfold rlop
        rw [if_pos hz]
      rw [e1] at hB hO
      have g4 : RB X1 (n + 1) (prsS (hr I L) r 4 o (p + 1) (n + 1)).2.2 := by
        have g4 : RB X1 (n + 1) ((prsS (hr I L) r 4 o (p + 1) (n + 1)).2.2 ++ nts 0) := g4
        rw [nts, List.append_nil] at g4
        exact g4
      generalize prsS (hr I L) r 4 o (p + 1) (n + 1) = P at *
      obtain ⟨P1, p1, l⟩ := P
      have ad1 : p1 ≤ L := ad1
      have ad2 : p + 1 + l.length ≤ p1 := ad2
      have ad3 : p + 1 < p1 := ad3
      have g4 : RB X1 (n + 1) l := g4
      have Xn : X1 n = 1048576 * 11 := by rw [g1 n (by omega), sx_s, Int.add_zero]
      have Xj : ∀ j, j < n → X1 j = ldJ 11 X qa n j := fun j hj => (g1 j (by omega)).trans (sx_n (by omega))
      have Wj : ∀ j, j < w → W1 j = W j := fun j hj => (g2 j (by omega)).trans (sx_n (by omega))
      have Ww : W1 w = 1048576 * 11 + (n : Int) := (g2 w (by omega)).trans sx_s
      have ew : W1 (w - 1) = W (w - 1) := Wj _ (by omega)
      have js : JS n0 X0 (l0 ++ (11, ((n + 1 + l.length : Nat) : Int)) :: l) (n + 1 + l.length) X1 none (some n) := by
        refine ⟨fun j hj => by rw [Xj j (by omega), ldn j hj]; exact s1 j hj, by rw [List.length_append, List.length_cons]; omega, fun q z => (by cases z), fun q z => ?_, RB_app (RB_cg s5 (fun j hj => ?_)) ?_⟩
        · cases z
          exact ⟨by omega, by omega, Xn⟩
        · show sx X1 n _ j = _
          rw [sx_n (by omega)]
          exact Xj j (by omega)
        · rw [← s2]
          refine RB_app (l1 := [(11, ((n + 1 + l.length : Nat) : Int))]) RB_one (fun j hj => ?_)
          show sx X1 n _ (n + 1 + j) = _
          rw [sx_n (by omega)]
          exact g4 j hj
      refine h9 o p1 n0 (n + 1 + l.length) w (w + 1) (l0 ++ (11, ((n + 1 + l.length : Nat) : Int)) :: l) X0 W0 X1 W1 nm1 none (some n) ho (by omega) ad1 (by omega) (by omega) hw0 g3 (by rw [ew]; exact t1) (by rw [ew]; exact t2) (Or.inl rfl) (fun _ => rfl) (fun j hj => (Wj j hj).trans (hWW j hj)) ⟨rfl, Ww⟩ js hB (fun hz2 nm2 n2 w2 X2 W2 qo2 qa2 k0 k1 k2 k3 k4 k5 => ?_)
      rw [List.append_assoc] at k5
      exact hO hz2 nm2 n2 w2 X2 W2 qo2 qa2 k0 k1 k2 k3 k4 k5)
    simp only [s157_103, s157_104, s157_105, s157_106, s157_107, s157_108, s157_109, s157_111, s157_112, Option.toList_some, Option.toList_none, List.cons_append, List.nil_append, Nat.le_refl, true_and, and_true, true_or, or_true, false_or, or_false, true_implies, false_implies, implies_true, not_true_eq_false, not_false_eq_true, eq_self, Nat.reduceLT, Nat.reduceLeDiff, Nat.reduceEqDiff, Nat.reduceAdd, Nat.reduceSub, Int.reduceLT, Int.reduceLE, Int.reduceEq, Int.reduceNeg, Int.reduceNe, Int.reduceAdd, Int.reduceSub, Int.reduceMul, Int.reduceToNat, Int.toNat_zero, Int.toNat_one, Int.toNat_natCast, am_cats, am_cat, am_st1, am_st2, am_clr, up2_na, up2_nj, up2_same, List.getElem?_cons_zero, List.getElem?_cons_succ, List.set_cons_zero, List.set_cons_succ, ne_eq, tk_152 hh, kh, hm, ldJ, m161 hh (by decide : (0 : Int) ≤ 11 ∧ (11 : Int) ≤ 14) (show p ≤ 160 by omega) (show w ≤ 160 by omega) (show n < 180 by omega)]
    exact nx
  · have e1 : prsS (hr I L) (r + 1) 9 o p n = (0, p, []) := if_neg hm
    rw [e1] at hO
    exact hO rfl nm n w1 X W none qa (fun _ => rfl) hw1 hWW hW hj (by rw [List.append_nil]; exact hs)
theorem jl10 (hy : yHyp T R I L) (h5 : jT s L T I J R fa sm F H G e Q r 5) (h10 : jL s L T I J R fa sm F H G e Q r 10) : jL s L T I J R fa sm F H G e Q (r + 1) 10 := by
  intro o p n0 n w w1 l0 X0 W0 X W nm qo qa ho hr0 hp hn hw1 hw0 hW t1 t2 t3 hq hWW hj hs hB hO
  obtain ⟨hh, hL, hL2, -⟩ := id hy
  have kh := k_here (J := J) (s := s) (mdl_hp hh) hL hL2 hp
  have t3 : cOp (W (w - 1)) ≠ 12 := t3.resolve_left (by decide)
  by_cases hm : hr I L p = 124
  · have hpL : p < L := hr_w (I := I) (by rw [hm]; decide)
    have e0 : prsS (hr I L) (r + 1) 10 o p n = rlop 12 n (prsS (hr I L) r 5 o (p + 1) (n + 1)) (fun p' m => prsS (hr I L) r 10 o p' m) := if_pos hm
    obtain ⟨s1, s2, s3, s4, s5⟩ := id hs
    have wl := jnd_le hj
    have ldn : ∀ j, j < n0 → ldJ 12 (ldJ 11 X qa n) qo n j = X j := by
      intro j hj2
      have b1 : ldJ 11 X qa n j = X j := by
        cases qa with
        | none => rfl
        | some q => exact sx_n (by have := (s4 q rfl).1; omega)
      cases qo with
      | none => exact b1
      | some q => exact (sx_n (by have := (s3 q rfl).1; omega)).trans b1
    unfold jH
    refine s157_47.mpr ?_
    simp only [s157_48, s157_49, s157_50, s157_80, s157_81, s157_82, s157_83, s157_84, s157_85, s157_86, s157_87, s157_94, s157_95, s157_96, s157_97, s157_98, s157_99, s157_100, s157_102, Option.toList_some, Option.toList_none, List.cons_append, List.nil_append, Nat.le_refl, true_and, and_true, true_or, or_true, false_or, or_false, true_implies, false_implies, implies_true, not_true_eq_false, not_false_eq_true, eq_self, Nat.reduceLT, Nat.reduceLeDiff, Nat.reduceEqDiff, Nat.reduceAdd, Nat.reduceSub, Int.reduceLT, Int.reduceLE, Int.reduceEq, Int.reduceNeg, Int.reduceNe, Int.reduceAdd, Int.reduceSub, Int.reduceMul, Int.reduceToNat, Int.toNat_zero, Int.toNat_one, Int.toNat_natCast, am_cats, am_cat, am_st1, am_st2, am_clr, up2_na, up2_nj, up2_same, List.getElem?_cons_zero, List.getElem?_cons_succ, List.set_cons_zero, List.set_cons_succ, ne_eq, tk_152 hh, kh, hm]
    refine m160 (w := w) hh hW (Or.inr rfl) hj hs (fun z => absurd z (by decide)) (by omega) hw0 (by omega) t2 (Or.inr t3) ⟨⟨Nat.le_refl _, Nat.le_refl _⟩, ?_⟩
    generalize hY : ldJ 12 (ldJ 11 X qa n) qo n = Y at *
    have c12 : cOp (sx W w (1048576 * 12 + (n : Int)) w) = 12 := by rw [sx_s]; exact (cOp_c (by decide) (by omega) (by omega)).1
    have nx := h5 o (p + 1) (n + 1) (w + 1) (sx Y n (1048576 * 12 + 0)) (sx W w (1048576 * 12 + (n : Int))) nm ho (by omega) (by omega) (by omega) (by omega) (by omega) (XB_sx hW ⟨by omega, by omega⟩) (by show 11 ≤ cOp (sx W w (1048576 * 12 + (n : Int)) w); rw [c12]; decide) (by show cOp (sx W w (1048576 * 12 + (n : Int)) w) ≠ 11; rw [c12]; decide) (Or.inl rfl) (fun f hf hz => by
      have hne : ¬ (prsS (hr I L) r 5 o (p + 1) (n + 1)).1 = 0 := by rw [hf]; exact hz
      exact hB f (by rw [e0]; unfold rlop; rw [if_neg hne]; exact hf) hz) (fun hz nm1 n1 w2 X1 W1 qo1 qa1 g0 g1 g2 g3 g4 g5 => by
      have g0 := g0 rfl
      subst g0
      obtain ⟨ad1, ad2, ad3⟩ := rd_adv (sg := hr I L) (L := L) hr_hs r 5 o (p + 1) (n + 1) (by omega) hz
      have ad3 := ad3 (by decide)
      have e1 : prsS (hr I L) (r + 1) 10 o p n = rcat ((12, ((n + 1 + (prsS (hr I L) r 5 o (p + 1) (n + 1)).2.2.length : Nat) : Int)) :: (prsS (hr I L) r 5 o (p + 1) (n + 1)).2.2) (prsS (hr I L) r 10 o (prsS (hr I L) r 5 o (p + 1) (n + 1)).2.1 (n + 1 + (prsS (hr I L) r 5 o (p + 1) (n + 1)).2.2.length)) := by
        rw [e0]
        unfold rlop
        rw [if_pos hz]
      rw [e1] at hB hO
      generalize prsS (hr I L) r 5 o (p + 1) (n + 1) = P at *
      obtain ⟨P1, p1, l⟩ := P
      have ad1 : p1 ≤ L := ad1
      have ad2 : p + 1 + l.length ≤ p1 := ad2
      have ad3 : p + 1 < p1 := ad3
      have g1 : w2 ≤ p1 := g1
      obtain ⟨x1, x2, x3, x4, x5⟩ := g5
      have x2 : n1 = n + 1 + l.length := x2
      have x5 : RB (ldJ 11 X1 qa1 n1) (n + 1) l := x5
      subst x2
      have Xn : X1 n = 1048576 * 12 := by rw [x1 n (by omega), sx_s, Int.add_zero]
      have Xj : ∀ j, j < n → X1 j = Y j := fun j hj => (x1 j (by omega)).trans (sx_n (by omega))
      have Wj : ∀ j, j < w → W1 j = W j := fun j hj => (g2 j (by omega)).trans (sx_n (by omega))
      have Ww : W1 w = 1048576 * 12 + (n : Int) := (g2 w (by omega)).trans sx_s
      have ew : W1 (w - 1) = W (w - 1) := Wj _ (by omega)
      have ld1 : ∀ j, j ≤ n → ldJ 11 X1 qa1 (n + 1 + l.length) j = X1 j := by
        intro j hj2
        cases qa1 with
        | none => rfl
        | some q => exact sx_n (by have := (x4 q rfl).1; omega)
      have js : JS n0 X0 (l0 ++ (12, ((n + 1 + l.length : Nat) : Int)) :: l) (n + 1 + l.length) X1 (some n) qa1 := by
        refine ⟨fun j hj => by rw [Xj j (by omega), ldn j hj]; exact s1 j hj, by rw [List.length_append, List.length_cons]; omega, fun q z => ?_, fun q z => ⟨by have := (x4 q z).1; omega, (x4 q z).2⟩, RB_app (RB_cg s5 (fun j hj => ?_)) ?_⟩
        · cases z
          exact ⟨by omega, by omega, Xn⟩
        · show sx (ldJ 11 X1 qa1 (n + 1 + l.length)) n _ j = _
          rw [sx_n (by omega), ld1 j (by omega)]
          exact Xj j (by omega)
        · rw [← s2]
          refine RB_app (l1 := [(12, ((n + 1 + l.length : Nat) : Int))]) RB_one (fun j hj => ?_)
          show sx (ldJ 11 X1 qa1 (n + 1 + l.length)) n _ (n + 1 + j) = _
          rw [sx_n (by omega)]
          exact x5 j hj
      have jn : jnd W1 w w2 (some n) qa1 := by
        cases qa1 with
        | none =>
          have g4 : w2 = w + 1 := g4
          exact ⟨g4, Ww⟩
        | some q =>
          obtain ⟨y1, y2⟩ := g4
          exact ⟨by omega, Ww, y2⟩
      refine h10 o p1 n0 (n + 1 + l.length) w w2 (l0 ++ (12, ((n + 1 + l.length : Nat) : Int)) :: l) X0 W0 X1 W1 nm1 (some n) qa1 ho (by omega) ad1 (by omega) g1 hw0 g3 (by rw [ew]; exact t1) (by rw [ew]; exact t2) (Or.inr (by rw [ew]; exact t3)) (fun z => absurd z (by decide)) (fun j hj => (Wj j hj).trans (hWW j hj)) jn js hB (fun hz2 nm2 n2 w3 X2 W2 qo2 qa2 k0 k1 k2 k3 k4 k5 => ?_)
      rw [List.append_assoc] at k5
      exact hO hz2 nm2 n2 w3 X2 W2 qo2 qa2 k0 k1 k2 k3 k4 k5)
    simp only [s157_103, s157_104, s157_105, s157_106, s157_107, s157_110, s157_111, s157_112, Option.toList_some, Option.toList_none, List.cons_append, List.nil_append, Nat.le_refl, true_and, and_true, true_or, or_true, false_or, or_false, true_implies, false_implies, implies_true, not_true_eq_false, not_false_eq_true, eq_self, Nat.reduceLT, Nat.reduceLeDiff, Nat.reduceEqDiff, Nat.reduceAdd, Nat.reduceSub, Int.reduceLT, Int.reduceLE, Int.reduceEq, Int.reduceNeg, Int.reduceNe, Int.reduceAdd, Int.reduceSub, Int.reduceMul, Int.reduceToNat, Int.toNat_zero, Int.toNat_one, Int.toNat_natCast, am_cats, am_cat, am_st1, am_st2, am_clr, up2_na, up2_nj, up2_same, List.getElem?_cons_zero, List.getElem?_cons_succ, List.set_cons_zero, List.set_cons_succ, ne_eq, tk_152 hh, kh, hm, m161 hh (by decide : (0 : Int) ≤ 12 ∧ (12 : Int) ≤ 14) (show p ≤ 160 by omega) (show w ≤ 160 by omega) (show n < 180 by omega)]
    exact nx
  · have e1 : prsS (hr I L) (r + 1) 10 o p n = (0, p, []) := if_neg hm
    rw [e1] at hO
    exact hO rfl nm n w1 X W qo qa (fun z => absurd z (by decide)) hw1 hWW hW hj (by rw [List.append_nil]; exact hs)
theorem j_all (hy : yHyp T R I L) : ∀ r, jP s L T I J R fa sm F H G e Q r ∧ jT s L T I J R fa sm F H G e Q r 5 ∧ jT s L T I J R fa sm F H G e Q r 6 ∧ jL s L T I J R fa sm F H G e Q r 9 ∧ jL s L T I J R fa sm F H G e Q r 10 := by
  intro r
  induction r with
  | zero =>
    refine ⟨fun o0 c p n w0 X W nm ho hr0 hp => ?_, fun o p n w X W nm ho hr0 hp => ?_, fun o p n w X W nm ho hr0 hp => ?_, fun o p n0 n w w1 l0 X0 W0 X W nm qo qa ho hr0 hp => ?_, fun o p n0 n w w1 l0 X0 W0 X W nm qo qa ho hr0 hp => ?_⟩ <;> omega
  | succ r ih =>
    obtain ⟨h4, h5, h6, h9, h10⟩ := ih
    exact ⟨jp4 hy h4 h6, jt5 hy h4 h9, jt6 hy h5 h10, jl9 hy h4 h9, jl10 hy h5 h10⟩
end
