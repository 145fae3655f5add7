/-! the law's two readers, 4: the class's reader, method by method -/
theorem muS_z {c : Int} (h : muS c = 0) : ¬ c = 42 ∧ ¬ c = 47 ∧ ¬ c = 37 := ⟨fun z => by rw [z] at h; exact absurd h (by decide), fun z => by rw [z] at h; exact absurd h (by decide), fun z => by rw [z] at h; exact absurd h (by decide)⟩
theorem muS_n {c : Int} (h : ¬ muS c = 0) : sgn (muS c) = c ∧ (c = 42 ∨ c = 47 ∨ c = 37) := by
  unfold muS at h ⊢
  by_cases h1 : c = 42
  · subst h1; exact ⟨by decide, Or.inl rfl⟩
  by_cases h2 : c = 47
  · subst h2; exact ⟨by decide, Or.inr (Or.inl rfl)⟩
  by_cases h3 : c = 37
  · subst h3; exact ⟨by decide, Or.inr (Or.inr rfl)⟩
  rw [if_neg h1, if_neg h2, if_neg h3] at h
  exact absurd rfl h
theorem adS_z {c : Int} (h : adS c = 0) : ¬ c = 43 ∧ ¬ c = 45 := ⟨fun z => by rw [z] at h; exact absurd h (by decide), fun z => by rw [z] at h; exact absurd h (by decide)⟩
theorem adS_n {c : Int} (h : ¬ adS c = 0) : sgn (adS c) = c ∧ (c = 43 ∨ c = 45) := by
  unfold adS at h ⊢
  by_cases h1 : c = 43
  · subst h1; exact ⟨by decide, Or.inl rfl⟩
  by_cases h2 : c = 45
  · subst h2; exact ⟨by decide, Or.inr rfl⟩
  rw [if_neg h1, if_neg h2] at h
  exact absurd rfl h
theorem cmS_z {c : Int} (h : cmS c = 0) : ¬ c = 60 ∧ ¬ c = 62 ∧ ¬ c = 61 := ⟨fun z => by rw [z] at h; exact absurd h (by decide), fun z => by rw [z] at h; exact absurd h (by decide), fun z => by rw [z] at h; exact absurd h (by decide)⟩
theorem cmS_n {c : Int} (h : ¬ cmS c = 0) : sgn (cmS c) = c ∧ (c = 60 ∨ c = 62 ∨ c = 61) := by
  unfold cmS at h ⊢
  by_cases h1 : c = 60
  · subst h1; exact ⟨by decide, Or.inl rfl⟩
  by_cases h2 : c = 62
  · subst h2; exact ⟨by decide, Or.inr (Or.inl rfl)⟩
  by_cases h3 : c = 61
  · subst h3; exact ⟨by decide, Or.inr (Or.inr rfl)⟩
  rw [if_neg h1, if_neg h2, if_neg h3] at h
  exact absurd rfl h
theorem OUT_lop {L n p1 n1 : Nat} {S V S1 V1 : Nat → Int} {op c z : Int} {r : RR} (h0 : r.1 = 0) (hc : sgn op = c) (h : OUT L r (n + 1) (sx S n c) (sx V n z) p1 n1 S1 V1) : OUT L (0, r.2.1, (op, (n1 : Int)) :: r.2.2) n S V p1 n1 S1 (sx V1 n (n1 : Int)) := by
  obtain ⟨a1, a2, a3⟩ := h
  obtain ⟨a4, a5, a6, a7⟩ := a3 h0
  refine ⟨a1, a2, fun _ => ⟨a4, by rw [a5]; show _ = n + (_ :: r.2.2).length; rw [List.length_cons]; omega, fun j hj => ?_, fun j hj => ?_⟩⟩
  · obtain ⟨e1, e2⟩ := a6 j (by omega)
    rw [sx_n (by omega)] at e1 e2
    exact ⟨e1, by rw [sx_n (by omega)]; exact e2⟩
  · match j, hj with
    | 0, _ =>
      refine ⟨?_, sx_s⟩
      have := (a6 n (by omega)).1
      rw [sx_s] at this
      exact this.trans hc.symm
    | j + 1, hj =>
      have hj : j + 1 < r.2.2.length + 1 := hj
      have := a7 j (by omega)
      rw [show n + 1 + j = n + (j + 1) by omega] at this
      exact ⟨this.1, by rw [sx_n (by omega)]; exact this.2⟩
section
variable {s q L : Nat} {T : Nat → Nat × Nat} {I J : Nat → Nat → Int} {R : Nat → Nat → Option Nat} {cl : Int} {A C : Nat → Int} {r : Nat}
theorem crd0 (hx : xHyp T R I q L) (h2 : crP s q L T I J R cl A C r 2) : crP s q L T I J R cl A C (r + 1) 0 := by
  intro d o p n S V Q hd ho hr hp hn hQ
  obtain ⟨e, rfl⟩ : ∃ e, d = e + 4 := ⟨d - 4, by omega⟩
  have hb := sgX_bd hx p
  have hlt := fun h => sgX_lt (I := I) (L := L) (p := p) h
  obtain ⟨hh, hl, hL, hL2, hR, hR4, -⟩ := id hx
  have hq : 80 < q := hl.1
  have t0 := hl.2.2.1
  have u3 : q < 185 := by have := hl.2.1; omega
  have p2 : p ≤ 160 := by omega
  have e0 : prsS (sgX I L) (r + 1) 0 o p n = (if sgX I L p = 91 then (if 6 ≤ o then rbad 5 p else rend 93 (sgX I L) (prsS (sgX I L) r 2 (o + 1) (p + 1) n)) else if 0 ≤ tkF (sgX I L p) then (0, p + 1, [(1, tkF (sgX I L p))]) else if 48 ≤ sgX I L p ∧ sgX I L p ≤ 57 then ((nmS (sgX I L) 5 p 0).1, (nmS (sgX I L) 5 p 0).2.1, [(0, (nmS (sgX I L) 5 p 0).2.2)]) else rbad 1 p) := rfl
  show wpc codeT mX (e + 4) 35 _ _ _
  by_cases h91 : sgX I L p = 91
  · have hpL := hlt (by rw [h91]; decide)
    have m1 : (91 : Int) % 65536 = 91 := by decide
    rw [if_pos h91] at e0
    by_cases ho6 : 6 ≤ o
    · rw [if_pos ho6] at e0
      rw [e0] at hQ
      have fin := hQ p n S V (OUT_bad (rbad_n (by decide)) hp (by omega))
      simp only [s35_0, s35_1, s35_2, s35_3, s35_4, s35_7, s35_8, s35_9, s35_10, s35_11, s35_12, s35_13, s35_14, s35_15, s35_16, s35_17, s35_18, s35_52, e35, Option.toList_some, Option.toList_none, List.cons_append, List.nil_append, Nat.le_refl, true_and, and_true, true_or, or_true, false_or, or_false, true_implies, false_implies, implies_true, not_true_eq_false, not_false_eq_true, eq_self, Nat.reduceLT, Nat.reduceLeDiff, Nat.reduceEqDiff, Nat.reduceAdd, Nat.reduceSub, Int.reduceLT, Int.reduceLE, Int.reduceEq, Int.reduceNeg, Int.reduceNe, Int.reduceAdd, Int.reduceSub, Int.reduceMul, Int.reduceToNat, Int.toNat_zero, Int.toNat_one, Int.toNat_natCast, am_cats, am_cat, am_st1, am_st2, am_clr, up2_na, up2_nj, up2_same, List.getElem?_cons_zero, List.getElem?_cons_succ, List.set_cons_zero, List.set_cons_succ, ne_eq, tk_79 hh, k30 hh hq hL hL2 hR, h91, m1, k218 (by decide : (0 : Int) ≤ 91 ∧ (91 : Int) ≤ 255), k36n hh ho6 p2]
      exact fin
    · rw [if_neg ho6] at e0
      simp only [s35_0, s35_1, s35_2, s35_3, s35_4, s35_7, s35_8, s35_9, s35_10, s35_11, s35_12, s35_13, s35_14, s35_15, s35_16, s35_17, s35_18, s35_19, s35_20, s35_21, s35_22, s35_23, e35, Option.toList_some, Option.toList_none, List.cons_append, List.nil_append, Nat.le_refl, true_and, and_true, true_or, or_true, false_or, or_false, true_implies, false_implies, implies_true, not_true_eq_false, not_false_eq_true, eq_self, Nat.reduceLT, Nat.reduceLeDiff, Nat.reduceEqDiff, Nat.reduceAdd, Nat.reduceSub, Int.reduceLT, Int.reduceLE, Int.reduceEq, Int.reduceNeg, Int.reduceNe, Int.reduceAdd, Int.reduceSub, Int.reduceMul, Int.reduceToNat, Int.toNat_zero, Int.toNat_one, Int.toNat_natCast, am_cats, am_cat, am_st1, am_st2, am_clr, up2_na, up2_nj, up2_same, List.getElem?_cons_zero, List.getElem?_cons_succ, List.set_cons_zero, List.set_cons_succ, ne_eq, tk_79 hh, k30 hh hq hL hL2 hR, h91, m1, k218 (by decide : (0 : Int) ≤ 91 ∧ (91 : Int) ≤ 255), k36y hh ho6 p2, w32_s (show o ≤ 1080 by omega)]
      refine h2 (e + 3) (o + 1) (p + 1) n S V _ (by omega) (by omega) (by omega) (by omega) (by omega) (fun p1 n1 S1 V1 ho1 => ⟨⟨Nat.le_refl _, Nat.le_refl _⟩, ?_⟩)
      by_cases hf : (prsS (sgX I L) r 2 (o + 1) (p + 1) n).1 = 0
      · have ho2 := ho1
        obtain ⟨b0, b1, b2⟩ := ho1
        obtain ⟨b3, b4, b5, b6⟩ := b2 hf
        subst b3
        rw [hf]
        by_cases h93 : sgX I L (prsS (sgX I L) r 2 (o + 1) (p + 1) n).2.1 = 93
        · have q1 := sgX_lt (I := I) (L := L) (show ¬ sgX I L (prsS (sgX I L) r 2 (o + 1) (p + 1) n).2.1 = -1 by rw [h93]; decide)
          have e1 : prsS (sgX I L) (r + 1) 0 o p n = (0, (prsS (sgX I L) r 2 (o + 1) (p + 1) n).2.1 + 1, (prsS (sgX I L) r 2 (o + 1) (p + 1) n).2.2) := by
            rw [e0]
            unfold rend
            rw [if_pos hf, if_pos h93]
          rw [e1] at hQ
          have fin := hQ ((prsS (sgX I L) r 2 (o + 1) (p + 1) n).2.1 + 1) n1 S1 V1 ⟨by omega, b1, fun _ => ⟨rfl, b4, b5, b6⟩⟩
          simp only [s35_24, s35_25, s35_26, s35_27, s35_52, Option.toList_some, Option.toList_none, List.cons_append, List.nil_append, Nat.le_refl, true_and, and_true, true_or, or_true, false_or, or_false, true_implies, false_implies, implies_true, not_true_eq_false, not_false_eq_true, eq_self, Nat.reduceLT, Nat.reduceLeDiff, Nat.reduceEqDiff, Nat.reduceAdd, Nat.reduceSub, Int.reduceLT, Int.reduceLE, Int.reduceEq, Int.reduceNeg, Int.reduceNe, Int.reduceAdd, Int.reduceSub, Int.reduceMul, Int.reduceToNat, Int.toNat_zero, Int.toNat_one, Int.toNat_natCast, am_cats, am_cat, am_st1, am_st2, am_clr, up2_na, up2_nj, up2_same, List.getElem?_cons_zero, List.getElem?_cons_succ, List.set_cons_zero, List.set_cons_succ, ne_eq, tk_79 hh, k32y hh hq hL hL2 hR h93 q1]
          exact fin
        · have e1 : prsS (sgX I L) (r + 1) 0 o p n = rbad 1 (prsS (sgX I L) r 2 (o + 1) (p + 1) n).2.1 := by
            rw [e0]
            unfold rend
            rw [if_pos hf, if_neg h93]
          rw [e1] at hQ
          have fin := hQ (prsS (sgX I L) r 2 (o + 1) (p + 1) n).2.1 n1 S1 V1 (OUT_bad (rbad_n (by decide)) b0 b1)
          simp only [s35_24, s35_25, s35_26, s35_27, s35_52, Option.toList_some, Option.toList_none, List.cons_append, List.nil_append, Nat.le_refl, true_and, and_true, true_or, or_true, false_or, or_false, true_implies, false_implies, implies_true, not_true_eq_false, not_false_eq_true, eq_self, Nat.reduceLT, Nat.reduceLeDiff, Nat.reduceEqDiff, Nat.reduceAdd, Nat.reduceSub, Int.reduceLT, Int.reduceLE, Int.reduceEq, Int.reduceNeg, Int.reduceNe, Int.reduceAdd, Int.reduceSub, Int.reduceMul, Int.reduceToNat, Int.toNat_zero, Int.toNat_one, Int.toNat_natCast, am_cats, am_cat, am_st1, am_st2, am_clr, up2_na, up2_nj, up2_same, List.getElem?_cons_zero, List.getElem?_cons_succ, List.set_cons_zero, List.set_cons_succ, ne_eq, tk_79 hh, k32n hh hq hL hL2 hR h93 b0]
          exact fin
      · have e1 : prsS (sgX I L) (r + 1) 0 o p n = prsS (sgX I L) r 2 (o + 1) (p + 1) n := by
          rw [e0]
          unfold rend
          rw [if_neg hf]
        rw [e1] at hQ
        have fin := hQ p1 n1 S1 V1 ho1
        simp only [s35_24, s35_25, s35_26, s35_27, s35_52, Option.toList_some, Option.toList_none, List.cons_append, List.nil_append, Nat.le_refl, true_and, and_true, true_or, or_true, false_or, or_false, true_implies, false_implies, implies_true, not_true_eq_false, not_false_eq_true, eq_self, Nat.reduceLT, Nat.reduceLeDiff, Nat.reduceEqDiff, Nat.reduceAdd, Nat.reduceSub, Int.reduceLT, Int.reduceLE, Int.reduceEq, Int.reduceNeg, Int.reduceNe, Int.reduceAdd, Int.reduceSub, Int.reduceMul, Int.reduceToNat, Int.toNat_zero, Int.toNat_one, Int.toNat_natCast, am_cats, am_cat, am_st1, am_st2, am_clr, up2_na, up2_nj, up2_same, List.getElem?_cons_zero, List.getElem?_cons_succ, List.set_cons_zero, List.set_cons_succ, ne_eq, tk_79 hh, k32f hh hf (by decide : ¬ (-1 : Int) = 93)]
        exact fin
  rw [if_neg h91] at e0
  by_cases hk : 0 ≤ tkF (sgX I L p)
  · rw [if_pos hk] at e0
    have hne : ¬ sgX I L p = -1 := fun z => by rw [z] at hk; exact absurd hk (by decide)
    have hpL := hlt hne
    have hb := hb.resolve_left hne
    have m1 : sgX I L p % 65536 = sgX I L p := by omega
    have g1 : ¬ sgX I L p < 0 := by omega
    have g2 : ¬ tkF (sgX I L p) < 0 := by omega
    have n16 : n < 160 := by omega
    rw [e0] at hQ
    have fin := hQ (p + 1) (n + 1) _ _ (OUT_one (by omega) n16)
    simp only [s35_0, s35_1, s35_2, s35_3, s35_4, s35_7, s35_8, s35_9, s35_10, s35_11, s35_12, s35_13, s35_14, s35_28, s35_29, s35_30, s35_31, s35_32, s35_33, s35_34, s35_35, s35_36, s35_37, s35_38, s35_39, s35_40, s35_41, s35_42, s35_52, e35, Option.toList_some, Option.toList_none, List.cons_append, List.nil_append, Nat.le_refl, true_and, and_true, true_or, or_true, false_or, or_false, true_implies, false_implies, implies_true, not_true_eq_false, not_false_eq_true, eq_self, Nat.reduceLT, Nat.reduceLeDiff, Nat.reduceEqDiff, Nat.reduceAdd, Nat.reduceSub, Int.reduceLT, Int.reduceLE, Int.reduceEq, Int.reduceNeg, Int.reduceNe, Int.reduceAdd, Int.reduceSub, Int.reduceMul, Int.reduceToNat, Int.toNat_zero, Int.toNat_one, Int.toNat_natCast, am_cats, am_cat, am_st1, am_st2, am_clr, up2_na, up2_nj, up2_same, List.getElem?_cons_zero, List.getElem?_cons_succ, List.set_cons_zero, List.set_cons_succ, ne_eq, tk_79 hh, k30 hh hq hL hL2 hR, k218 hb, h91, m1, g1, g2, hR4, k37 hl n16, xI_p, xu_p, w32_s (show p ≤ 1080 by omega), t0, u3]
    exact fin
  rw [if_neg hk] at e0
  have g2 : tkF (sgX I L p) < 0 := by omega
  by_cases hd2 : 48 ≤ sgX I L p ∧ sgX I L p ≤ 57
  · rw [if_pos hd2] at e0
    have hpL := hlt (by omega)
    have hb2 : 0 ≤ sgX I L p ∧ sgX I L p ≤ 255 := by omega
    have m1 : sgX I L p % 65536 = sgX I L p := by omega
    have g1 : ¬ sgX I L p < 0 := by omega
    have n16 : n < 160 := by omega
    have na := nm_adv (sg := sgX I L) (L := L) sgX_hs 5 p 0 hp
    rw [e0] at hQ
    have fin := hQ (nmS (sgX I L) 5 p 0).2.1 (n + 1) _ _ (OUT_one na.2.1 n16)
    simp only [s35_0, s35_1, s35_2, s35_3, s35_4, s35_7, s35_8, s35_9, s35_10, s35_11, s35_12, s35_13, s35_14, s35_28, s35_29, s35_43, s35_44, s35_45, s35_46, s35_47, s35_48, s35_52, e35, Option.toList_some, Option.toList_none, List.cons_append, List.nil_append, Nat.le_refl, true_and, and_true, true_or, or_true, false_or, or_false, true_implies, false_implies, implies_true, not_true_eq_false, not_false_eq_true, eq_self, Nat.reduceLT, Nat.reduceLeDiff, Nat.reduceEqDiff, Nat.reduceAdd, Nat.reduceSub, Int.reduceLT, Int.reduceLE, Int.reduceEq, Int.reduceNeg, Int.reduceNe, Int.reduceAdd, Int.reduceSub, Int.reduceMul, Int.reduceToNat, Int.toNat_zero, Int.toNat_one, Int.toNat_natCast, am_cats, am_cat, am_st1, am_st2, am_clr, up2_na, up2_nj, up2_same, List.getElem?_cons_zero, List.getElem?_cons_succ, List.set_cons_zero, List.set_cons_succ, ne_eq, tk_79 hh, k30 hh hq hL hL2 hR, k218 hb2, k38, i10, h91, m1, g1, g2, hd2, k39 hh hl hL hL2 hR hR4 n16 hp]
    exact fin
  · rw [if_neg hd2] at e0
    rw [e0] at hQ
    have fin := hQ p n S V (OUT_bad (rbad_n (by decide)) hp (by omega))
    rcases hb with hb | hb
    · simp only [s35_0, s35_1, s35_2, s35_3, s35_4, s35_5, s35_6, s35_11, s35_12, s35_13, s35_14, s35_28, s35_29, s35_43, s35_44, s35_45, s35_49, s35_50, s35_51, s35_52, e35, Option.toList_some, Option.toList_none, List.cons_append, List.nil_append, Nat.le_refl, true_and, and_true, true_or, or_true, false_or, or_false, true_implies, false_implies, implies_true, not_true_eq_false, not_false_eq_true, eq_self, Nat.reduceLT, Nat.reduceLeDiff, Nat.reduceEqDiff, Nat.reduceAdd, Nat.reduceSub, Int.reduceLT, Int.reduceLE, Int.reduceEq, Int.reduceNeg, Int.reduceNe, Int.reduceAdd, Int.reduceSub, Int.reduceMul, Int.reduceToNat, Int.toNat_zero, Int.toNat_one, Int.toNat_natCast, am_cats, am_cat, am_st1, am_st2, am_clr, up2_na, up2_nj, up2_same, List.getElem?_cons_zero, List.getElem?_cons_succ, List.set_cons_zero, List.set_cons_succ, ne_eq, tk_79 hh, k30 hh hq hL hL2 hR, hb, k31 hh (by decide : (1 : Int) ≤ 1 ∧ (1 : Int) ≤ 9) p2, k38, i10]
      exact fin
    · have m1 : sgX I L p % 65536 = sgX I L p := by omega
      have g1 : ¬ sgX I L p < 0 := by omega
      simp only [s35_0, s35_1, s35_2, s35_3, s35_4, s35_7, s35_8, s35_9, s35_10, s35_11, s35_12, s35_13, s35_14, s35_28, s35_29, s35_43, s35_44, s35_45, s35_49, s35_50, s35_51, s35_52, e35, Option.toList_some, Option.toList_none, List.cons_append, List.nil_append, Nat.le_refl, true_and, and_true, true_or, or_true, false_or, or_false, true_implies, false_implies, implies_true, not_true_eq_false, not_false_eq_true, eq_self, Nat.reduceLT, Nat.reduceLeDiff, Nat.reduceEqDiff, Nat.reduceAdd, Nat.reduceSub, Int.reduceLT, Int.reduceLE, Int.reduceEq, Int.reduceNeg, Int.reduceNe, Int.reduceAdd, Int.reduceSub, Int.reduceMul, Int.reduceToNat, Int.toNat_zero, Int.toNat_one, Int.toNat_natCast, am_cats, am_cat, am_st1, am_st2, am_clr, up2_na, up2_nj, up2_same, List.getElem?_cons_zero, List.getElem?_cons_succ, List.set_cons_zero, List.set_cons_succ, ne_eq, tk_79 hh, k30 hh hq hL hL2 hR, k218 hb, h91, m1, g1, g2, hd2, k31 hh (by decide : (1 : Int) ≤ 1 ∧ (1 : Int) ≤ 9) p2, k38, i10]
      exact fin
theorem crd1 (hx : xHyp T R I q L) (h0 : crP s q L T I J R cl A C r 0) (h7 : lpS7 s q L T I J R cl A C r) : crP s q L T I J R cl A C (r + 1) 1 := by
  intro d o p n S V Q hd ho hr hp hn hQ
  obtain ⟨e, rfl⟩ : ∃ e, d = e + 1 := ⟨d - 1, by omega⟩
  obtain ⟨hh, hl, hL, hL2, hR, hR4, -⟩ := id hx
  have hq : 80 < q := hl.1
  show wpc codeT mX (e + 1) 34 _ _ _
  simp only [s34_0, s34_1, s34_2, e34, Option.toList_some, Option.toList_none, List.cons_append, List.nil_append, Nat.le_refl, true_and, and_true, true_or, or_true, false_or, or_false, true_implies, false_implies, implies_true, not_true_eq_false, not_false_eq_true, eq_self, Nat.reduceLT, Nat.reduceLeDiff, Nat.reduceEqDiff, Nat.reduceAdd, Nat.reduceSub, Int.reduceLT, Int.reduceLE, Int.reduceEq, Int.reduceNeg, Int.reduceNe, Int.reduceAdd, Int.reduceSub, Int.reduceMul, Int.reduceToNat, Int.toNat_zero, Int.toNat_one, Int.toNat_natCast, am_cats, am_cat, am_st1, am_st2, am_clr, up2_na, up2_nj, up2_same, List.getElem?_cons_zero, List.getElem?_cons_succ, List.set_cons_zero, List.set_cons_succ, ne_eq, tk_79 hh]
  refine h0 e o p n S V _ (by omega) (by omega) (by omega) (by omega) (by omega) (fun p1 n1 S1 V1 ho1 => ⟨⟨Nat.le_refl _, Nat.le_refl _⟩, ?_⟩)
  by_cases hf : (prsS (sgX I L) r 0 o p n).1 = 0
  · obtain ⟨b3, b4, b5, b6⟩ := ho1.2.2 hf
    obtain ⟨a1, a2, a3⟩ := rd_adv (sg := sgX I L) sgX_hs r 0 o p n hp hf
    have a3 := a3 (by decide)
    have e1 : prsS (sgX I L) (r + 1) 1 o p n = rcat (prsS (sgX I L) r 0 o p n).2.2 (prsS (sgX I L) r 7 o p1 n1) := by
      rw [b3, b4]
      exact rsq_y (k := fun p' m => prsS (sgX I L) r 7 o p' (n + m)) hf
    rw [hf]
    simp only [s34_3, s34_4, s34_5, s34_6, s34_7, Option.toList_some, Option.toList_none, List.cons_append, List.nil_append, Nat.le_refl, true_and, and_true, true_or, or_true, false_or, or_false, true_implies, false_implies, implies_true, not_true_eq_false, not_false_eq_true, eq_self, Nat.reduceLT, Nat.reduceLeDiff, Nat.reduceEqDiff, Nat.reduceAdd, Nat.reduceSub, Int.reduceLT, Int.reduceLE, Int.reduceEq, Int.reduceNeg, Int.reduceNe, Int.reduceAdd, Int.reduceSub, Int.reduceMul, Int.reduceToNat, Int.toNat_zero, Int.toNat_one, Int.toNat_natCast, am_cats, am_cat, am_st1, am_st2, am_clr, up2_na, up2_nj, up2_same, List.getElem?_cons_zero, List.getElem?_cons_succ, List.set_cons_zero, List.set_cons_succ, ne_eq, tk_79 hh, k30 hh hq hL hL2 hR]
    refine h7 e o p1 n1 0 S1 V1 Q (by omega) ho (by omega) (by omega) (by omega) (by omega) (fun p2 n2 S2 V2 ho2 => ?_)
    rw [e1] at hQ
    exact hQ p2 n2 S2 V2 (OUT_cat hf ho1 ho2)
  · have e1 : prsS (sgX I L) (r + 1) 1 o p n = prsS (sgX I L) r 0 o p n := rsq_n (k := fun p' m => prsS (sgX I L) r 7 o p' (n + m)) hf
    rw [e1] at hQ
    simp only [s34_3, s34_4, s34_5, s34_6, s34_7, Option.toList_some, Option.toList_none, List.cons_append, List.nil_append, Nat.le_refl, true_and, and_true, true_or, or_true, false_or, or_false, true_implies, false_implies, implies_true, not_true_eq_false, not_false_eq_true, eq_self, Nat.reduceLT, Nat.reduceLeDiff, Nat.reduceEqDiff, Nat.reduceAdd, Nat.reduceSub, Int.reduceLT, Int.reduceLE, Int.reduceEq, Int.reduceNeg, Int.reduceNe, Int.reduceAdd, Int.reduceSub, Int.reduceMul, Int.reduceToNat, Int.toNat_zero, Int.toNat_one, Int.toNat_natCast, am_cats, am_cat, am_st1, am_st2, am_clr, up2_na, up2_nj, up2_same, List.getElem?_cons_zero, List.getElem?_cons_succ, List.set_cons_zero, List.set_cons_succ, ne_eq, tk_79 hh, k30f hh hf]
    exact x34f hx (hQ p1 n1 S1 V1 ho1)
theorem crd7 (hx : xHyp T R I q L) (h0 : crP s q L T I J R cl A C r 0) (h7 : lpS7 s q L T I J R cl A C r) : lpS7 s q L T I J R cl A C (r + 1) := by
  intro d o p n i S V Q hd ho hr hp hn hi hQ
  have hlt := fun h => sgX_lt (I := I) (L := L) (p := p) h
  obtain ⟨hh, hl, hL, hL2, hR, hR4, -⟩ := id hx
  have hq : 80 < q := hl.1
  have t0 := hl.2.2.1
  have u3 : q < 185 := by have := hl.2.1; omega
  by_cases hm : muS (sgX I L p) = 0
  · have e1 : prsS (sgX I L) (r + 1) 7 o p n = (0, p, []) := if_pos hm
    rw [e1] at hQ
    have fin := hQ p n S V (OUT_nil hp (by omega))
    obtain ⟨c1, c2, c3⟩ := muS_z hm
    refine s34_8.mpr ?_
    simp only [s34_9, s34_10, s34_11, s34_12, s34_13, s34_14, s34_15, s34_16, s34_17, s34_18, s34_19, s34_20, s34_41, Option.toList_some, Option.toList_none, List.cons_append, List.nil_append, Nat.le_refl, true_and, and_true, true_or, or_true, false_or, or_false, true_implies, false_implies, implies_true, not_true_eq_false, not_false_eq_true, eq_self, Nat.reduceLT, Nat.reduceLeDiff, Nat.reduceEqDiff, Nat.reduceAdd, Nat.reduceSub, Int.reduceLT, Int.reduceLE, Int.reduceEq, Int.reduceNeg, Int.reduceNe, Int.reduceAdd, Int.reduceSub, Int.reduceMul, Int.reduceToNat, Int.toNat_zero, Int.toNat_one, Int.toNat_natCast, am_cats, am_cat, am_st1, am_st2, am_clr, up2_na, up2_nj, up2_same, List.getElem?_cons_zero, List.getElem?_cons_succ, List.set_cons_zero, List.set_cons_succ, ne_eq, tk_79 hh, xI_1, hL, c1, c2, c3]
    by_cases h : (i : Int) < (L : Int)
    · exact ⟨fun _ => fin, fun z => absurd h z⟩
    · exact ⟨fun z => absurd z h, fun _ => fin⟩
  · obtain ⟨hs, hcc⟩ := muS_n hm
    have hpL := hlt (by omega)
    have e0 : prsS (sgX I L) (r + 1) 7 o p n = rsq (prsS (sgX I L) r 0 o (p + 1) n) (fun p' m => rcat [(muS (sgX I L p), 0)] (prsS (sgX I L) r 7 o p' (n + m + 1))) := if_neg hm
    have u1 : (i : Int) < (L : Int) := by omega
    have W : wp codeT mX (d + 1) 34 21 [some (.inr (.inr (some 79))), some (.inl (o : Int)), some (.inl (sgX I L p)), some (.inl (i : Int))] [] (185, s, T, xI I q (p : Int) 0 cl (n : Int) S V A C, J, R) Q := by
      refine s34_21.mpr ?_
      simp only [s34_22, s34_23, s34_24, s34_25, s34_26, s34_27, s34_28, s34_29, Option.toList_some, Option.toList_none, List.cons_append, List.nil_append, Nat.le_refl, true_and, and_true, true_or, or_true, false_or, or_false, true_implies, false_implies, implies_true, not_true_eq_false, not_false_eq_true, eq_self, Nat.reduceLT, Nat.reduceLeDiff, Nat.reduceEqDiff, Nat.reduceAdd, Nat.reduceSub, Int.reduceLT, Int.reduceLE, Int.reduceEq, Int.reduceNeg, Int.reduceNe, Int.reduceAdd, Int.reduceSub, Int.reduceMul, Int.reduceToNat, Int.toNat_zero, Int.toNat_one, Int.toNat_natCast, am_cats, am_cat, am_st1, am_st2, am_clr, up2_na, up2_nj, up2_same, List.getElem?_cons_zero, List.getElem?_cons_succ, List.set_cons_zero, List.set_cons_succ, ne_eq, tk_79 hh, xI_p, xu_p, w32_s (show p ≤ 1080 by omega)]
      refine h0 d o (p + 1) n S V _ (by omega) (by omega) (by omega) (by omega) (by omega) (fun p1 n1 S1 V1 ho1 => ⟨⟨Nat.le_refl _, Nat.le_refl _⟩, ?_⟩)
      by_cases hf : (prsS (sgX I L) r 0 o (p + 1) n).1 = 0
      · obtain ⟨b3, b4, b5, b6⟩ := ho1.2.2 hf
        obtain ⟨a1, a2, a3⟩ := rd_adv (sg := sgX I L) sgX_hs r 0 o (p + 1) n (by omega) hf
        have a3 := a3 (by decide)
        have n16 : n1 < 160 := by omega
        have e1 : prsS (sgX I L) (r + 1) 7 o p n = rcat (prsS (sgX I L) r 0 o (p + 1) n).2.2 (rcat [(muS (sgX I L p), 0)] (prsS (sgX I L) r 7 o p1 (n1 + 1))) := by
          rw [e0, b3, b4]
          exact rsq_y hf
        have o1 := OUT_one (L := L) (p := p1) (n := n1) (S := S1) (V := V1) (f := 0) (o := muS (sgX I L p)) (v := 0) ho1.1 n16
        rw [hs] at o1
        rw [hf]
        simp only [s34_30, s34_31, s34_32, s34_33, s34_34, s34_35, s34_36, s34_37, s34_38, s34_39, s34_40, Option.toList_some, Option.toList_none, List.cons_append, List.nil_append, Nat.le_refl, true_and, and_true, true_or, or_true, false_or, or_false, true_implies, false_implies, implies_true, not_true_eq_false, not_false_eq_true, eq_self, Nat.reduceLT, Nat.reduceLeDiff, Nat.reduceEqDiff, Nat.reduceAdd, Nat.reduceSub, Int.reduceLT, Int.reduceLE, Int.reduceEq, Int.reduceNeg, Int.reduceNe, Int.reduceAdd, Int.reduceSub, Int.reduceMul, Int.reduceToNat, Int.toNat_zero, Int.toNat_one, Int.toNat_natCast, am_cats, am_cat, am_st1, am_st2, am_clr, up2_na, up2_nj, up2_same, List.getElem?_cons_zero, List.getElem?_cons_succ, List.set_cons_zero, List.set_cons_succ, ne_eq, tk_79 hh, hR4, k37 hl n16, k30 hh hq hL hL2 hR, w32_s (show i ≤ 1080 by omega), t0, u3]
        refine h7 d o p1 (n1 + 1) (i + 1) _ _ Q (by omega) ho (by omega) (by omega) (by omega) (by omega) (fun p2 n2 S2 V2 ho2 => ?_)
        rw [e1] at hQ
        exact hQ p2 n2 S2 V2 (OUT_cat hf ho1 (OUT_cat (a := (0, p1, [(muS (sgX I L p), 0)])) rfl o1 ho2))
      · have e1 : prsS (sgX I L) (r + 1) 7 o p n = prsS (sgX I L) r 0 o (p + 1) n := e0.trans (rsq_n hf)
        rw [e1] at hQ
        by_cases n16 : n1 < 160
        · simp only [s34_30, s34_31, s34_32, s34_33, s34_34, s34_35, s34_36, s34_37, s34_38, s34_39, s34_40, Option.toList_some, Option.toList_none, List.cons_append, List.nil_append, Nat.le_refl, true_and, and_true, true_or, or_true, false_or, or_false, true_implies, false_implies, implies_true, not_true_eq_false, not_false_eq_true, eq_self, Nat.reduceLT, Nat.reduceLeDiff, Nat.reduceEqDiff, Nat.reduceAdd, Nat.reduceSub, Int.reduceLT, Int.reduceLE, Int.reduceEq, Int.reduceNeg, Int.reduceNe, Int.reduceAdd, Int.reduceSub, Int.reduceMul, Int.reduceToNat, Int.toNat_zero, Int.toNat_one, Int.toNat_natCast, am_cats, am_cat, am_st1, am_st2, am_clr, up2_na, up2_nj, up2_same, List.getElem?_cons_zero, List.getElem?_cons_succ, List.set_cons_zero, List.set_cons_succ, ne_eq, tk_79 hh, hR4, k37 hl n16, k30f hh hf, w32_s (show i ≤ 1080 by omega), t0, u3]
          exact x34f hx (hQ p1 (n1 + 1) _ _ (OUT_bad hf ho1.1 (by omega)))
        · simp only [s34_30, s34_31, s34_32, s34_33, s34_34, s34_35, s34_36, s34_37, s34_38, s34_39, s34_40, Option.toList_some, Option.toList_none, List.cons_append, List.nil_append, Nat.le_refl, true_and, and_true, true_or, or_true, false_or, or_false, true_implies, false_implies, implies_true, not_true_eq_false, not_false_eq_true, eq_self, Nat.reduceLT, Nat.reduceLeDiff, Nat.reduceEqDiff, Nat.reduceAdd, Nat.reduceSub, Int.reduceLT, Int.reduceLE, Int.reduceEq, Int.reduceNeg, Int.reduceNe, Int.reduceAdd, Int.reduceSub, Int.reduceMul, Int.reduceToNat, Int.toNat_zero, Int.toNat_one, Int.toNat_natCast, am_cats, am_cat, am_st1, am_st2, am_clr, up2_na, up2_nj, up2_same, List.getElem?_cons_zero, List.getElem?_cons_succ, List.set_cons_zero, List.set_cons_succ, ne_eq, tk_79 hh, hR4, k37f hl n16, k30f hh hf, w32_s (show i ≤ 1080 by omega), t0, u3]
          exact x34f hx (hQ p1 n1 _ _ (OUT_bad hf ho1.1 ho1.2.1))
    refine s34_8.mpr ?_
    simp only [s34_9, s34_10, s34_11, s34_12, s34_13, s34_14, s34_15, s34_16, s34_17, s34_18, s34_19, s34_20, Option.toList_some, Option.toList_none, List.cons_append, List.nil_append, Nat.le_refl, true_and, and_true, true_or, or_true, false_or, or_false, true_implies, false_implies, implies_true, not_true_eq_false, not_false_eq_true, eq_self, Nat.reduceLT, Nat.reduceLeDiff, Nat.reduceEqDiff, Nat.reduceAdd, Nat.reduceSub, Int.reduceLT, Int.reduceLE, Int.reduceEq, Int.reduceNeg, Int.reduceNe, Int.reduceAdd, Int.reduceSub, Int.reduceMul, Int.reduceToNat, Int.toNat_zero, Int.toNat_one, Int.toNat_natCast, am_cats, am_cat, am_st1, am_st2, am_clr, up2_na, up2_nj, up2_same, List.getElem?_cons_zero, List.getElem?_cons_succ, List.set_cons_zero, List.set_cons_succ, ne_eq, tk_79 hh, xI_1, hL, u1]
    exact ⟨fun _ => W, fun z1 => ⟨fun _ => W, fun z2 => ⟨fun _ => W, fun z3 => by omega⟩⟩⟩
theorem crd2 (hx : xHyp T R I q L) (h1 : crP s q L T I J R cl A C r 1) (h8 : lpS8 s q L T I J R cl A C r) : crP s q L T I J R cl A C (r + 1) 2 := by
  intro d o p n S V Q hd ho hr hp hn hQ
  obtain ⟨e, rfl⟩ : ∃ e, d = e + 1 := ⟨d - 1, by omega⟩
  obtain ⟨hh, hl, hL, hL2, hR, hR4, -⟩ := id hx
  have hq : 80 < q := hl.1
  show wpc codeT mX (e + 1) 33 _ _ _
  simp only [s33_0, s33_1, s33_2, e33, Option.toList_some, Option.toList_none, List.cons_append, List.nil_append, Nat.le_refl, true_and, and_true, true_or, or_true, false_or, or_false, true_implies, false_implies, implies_true, not_true_eq_false, not_false_eq_true, eq_self, Nat.reduceLT, Nat.reduceLeDiff, Nat.reduceEqDiff, Nat.reduceAdd, Nat.reduceSub, Int.reduceLT, Int.reduceLE, Int.reduceEq, Int.reduceNeg, Int.reduceNe, Int.reduceAdd, Int.reduceSub, Int.reduceMul, Int.reduceToNat, Int.toNat_zero, Int.toNat_one, Int.toNat_natCast, am_cats, am_cat, am_st1, am_st2, am_clr, up2_na, up2_nj, up2_same, List.getElem?_cons_zero, List.getElem?_cons_succ, List.set_cons_zero, List.set_cons_succ, ne_eq, tk_79 hh]
  refine h1 e o p n S V _ (by omega) (by omega) (by omega) (by omega) (by omega) (fun p1 n1 S1 V1 ho1 => ⟨⟨Nat.le_refl _, Nat.le_refl _⟩, ?_⟩)
  by_cases hf : (prsS (sgX I L) r 1 o p n).1 = 0
  · obtain ⟨b3, b4, b5, b6⟩ := ho1.2.2 hf
    obtain ⟨a1, a2, a3⟩ := rd_adv (sg := sgX I L) sgX_hs r 1 o p n hp hf
    have a3 := a3 (by decide)
    have e1 : prsS (sgX I L) (r + 1) 2 o p n = rcat (prsS (sgX I L) r 1 o p n).2.2 (prsS (sgX I L) r 8 o p1 n1) := by
      rw [b3, b4]
      exact rsq_y (k := fun p' m => prsS (sgX I L) r 8 o p' (n + m)) hf
    rw [hf]
    simp only [s33_3, s33_4, s33_5, s33_6, s33_7, Option.toList_some, Option.toList_none, List.cons_append, List.nil_append, Nat.le_refl, true_and, and_true, true_or, or_true, false_or, or_false, true_implies, false_implies, implies_true, not_true_eq_false, not_false_eq_true, eq_self, Nat.reduceLT, Nat.reduceLeDiff, Nat.reduceEqDiff, Nat.reduceAdd, Nat.reduceSub, Int.reduceLT, Int.reduceLE, Int.reduceEq, Int.reduceNeg, Int.reduceNe, Int.reduceAdd, Int.reduceSub, Int.reduceMul, Int.reduceToNat, Int.toNat_zero, Int.toNat_one, Int.toNat_natCast, am_cats, am_cat, am_st1, am_st2, am_clr, up2_na, up2_nj, up2_same, List.getElem?_cons_zero, List.getElem?_cons_succ, List.set_cons_zero, List.set_cons_succ, ne_eq, tk_79 hh, k30 hh hq hL hL2 hR]
    refine h8 e o p1 n1 0 S1 V1 Q (by omega) ho (by omega) (by omega) (by omega) (by omega) (fun p2 n2 S2 V2 ho2 => ?_)
    rw [e1] at hQ
    exact hQ p2 n2 S2 V2 (OUT_cat hf ho1 ho2)
  · have e1 : prsS (sgX I L) (r + 1) 2 o p n = prsS (sgX I L) r 1 o p n := rsq_n (k := fun p' m => prsS (sgX I L) r 8 o p' (n + m)) hf
    rw [e1] at hQ
    simp only [s33_3, s33_4, s33_5, s33_6, s33_7, Option.toList_some, Option.toList_none, List.cons_append, List.nil_append, Nat.le_refl, true_and, and_true, true_or, or_true, false_or, or_false, true_implies, false_implies, implies_true, not_true_eq_false, not_false_eq_true, eq_self, Nat.reduceLT, Nat.reduceLeDiff, Nat.reduceEqDiff, Nat.reduceAdd, Nat.reduceSub, Int.reduceLT, Int.reduceLE, Int.reduceEq, Int.reduceNeg, Int.reduceNe, Int.reduceAdd, Int.reduceSub, Int.reduceMul, Int.reduceToNat, Int.toNat_zero, Int.toNat_one, Int.toNat_natCast, am_cats, am_cat, am_st1, am_st2, am_clr, up2_na, up2_nj, up2_same, List.getElem?_cons_zero, List.getElem?_cons_succ, List.set_cons_zero, List.set_cons_succ, ne_eq, tk_79 hh, k30f hh hf]
    exact x33f hx (hQ p1 n1 S1 V1 ho1)
theorem crd8 (hx : xHyp T R I q L) (h1 : crP s q L T I J R cl A C r 1) (h8 : lpS8 s q L T I J R cl A C r) : lpS8 s q L T I J R cl A C (r + 1) := by
  intro d o p n i S V Q hd ho hr hp hn hi hQ
  have hlt := fun h => sgX_lt (I := I) (L := L) (p := p) h
  obtain ⟨hh, hl, hL, hL2, hR, hR4, -⟩ := id hx
  have hq : 80 < q := hl.1
  have t0 := hl.2.2.1
  have u3 : q < 185 := by have := hl.2.1; omega
  by_cases hm : adS (sgX I L p) = 0
  · have e1 : prsS (sgX I L) (r + 1) 8 o p n = (0, p, []) := if_pos hm
    rw [e1] at hQ
    have fin := hQ p n S V (OUT_nil hp (by omega))
    obtain ⟨c1, c2⟩ := adS_z hm
    refine s33_8.mpr ?_
    simp only [s33_9, s33_10, s33_11, s33_12, s33_13, s33_14, s33_15, s33_16, s33_17, s33_38, Option.toList_some, Option.toList_none, List.cons_append, List.nil_append, Nat.le_refl, true_and, and_true, true_or, or_true, false_or, or_false, true_implies, false_implies, implies_true, not_true_eq_false, not_false_eq_true, eq_self, Nat.reduceLT, Nat.reduceLeDiff, Nat.reduceEqDiff, Nat.reduceAdd, Nat.reduceSub, Int.reduceLT, Int.reduceLE, Int.reduceEq, Int.reduceNeg, Int.reduceNe, Int.reduceAdd, Int.reduceSub, Int.reduceMul, Int.reduceToNat, Int.toNat_zero, Int.toNat_one, Int.toNat_natCast, am_cats, am_cat, am_st1, am_st2, am_clr, up2_na, up2_nj, up2_same, List.getElem?_cons_zero, List.getElem?_cons_succ, List.set_cons_zero, List.set_cons_succ, ne_eq, tk_79 hh, xI_1, hL, c1, c2]
    by_cases h : (i : Int) < (L : Int)
    · exact ⟨fun _ => fin, fun z => absurd h z⟩
    · exact ⟨fun z => absurd z h, fun _ => fin⟩
  · obtain ⟨hs, hcc⟩ := adS_n hm
    have hpL := hlt (by omega)
    have e0 : prsS (sgX I L) (r + 1) 8 o p n = rsq (prsS (sgX I L) r 1 o (p + 1) n) (fun p' m => rcat [(adS (sgX I L p), 0)] (prsS (sgX I L) r 8 o p' (n + m + 1))) := if_neg hm
    have u1 : (i : Int) < (L : Int) := by omega
    have W : wp codeT mX (d + 1) 33 18 [some (.inr (.inr (some 79))), some (.inl (o : Int)), some (.inl (sgX I L p)), some (.inl (i : Int))] [] (185, s, T, xI I q (p : Int) 0 cl (n : Int) S V A C, J, R) Q := by
      refine s33_18.mpr ?_
      simp only [s33_19, s33_20, s33_21, s33_22, s33_23, s33_24, s33_25, s33_26, Option.toList_some, Option.toList_none, List.cons_append, List.nil_append, Nat.le_refl, true_and, and_true, true_or, or_true, false_or, or_false, true_implies, false_implies, implies_true, not_true_eq_false, not_false_eq_true, eq_self, Nat.reduceLT, Nat.reduceLeDiff, Nat.reduceEqDiff, Nat.reduceAdd, Nat.reduceSub, Int.reduceLT, Int.reduceLE, Int.reduceEq, Int.reduceNeg, Int.reduceNe, Int.reduceAdd, Int.reduceSub, Int.reduceMul, Int.reduceToNat, Int.toNat_zero, Int.toNat_one, Int.toNat_natCast, am_cats, am_cat, am_st1, am_st2, am_clr, up2_na, up2_nj, up2_same, List.getElem?_cons_zero, List.getElem?_cons_succ, List.set_cons_zero, List.set_cons_succ, ne_eq, tk_79 hh, xI_p, xu_p, w32_s (show p ≤ 1080 by omega)]
      refine h1 d o (p + 1) n S V _ (by omega) (by omega) (by omega) (by omega) (by omega) (fun p1 n1 S1 V1 ho1 => ⟨⟨Nat.le_refl _, Nat.le_refl _⟩, ?_⟩)
      by_cases hf : (prsS (sgX I L) r 1 o (p + 1) n).1 = 0
      · obtain ⟨b3, b4, b5, b6⟩ := ho1.2.2 hf
        obtain ⟨a1, a2, a3⟩ := rd_adv (sg := sgX I L) sgX_hs r 1 o (p + 1) n (by omega) hf
        have a3 := a3 (by decide)
        have n16 : n1 < 160 := by omega
        have e1 : prsS (sgX I L) (r + 1) 8 o p n = rcat (prsS (sgX I L) r 1 o (p + 1) n).2.2 (rcat [(adS (sgX I L p), 0)] (prsS (sgX I L) r 8 o p1 (n1 + 1))) := by
          rw [e0, b3, b4]
          exact rsq_y hf
        have o1 := OUT_one (L := L) (p := p1) (n := n1) (S := S1) (V := V1) (f := 0) (o := adS (sgX I L p)) (v := 0) ho1.1 n16
        rw [hs] at o1
        rw [hf]
        simp only [s33_27, s33_28, s33_29, s33_30, s33_31, s33_32, s33_33, s33_34, s33_35, s33_36, s33_37, Option.toList_some, Option.toList_none, List.cons_append, List.nil_append, Nat.le_refl, true_and, and_true, true_or, or_true, false_or, or_false, true_implies, false_implies, implies_true, not_true_eq_false, not_false_eq_true, eq_self, Nat.reduceLT, Nat.reduceLeDiff, Nat.reduceEqDiff, Nat.reduceAdd, Nat.reduceSub, Int.reduceLT, Int.reduceLE, Int.reduceEq, Int.reduceNeg, Int.reduceNe, Int.reduceAdd, Int.reduceSub, Int.reduceMul, Int.reduceToNat, Int.toNat_zero, Int.toNat_one, Int.toNat_natCast, am_cats, am_cat, am_st1, am_st2, am_clr, up2_na, up2_nj, up2_same, List.getElem?_cons_zero, List.getElem?_cons_succ, List.set_cons_zero, List.set_cons_succ, ne_eq, tk_79 hh, hR4, k37 hl n16, k30 hh hq hL hL2 hR, w32_s (show i ≤ 1080 by omega), t0, u3]
        refine h8 d o p1 (n1 + 1) (i + 1) _ _ Q (by omega) ho (by omega) (by omega) (by omega) (by omega) (fun p2 n2 S2 V2 ho2 => ?_)
        rw [e1] at hQ
        exact hQ p2 n2 S2 V2 (OUT_cat hf ho1 (OUT_cat (a := (0, p1, [(adS (sgX I L p), 0)])) rfl o1 ho2))
      · have e1 : prsS (sgX I L) (r + 1) 8 o p n = prsS (sgX I L) r 1 o (p + 1) n := e0.trans (rsq_n hf)
        rw [e1] at hQ
        by_cases n16 : n1 < 160
        · simp only [s33_27, s33_28, s33_29, s33_30, s33_31, s33_32, s33_33, s33_34, s33_35, s33_36, s33_37, Option.toList_some, Option.toList_none, List.cons_append, List.nil_append, Nat.le_refl, true_and, and_true, true_or, or_true, false_or, or_false, true_implies, false_implies, implies_true, not_true_eq_false, not_false_eq_true, eq_self, Nat.reduceLT, Nat.reduceLeDiff, Nat.reduceEqDiff, Nat.reduceAdd, Nat.reduceSub, Int.reduceLT, Int.reduceLE, Int.reduceEq, Int.reduceNeg, Int.reduceNe, Int.reduceAdd, Int.reduceSub, Int.reduceMul, Int.reduceToNat, Int.toNat_zero, Int.toNat_one, Int.toNat_natCast, am_cats, am_cat, am_st1, am_st2, am_clr, up2_na, up2_nj, up2_same, List.getElem?_cons_zero, List.getElem?_cons_succ, List.set_cons_zero, List.set_cons_succ, ne_eq, tk_79 hh, hR4, k37 hl n16, k30f hh hf, w32_s (show i ≤ 1080 by omega), t0, u3]
          exact x33f hx (hQ p1 (n1 + 1) _ _ (OUT_bad hf ho1.1 (by omega)))
        · simp only [s33_27, s33_28, s33_29, s33_30, s33_31, s33_32, s33_33, s33_34, s33_35, s33_36, s33_37, Option.toList_some, Option.toList_none, List.cons_append, List.nil_append, Nat.le_refl, true_and, and_true, true_or, or_true, false_or, or_false, true_implies, false_implies, implies_true, not_true_eq_false, not_false_eq_true, eq_self, Nat.reduceLT, Nat.reduceLeDiff, Nat.reduceEqDiff, Nat.reduceAdd, Nat.reduceSub, Int.reduceLT, Int.reduceLE, Int.reduceEq, Int.reduceNeg, Int.reduceNe, Int.reduceAdd, Int.reduceSub, Int.reduceMul, Int.reduceToNat, Int.toNat_zero, Int.toNat_one, Int.toNat_natCast, am_cats, am_cat, am_st1, am_st2, am_clr, up2_na, up2_nj, up2_same, List.getElem?_cons_zero, List.getElem?_cons_succ, List.set_cons_zero, List.set_cons_succ, ne_eq, tk_79 hh, hR4, k37f hl n16, k30f hh hf, w32_s (show i ≤ 1080 by omega), t0, u3]
          exact x33f hx (hQ p1 n1 _ _ (OUT_bad hf ho1.1 ho1.2.1))
    refine s33_8.mpr ?_
    simp only [s33_9, s33_10, s33_11, s33_12, s33_13, s33_14, s33_15, s33_16, s33_17, Option.toList_some, Option.toList_none, List.cons_append, List.nil_append, Nat.le_refl, true_and, and_true, true_or, or_true, false_or, or_false, true_implies, false_implies, implies_true, not_true_eq_false, not_false_eq_true, eq_self, Nat.reduceLT, Nat.reduceLeDiff, Nat.reduceEqDiff, Nat.reduceAdd, Nat.reduceSub, Int.reduceLT, Int.reduceLE, Int.reduceEq, Int.reduceNeg, Int.reduceNe, Int.reduceAdd, Int.reduceSub, Int.reduceMul, Int.reduceToNat, Int.toNat_zero, Int.toNat_one, Int.toNat_natCast, am_cats, am_cat, am_st1, am_st2, am_clr, up2_na, up2_nj, up2_same, List.getElem?_cons_zero, List.getElem?_cons_succ, List.set_cons_zero, List.set_cons_succ, ne_eq, tk_79 hh, xI_1, hL, u1]
    exact ⟨fun _ => W, fun z1 => ⟨fun _ => W, fun z2 => by omega⟩⟩
theorem crd3 (hx : xHyp T R I q L) (h2 : crP s q L T I J R cl A C r 2) : crP s q L T I J R cl A C (r + 1) 3 := by
  intro d o p n S V Q hd ho hr hp hn hQ
  obtain ⟨e, rfl⟩ : ∃ e, d = e + 1 := ⟨d - 1, by omega⟩
  obtain ⟨hh, hl, hL, hL2, hR, hR4, -⟩ := id hx
  have hq : 80 < q := hl.1
  have t0 := hl.2.2.1
  have u3 : q < 185 := by have := hl.2.1; omega
  show wpc codeT mX (e + 1) 46 _ _ _
  simp only [s46_0, s46_1, s46_2, e46, Option.toList_some, Option.toList_none, List.cons_append, List.nil_append, Nat.le_refl, true_and, and_true, true_or, or_true, false_or, or_false, true_implies, false_implies, implies_true, not_true_eq_false, not_false_eq_true, eq_self, Nat.reduceLT, Nat.reduceLeDiff, Nat.reduceEqDiff, Nat.reduceAdd, Nat.reduceSub, Int.reduceLT, Int.reduceLE, Int.reduceEq, Int.reduceNeg, Int.reduceNe, Int.reduceAdd, Int.reduceSub, Int.reduceMul, Int.reduceToNat, Int.toNat_zero, Int.toNat_one, Int.toNat_natCast, am_cats, am_cat, am_st1, am_st2, am_clr, up2_na, up2_nj, up2_same, List.getElem?_cons_zero, List.getElem?_cons_succ, List.set_cons_zero, List.set_cons_succ, ne_eq, tk_79 hh]
  refine h2 e o p n S V _ (by omega) (by omega) (by omega) (by omega) (by omega) (fun p1 n1 S1 V1 ho1 => ⟨⟨Nat.le_refl _, Nat.le_refl _⟩, ?_⟩)
  by_cases hf : (prsS (sgX I L) r 2 o p n).1 = 0
  · obtain ⟨b3, b4, b5, b6⟩ := ho1.2.2 hf
    obtain ⟨a1, a2, a3⟩ := rd_adv (sg := sgX I L) sgX_hs r 2 o p n hp hf
    have a3 := a3 (by decide)
    have p2 : p1 ≤ 160 := by omega
    have e0 : prsS (sgX I L) (r + 1) 3 o p n = rcat (prsS (sgX I L) r 2 o p n).2.2 (if cmS (sgX I L p1) = 0 then rbad 1 p1 else rsq (prsS (sgX I L) r 2 o (p1 + 1) n1) (fun p2 _ => (0, p2, [(cmS (sgX I L p1), 0)]))) := by
      rw [b3, b4]
      exact rsq_y (k := fun p1 m => if cmS (sgX I L p1) = 0 then rbad 1 p1 else rsq (prsS (sgX I L) r 2 o (p1 + 1) (n + m)) (fun p2 _ => (0, p2, [(cmS (sgX I L p1), 0)]))) hf
    rw [hf]
    by_cases hm : cmS (sgX I L p1) = 0
    · rw [if_pos hm] at e0
      rw [e0] at hQ
      have fin := hQ p1 n1 S1 V1 (OUT_bad (rbad_n (by decide)) ho1.1 ho1.2.1)
      obtain ⟨c1, c2, c3⟩ := cmS_z hm
      simp only [s46_3, s46_4, s46_5, s46_6, s46_7, s46_8, s46_9, s46_10, s46_11, s46_12, s46_13, s46_14, s46_31, s46_32, s46_33, s46_34, Option.toList_some, Option.toList_none, List.cons_append, List.nil_append, Nat.le_refl, true_and, and_true, true_or, or_true, false_or, or_false, true_implies, false_implies, implies_true, not_true_eq_false, not_false_eq_true, eq_self, Nat.reduceLT, Nat.reduceLeDiff, Nat.reduceEqDiff, Nat.reduceAdd, Nat.reduceSub, Int.reduceLT, Int.reduceLE, Int.reduceEq, Int.reduceNeg, Int.reduceNe, Int.reduceAdd, Int.reduceSub, Int.reduceMul, Int.reduceToNat, Int.toNat_zero, Int.toNat_one, Int.toNat_natCast, am_cats, am_cat, am_st1, am_st2, am_clr, up2_na, up2_nj, up2_same, List.getElem?_cons_zero, List.getElem?_cons_succ, List.set_cons_zero, List.set_cons_succ, ne_eq, tk_79 hh, k30 hh hq hL hL2 hR, k31 hh (by decide : (1 : Int) ≤ 1 ∧ (1 : Int) ≤ 9) p2, c1, c2, c3]
      exact fin
    · rw [if_neg hm] at e0
      obtain ⟨hs, hcc⟩ := cmS_n hm
      have hpL := sgX_lt (I := I) (L := L) (p := p1) (by omega)
      have W : wp codeT mX (e + 1) 46 15 [some (.inr (.inr (some 79))), some (.inl (o : Int)), some (.inl (sgX I L p1))] [] (185, s, T, xI I q (p1 : Int) 0 cl (n1 : Int) S1 V1 A C, J, R) Q := by
        refine s46_15.mpr ?_
        simp only [s46_16, s46_17, s46_18, s46_19, s46_20, s46_21, s46_22, s46_23, Option.toList_some, Option.toList_none, List.cons_append, List.nil_append, Nat.le_refl, true_and, and_true, true_or, or_true, false_or, or_false, true_implies, false_implies, implies_true, not_true_eq_false, not_false_eq_true, eq_self, Nat.reduceLT, Nat.reduceLeDiff, Nat.reduceEqDiff, Nat.reduceAdd, Nat.reduceSub, Int.reduceLT, Int.reduceLE, Int.reduceEq, Int.reduceNeg, Int.reduceNe, Int.reduceAdd, Int.reduceSub, Int.reduceMul, Int.reduceToNat, Int.toNat_zero, Int.toNat_one, Int.toNat_natCast, am_cats, am_cat, am_st1, am_st2, am_clr, up2_na, up2_nj, up2_same, List.getElem?_cons_zero, List.getElem?_cons_succ, List.set_cons_zero, List.set_cons_succ, ne_eq, tk_79 hh, xI_p, xu_p, w32_s (show p1 ≤ 1080 by omega)]
        refine h2 e o (p1 + 1) n1 S1 V1 _ (by omega) (by omega) (by omega) (by omega) (by omega) (fun p2 n2 S2 V2 ho2 => ⟨⟨Nat.le_refl _, Nat.le_refl _⟩, ?_⟩)
        by_cases hg : (prsS (sgX I L) r 2 o (p1 + 1) n1).1 = 0
        · obtain ⟨d3, d4, d5, d6⟩ := ho2.2.2 hg
          obtain ⟨f1, f2, f3⟩ := rd_adv (sg := sgX I L) sgX_hs r 2 o (p1 + 1) n1 (by omega) hg
          have n16 : n2 < 160 := by omega
          have e1 : prsS (sgX I L) (r + 1) 3 o p n = rcat (prsS (sgX I L) r 2 o p n).2.2 (rcat (prsS (sgX I L) r 2 o (p1 + 1) n1).2.2 (0, p2, [(cmS (sgX I L p1), 0)])) := by
            rw [e0, d3]
            exact congrArg _ (rsq_y hg)
          have o1 := OUT_one (L := L) (p := p2) (n := n2) (S := S2) (V := V2) (f := 0) (o := cmS (sgX I L p1)) (v := 0) ho2.1 n16
          have fin := OUT_cat hf ho1 (OUT_cat hg ho2 o1)
          rw [e1] at hQ
          have fin := hQ _ _ _ _ fin
          rw [hs] at fin
          rw [hg]
          simp only [s46_24, s46_25, s46_26, s46_27, s46_28, s46_29, s46_30, s46_34, Option.toList_some, Option.toList_none, List.cons_append, List.nil_append, Nat.le_refl, true_and, and_true, true_or, or_true, false_or, or_false, true_implies, false_implies, implies_true, not_true_eq_false, not_false_eq_true, eq_self, Nat.reduceLT, Nat.reduceLeDiff, Nat.reduceEqDiff, Nat.reduceAdd, Nat.reduceSub, Int.reduceLT, Int.reduceLE, Int.reduceEq, Int.reduceNeg, Int.reduceNe, Int.reduceAdd, Int.reduceSub, Int.reduceMul, Int.reduceToNat, Int.toNat_zero, Int.toNat_one, Int.toNat_natCast, am_cats, am_cat, am_st1, am_st2, am_clr, up2_na, up2_nj, up2_same, List.getElem?_cons_zero, List.getElem?_cons_succ, List.set_cons_zero, List.set_cons_succ, ne_eq, tk_79 hh, hR4, k37 hl n16, t0, u3]
          exact fin
        · have e1 : prsS (sgX I L) (r + 1) 3 o p n = rcat (prsS (sgX I L) r 2 o p n).2.2 (prsS (sgX I L) r 2 o (p1 + 1) n1) := by
            rw [e0]
            exact congrArg _ (rsq_n hg)
          rw [e1] at hQ
          by_cases n16 : n2 < 160
          · simp only [s46_24, s46_25, s46_26, s46_27, s46_28, s46_29, s46_30, s46_34, Option.toList_some, Option.toList_none, List.cons_append, List.nil_append, Nat.le_refl, true_and, and_true, true_or, or_true, false_or, or_false, true_implies, false_implies, implies_true, not_true_eq_false, not_false_eq_true, eq_self, Nat.reduceLT, Nat.reduceLeDiff, Nat.reduceEqDiff, Nat.reduceAdd, Nat.reduceSub, Int.reduceLT, Int.reduceLE, Int.reduceEq, Int.reduceNeg, Int.reduceNe, Int.reduceAdd, Int.reduceSub, Int.reduceMul, Int.reduceToNat, Int.toNat_zero, Int.toNat_one, Int.toNat_natCast, am_cats, am_cat, am_st1, am_st2, am_clr, up2_na, up2_nj, up2_same, List.getElem?_cons_zero, List.getElem?_cons_succ, List.set_cons_zero, List.set_cons_succ, ne_eq, tk_79 hh, hR4, k37 hl n16, t0, u3]
            exact hQ p2 (n2 + 1) _ _ (OUT_bad hg ho2.1 (by omega))
          · simp only [s46_24, s46_25, s46_26, s46_27, s46_28, s46_29, s46_30, s46_34, Option.toList_some, Option.toList_none, List.cons_append, List.nil_append, Nat.le_refl, true_and, and_true, true_or, or_true, false_or, or_false, true_implies, false_implies, implies_true, not_true_eq_false, not_false_eq_true, eq_self, Nat.reduceLT, Nat.reduceLeDiff, Nat.reduceEqDiff, Nat.reduceAdd, Nat.reduceSub, Int.reduceLT, Int.reduceLE, Int.reduceEq, Int.reduceNeg, Int.reduceNe, Int.reduceAdd, Int.reduceSub, Int.reduceMul, Int.reduceToNat, Int.toNat_zero, Int.toNat_one, Int.toNat_natCast, am_cats, am_cat, am_st1, am_st2, am_clr, up2_na, up2_nj, up2_same, List.getElem?_cons_zero, List.getElem?_cons_succ, List.set_cons_zero, List.set_cons_succ, ne_eq, tk_79 hh, hR4, k37f hl n16, t0, u3]
            exact hQ p2 n2 _ _ (OUT_bad hg ho2.1 ho2.2.1)
      simp only [s46_3, s46_4, s46_5, s46_6, s46_7, s46_8, s46_9, s46_10, s46_11, s46_12, s46_13, s46_14, Option.toList_some, Option.toList_none, List.cons_append, List.nil_append, Nat.le_refl, true_and, and_true, true_or, or_true, false_or, or_false, true_implies, false_implies, implies_true, not_true_eq_false, not_false_eq_true, eq_self, Nat.reduceLT, Nat.reduceLeDiff, Nat.reduceEqDiff, Nat.reduceAdd, Nat.reduceSub, Int.reduceLT, Int.reduceLE, Int.reduceEq, Int.reduceNeg, Int.reduceNe, Int.reduceAdd, Int.reduceSub, Int.reduceMul, Int.reduceToNat, Int.toNat_zero, Int.toNat_one, Int.toNat_natCast, am_cats, am_cat, am_st1, am_st2, am_clr, up2_na, up2_nj, up2_same, List.getElem?_cons_zero, List.getElem?_cons_succ, List.set_cons_zero, List.set_cons_succ, ne_eq, tk_79 hh, k30 hh hq hL hL2 hR]
      exact ⟨fun _ => W, fun z1 => ⟨fun _ => W, fun z2 => ⟨fun _ => W, fun z3 => by omega⟩⟩⟩
  · have e1 : prsS (sgX I L) (r + 1) 3 o p n = prsS (sgX I L) r 2 o p n := rsq_n (k := fun p1 m => if cmS (sgX I L p1) = 0 then rbad 1 p1 else rsq (prsS (sgX I L) r 2 o (p1 + 1) (n + m)) (fun p2 _ => (0, p2, [(cmS (sgX I L p1), 0)]))) hf
    rw [e1] at hQ
    have fin := hQ p1 n1 S1 V1 ho1
    simp only [s46_3, s46_4, s46_5, s46_6, s46_7, s46_8, s46_9, s46_10, s46_11, s46_12, s46_13, s46_14, s46_31, s46_32, s46_33, s46_34, Option.toList_some, Option.toList_none, List.cons_append, List.nil_append, Nat.le_refl, true_and, and_true, true_or, or_true, false_or, or_false, true_implies, false_implies, implies_true, not_true_eq_false, not_false_eq_true, eq_self, Nat.reduceLT, Nat.reduceLeDiff, Nat.reduceEqDiff, Nat.reduceAdd, Nat.reduceSub, Int.reduceLT, Int.reduceLE, Int.reduceEq, Int.reduceNeg, Int.reduceNe, Int.reduceAdd, Int.reduceSub, Int.reduceMul, Int.reduceToNat, Int.toNat_zero, Int.toNat_one, Int.toNat_natCast, am_cats, am_cat, am_st1, am_st2, am_clr, up2_na, up2_nj, up2_same, List.getElem?_cons_zero, List.getElem?_cons_succ, List.set_cons_zero, List.set_cons_succ, ne_eq, tk_79 hh, k30f hh hf, k31f hh hf]
    exact fin
theorem crd4 (hx : xHyp T R I q L) (h3 : crP s q L T I J R cl A C r 3) (h4 : crP s q L T I J R cl A C r 4) (h6 : crP s q L T I J R cl A C r 6) : crP s q L T I J R cl A C (r + 1) 4 := by
  intro d o p n S V Q hd ho hr hp hn hQ
  obtain ⟨e, rfl⟩ : ∃ e, d = e + 3 := ⟨d - 3, by omega⟩
  have hlt := fun h => sgX_lt (I := I) (L := L) (p := p) h
  obtain ⟨hh, hl, hL, hL2, hR, hR4, -⟩ := id hx
  have hq : 80 < q := hl.1
  have t0 := hl.2.2.1
  have u3 : q < 185 := by have := hl.2.1; omega
  have p2 : p ≤ 160 := by omega
  have e0 : prsS (sgX I L) (r + 1) 4 o p n = (if sgX I L p = 33 then (if 6 ≤ o then rbad 5 p else rsq (prsS (sgX I L) r 4 (o + 1) (p + 1) n) (fun p' _ => (0, p', [(10, 0)]))) else if sgX I L p = 40 then (if 6 ≤ o then rbad 5 p else rend 41 (sgX I L) (prsS (sgX I L) r 6 (o + 1) (p + 1) n)) else prsS (sgX I L) r 3 o p n) := rfl
  show wpc codeT mX (e + 3) 43 _ _ _
  by_cases h33 : sgX I L p = 33
  · rw [if_pos h33] at e0
    have hpL := hlt (by rw [h33]; decide)
    by_cases ho6 : 6 ≤ o
    · rw [if_pos ho6] at e0
      rw [e0] at hQ
      have fin := hQ p n S V (OUT_bad (rbad_n (by decide)) hp (by omega))
      simp only [s43_0, s43_1, s43_2, s43_3, s43_4, s43_5, s43_6, s43_7, s43_8, s43_9, s43_20, s44_0, s44_1, s44_2, s44_3, s44_15, e43, e44, Option.toList_some, Option.toList_none, List.cons_append, List.nil_append, Nat.le_refl, true_and, and_true, true_or, or_true, false_or, or_false, true_implies, false_implies, implies_true, not_true_eq_false, not_false_eq_true, eq_self, Nat.reduceLT, Nat.reduceLeDiff, Nat.reduceEqDiff, Nat.reduceAdd, Nat.reduceSub, Int.reduceLT, Int.reduceLE, Int.reduceEq, Int.reduceNeg, Int.reduceNe, Int.reduceAdd, Int.reduceSub, Int.reduceMul, Int.reduceToNat, Int.toNat_zero, Int.toNat_one, Int.toNat_natCast, am_cats, am_cat, am_st1, am_st2, am_clr, up2_na, up2_nj, up2_same, List.getElem?_cons_zero, List.getElem?_cons_succ, List.set_cons_zero, List.set_cons_succ, ne_eq, tk_79 hh, k30 hh hq hL hL2 hR, h33, k36n hh ho6 p2]
      exact fin
    · rw [if_neg ho6] at e0
      simp only [s43_0, s43_1, s43_2, s43_3, s43_4, s43_5, s43_6, s43_7, s43_8, s43_9, e43, Option.toList_some, Option.toList_none, List.cons_append, List.nil_append, Nat.le_refl, true_and, and_true, true_or, or_true, false_or, or_false, true_implies, false_implies, implies_true, not_true_eq_false, not_false_eq_true, eq_self, Nat.reduceLT, Nat.reduceLeDiff, Nat.reduceEqDiff, Nat.reduceAdd, Nat.reduceSub, Int.reduceLT, Int.reduceLE, Int.reduceEq, Int.reduceNeg, Int.reduceNe, Int.reduceAdd, Int.reduceSub, Int.reduceMul, Int.reduceToNat, Int.toNat_zero, Int.toNat_one, Int.toNat_natCast, am_cats, am_cat, am_st1, am_st2, am_clr, up2_na, up2_nj, up2_same, List.getElem?_cons_zero, List.getElem?_cons_succ, List.set_cons_zero, List.set_cons_succ, ne_eq, tk_79 hh, k30 hh hq hL hL2 hR, h33]
      simp only [s44_0, s44_1, s44_2, s44_3, s44_4, s44_5, s44_6, s44_7, s44_8, e44, Option.toList_some, Option.toList_none, List.cons_append, List.nil_append, Nat.le_refl, true_and, and_true, true_or, or_true, false_or, or_false, true_implies, false_implies, implies_true, not_true_eq_false, not_false_eq_true, eq_self, Nat.reduceLT, Nat.reduceLeDiff, Nat.reduceEqDiff, Nat.reduceAdd, Nat.reduceSub, Int.reduceLT, Int.reduceLE, Int.reduceEq, Int.reduceNeg, Int.reduceNe, Int.reduceAdd, Int.reduceSub, Int.reduceMul, Int.reduceToNat, Int.toNat_zero, Int.toNat_one, Int.toNat_natCast, am_cats, am_cat, am_st1, am_st2, am_clr, up2_na, up2_nj, up2_same, List.getElem?_cons_zero, List.getElem?_cons_succ, List.set_cons_zero, List.set_cons_succ, ne_eq, tk_79 hh, k36y hh ho6 p2, w32_s (show o ≤ 1080 by omega)]
      refine h4 (e + 1) (o + 1) (p + 1) n S V _ (by omega) (by omega) (by omega) (by omega) (by omega) (fun p1 n1 S1 V1 ho1 => ⟨⟨Nat.le_refl _, Nat.le_refl _⟩, ?_⟩)
      by_cases hf : (prsS (sgX I L) r 4 (o + 1) (p + 1) n).1 = 0
      · obtain ⟨b3, b4, b5, b6⟩ := ho1.2.2 hf
        obtain ⟨a1, a2, a3⟩ := rd_adv (sg := sgX I L) sgX_hs r 4 (o + 1) (p + 1) n (by omega) hf
        have n16 : n1 < 160 := by omega
        have e1 : prsS (sgX I L) (r + 1) 4 o p n = rcat (prsS (sgX I L) r 4 (o + 1) (p + 1) n).2.2 (0, p1, [(10, 0)]) := by
          rw [e0, b3]
          exact rsq_y hf
        rw [e1] at hQ
        have fin := hQ _ _ _ _ (OUT_cat hf ho1 (OUT_one (o := 10) (v := 0) (f := 0) ho1.1 n16))
        rw [hf]
        simp only [s44_9, s44_10, s44_11, s44_12, s44_13, s44_14, s44_15, s43_9, s43_20, Option.toList_some, Option.toList_none, List.cons_append, List.nil_append, Nat.le_refl, true_and, and_true, true_or, or_true, false_or, or_false, true_implies, false_implies, implies_true, not_true_eq_false, not_false_eq_true, eq_self, Nat.reduceLT, Nat.reduceLeDiff, Nat.reduceEqDiff, Nat.reduceAdd, Nat.reduceSub, Int.reduceLT, Int.reduceLE, Int.reduceEq, Int.reduceNeg, Int.reduceNe, Int.reduceAdd, Int.reduceSub, Int.reduceMul, Int.reduceToNat, Int.toNat_zero, Int.toNat_one, Int.toNat_natCast, am_cats, am_cat, am_st1, am_st2, am_clr, up2_na, up2_nj, up2_same, List.getElem?_cons_zero, List.getElem?_cons_succ, List.set_cons_zero, List.set_cons_succ, ne_eq, tk_79 hh, hR4, k37 hl n16, t0, u3]
        exact fin
      · have e1 : prsS (sgX I L) (r + 1) 4 o p n = prsS (sgX I L) r 4 (o + 1) (p + 1) n := e0.trans (rsq_n hf)
        rw [e1] at hQ
        by_cases n16 : n1 < 160
        · simp only [s44_9, s44_10, s44_11, s44_12, s44_13, s44_14, s44_15, s43_9, s43_20, Option.toList_some, Option.toList_none, List.cons_append, List.nil_append, Nat.le_refl, true_and, and_true, true_or, or_true, false_or, or_false, true_implies, false_implies, implies_true, not_true_eq_false, not_false_eq_true, eq_self, Nat.reduceLT, Nat.reduceLeDiff, Nat.reduceEqDiff, Nat.reduceAdd, Nat.reduceSub, Int.reduceLT, Int.reduceLE, Int.reduceEq, Int.reduceNeg, Int.reduceNe, Int.reduceAdd, Int.reduceSub, Int.reduceMul, Int.reduceToNat, Int.toNat_zero, Int.toNat_one, Int.toNat_natCast, am_cats, am_cat, am_st1, am_st2, am_clr, up2_na, up2_nj, up2_same, List.getElem?_cons_zero, List.getElem?_cons_succ, List.set_cons_zero, List.set_cons_succ, ne_eq, tk_79 hh, hR4, k37 hl n16, t0, u3]
          exact hQ p1 (n1 + 1) _ _ (OUT_bad hf ho1.1 (by omega))
        · simp only [s44_9, s44_10, s44_11, s44_12, s44_13, s44_14, s44_15, s43_9, s43_20, Option.toList_some, Option.toList_none, List.cons_append, List.nil_append, Nat.le_refl, true_and, and_true, true_or, or_true, false_or, or_false, true_implies, false_implies, implies_true, not_true_eq_false, not_false_eq_true, eq_self, Nat.reduceLT, Nat.reduceLeDiff, Nat.reduceEqDiff, Nat.reduceAdd, Nat.reduceSub, Int.reduceLT, Int.reduceLE, Int.reduceEq, Int.reduceNeg, Int.reduceNe, Int.reduceAdd, Int.reduceSub, Int.reduceMul, Int.reduceToNat, Int.toNat_zero, Int.toNat_one, Int.toNat_natCast, am_cats, am_cat, am_st1, am_st2, am_clr, up2_na, up2_nj, up2_same, List.getElem?_cons_zero, List.getElem?_cons_succ, List.set_cons_zero, List.set_cons_succ, ne_eq, tk_79 hh, hR4, k37f hl n16, t0, u3]
          exact hQ p1 n1 _ _ (OUT_bad hf ho1.1 ho1.2.1)
  rw [if_neg h33] at e0
  by_cases h40 : sgX I L p = 40
  · rw [if_pos h40] at e0
    have hpL := hlt (by rw [h40]; decide)
    by_cases ho6 : 6 ≤ o
    · rw [if_pos ho6] at e0
      rw [e0] at hQ
      have fin := hQ p n S V (OUT_bad (rbad_n (by decide)) hp (by omega))
      simp only [s43_0, s43_1, s43_2, s43_3, s43_4, s43_5, s43_10, s43_11, s43_12, s43_13, s43_14, s43_15, s43_16, s43_20, s45_0, s45_1, s45_2, s45_3, s45_12, e43, e45, Option.toList_some, Option.toList_none, List.cons_append, List.nil_append, Nat.le_refl, true_and, and_true, true_or, or_true, false_or, or_false, true_implies, false_implies, implies_true, not_true_eq_false, not_false_eq_true, eq_self, Nat.reduceLT, Nat.reduceLeDiff, Nat.reduceEqDiff, Nat.reduceAdd, Nat.reduceSub, Int.reduceLT, Int.reduceLE, Int.reduceEq, Int.reduceNeg, Int.reduceNe, Int.reduceAdd, Int.reduceSub, Int.reduceMul, Int.reduceToNat, Int.toNat_zero, Int.toNat_one, Int.toNat_natCast, am_cats, am_cat, am_st1, am_st2, am_clr, up2_na, up2_nj, up2_same, List.getElem?_cons_zero, List.getElem?_cons_succ, List.set_cons_zero, List.set_cons_succ, ne_eq, tk_79 hh, k30 hh hq hL hL2 hR, h40, k36n hh ho6 p2]
      exact fin
    · rw [if_neg ho6] at e0
      simp only [s43_0, s43_1, s43_2, s43_3, s43_4, s43_5, s43_10, s43_11, s43_12, s43_13, s43_14, s43_15, s43_16, s45_0, s45_1, s45_2, s45_3, s45_4, s45_5, s45_6, s45_7, s45_8, e43, e45, Option.toList_some, Option.toList_none, List.cons_append, List.nil_append, Nat.le_refl, true_and, and_true, true_or, or_true, false_or, or_false, true_implies, false_implies, implies_true, not_true_eq_false, not_false_eq_true, eq_self, Nat.reduceLT, Nat.reduceLeDiff, Nat.reduceEqDiff, Nat.reduceAdd, Nat.reduceSub, Int.reduceLT, Int.reduceLE, Int.reduceEq, Int.reduceNeg, Int.reduceNe, Int.reduceAdd, Int.reduceSub, Int.reduceMul, Int.reduceToNat, Int.toNat_zero, Int.toNat_one, Int.toNat_natCast, am_cats, am_cat, am_st1, am_st2, am_clr, up2_na, up2_nj, up2_same, List.getElem?_cons_zero, List.getElem?_cons_succ, List.set_cons_zero, List.set_cons_succ, ne_eq, tk_79 hh, k30 hh hq hL hL2 hR, h40, k36y hh ho6 p2, w32_s (show o ≤ 1080 by omega)]
      refine h6 (e + 1) (o + 1) (p + 1) n S V _ (by omega) (by omega) (by omega) (by omega) (by omega) (fun p1 n1 S1 V1 ho1 => ⟨⟨Nat.le_refl _, Nat.le_refl _⟩, ?_⟩)
      by_cases hf : (prsS (sgX I L) r 6 (o + 1) (p + 1) n).1 = 0
      · obtain ⟨b0, b1, b2⟩ := ho1
        obtain ⟨b3, b4, b5, b6⟩ := b2 hf
        subst b3
        rw [hf]
        by_cases h41 : sgX I L (prsS (sgX I L) r 6 (o + 1) (p + 1) n).2.1 = 41
        · have q1 := sgX_lt (I := I) (L := L) (show ¬ sgX I L (prsS (sgX I L) r 6 (o + 1) (p + 1) n).2.1 = -1 by rw [h41]; decide)
          have e1 : prsS (sgX I L) (r + 1) 4 o p n = (0, (prsS (sgX I L) r 6 (o + 1) (p + 1) n).2.1 + 1, (prsS (sgX I L) r 6 (o + 1) (p + 1) n).2.2) := by
            rw [e0]
            unfold rend
            rw [if_pos hf, if_pos h41]
          rw [e1] at hQ
          have fin := hQ ((prsS (sgX I L) r 6 (o + 1) (p + 1) n).2.1 + 1) n1 S1 V1 ⟨by omega, b1, fun _ => ⟨rfl, b4, b5, b6⟩⟩
          simp only [s45_9, s45_10, s45_11, s45_12, s43_16, s43_20, Option.toList_some, Option.toList_none, List.cons_append, List.nil_append, Nat.le_refl, true_and, and_true, true_or, or_true, false_or, or_false, true_implies, false_implies, implies_true, not_true_eq_false, not_false_eq_true, eq_self, Nat.reduceLT, Nat.reduceLeDiff, Nat.reduceEqDiff, Nat.reduceAdd, Nat.reduceSub, Int.reduceLT, Int.reduceLE, Int.reduceEq, Int.reduceNeg, Int.reduceNe, Int.reduceAdd, Int.reduceSub, Int.reduceMul, Int.reduceToNat, Int.toNat_zero, Int.toNat_one, Int.toNat_natCast, am_cats, am_cat, am_st1, am_st2, am_clr, up2_na, up2_nj, up2_same, List.getElem?_cons_zero, List.getElem?_cons_succ, List.set_cons_zero, List.set_cons_succ, ne_eq, tk_79 hh, k32y hh hq hL hL2 hR h41 q1]
          exact fin
        · have e1 : prsS (sgX I L) (r + 1) 4 o p n = rbad 1 (prsS (sgX I L) r 6 (o + 1) (p + 1) n).2.1 := by
            rw [e0]
            unfold rend
            rw [if_pos hf, if_neg h41]
          rw [e1] at hQ
          have fin := hQ (prsS (sgX I L) r 6 (o + 1) (p + 1) n).2.1 n1 S1 V1 (OUT_bad (rbad_n (by decide)) b0 b1)
          simp only [s45_9, s45_10, s45_11, s45_12, s43_16, s43_20, Option.toList_some, Option.toList_none, List.cons_append, List.nil_append, Nat.le_refl, true_and, and_true, true_or, or_true, false_or, or_false, true_implies, false_implies, implies_true, not_true_eq_false, not_false_eq_true, eq_self, Nat.reduceLT, Nat.reduceLeDiff, Nat.reduceEqDiff, Nat.reduceAdd, Nat.reduceSub, Int.reduceLT, Int.reduceLE, Int.reduceEq, Int.reduceNeg, Int.reduceNe, Int.reduceAdd, Int.reduceSub, Int.reduceMul, Int.reduceToNat, Int.toNat_zero, Int.toNat_one, Int.toNat_natCast, am_cats, am_cat, am_st1, am_st2, am_clr, up2_na, up2_nj, up2_same, List.getElem?_cons_zero, List.getElem?_cons_succ, List.set_cons_zero, List.set_cons_succ, ne_eq, tk_79 hh, k32n hh hq hL hL2 hR h41 b0]
          exact fin
      · have e1 : prsS (sgX I L) (r + 1) 4 o p n = prsS (sgX I L) r 6 (o + 1) (p + 1) n := by
          rw [e0]
          unfold rend
          rw [if_neg hf]
        rw [e1] at hQ
        have fin := hQ p1 n1 S1 V1 ho1
        simp only [s45_9, s45_10, s45_11, s45_12, s43_16, s43_20, Option.toList_some, Option.toList_none, List.cons_append, List.nil_append, Nat.le_refl, true_and, and_true, true_or, or_true, false_or, or_false, true_implies, false_implies, implies_true, not_true_eq_false, not_false_eq_true, eq_self, Nat.reduceLT, Nat.reduceLeDiff, Nat.reduceEqDiff, Nat.reduceAdd, Nat.reduceSub, Int.reduceLT, Int.reduceLE, Int.reduceEq, Int.reduceNeg, Int.reduceNe, Int.reduceAdd, Int.reduceSub, Int.reduceMul, Int.reduceToNat, Int.toNat_zero, Int.toNat_one, Int.toNat_natCast, am_cats, am_cat, am_st1, am_st2, am_clr, up2_na, up2_nj, up2_same, List.getElem?_cons_zero, List.getElem?_cons_succ, List.set_cons_zero, List.set_cons_succ, ne_eq, tk_79 hh, k32f hh hf (by decide : ¬ (-1 : Int) = 41)]
        exact fin
  rw [if_neg h40] at e0
  simp only [s43_0, s43_1, s43_2, s43_3, s43_4, s43_5, s43_10, s43_11, s43_12, s43_17, s43_18, s43_19, e43, Option.toList_some, Option.toList_none, List.cons_append, List.nil_append, Nat.le_refl, true_and, and_true, true_or, or_true, false_or, or_false, true_implies, false_implies, implies_true, not_true_eq_false, not_false_eq_true, eq_self, Nat.reduceLT, Nat.reduceLeDiff, Nat.reduceEqDiff, Nat.reduceAdd, Nat.reduceSub, Int.reduceLT, Int.reduceLE, Int.reduceEq, Int.reduceNeg, Int.reduceNe, Int.reduceAdd, Int.reduceSub, Int.reduceMul, Int.reduceToNat, Int.toNat_zero, Int.toNat_one, Int.toNat_natCast, am_cats, am_cat, am_st1, am_st2, am_clr, up2_na, up2_nj, up2_same, List.getElem?_cons_zero, List.getElem?_cons_succ, List.set_cons_zero, List.set_cons_succ, ne_eq, tk_79 hh, k30 hh hq hL hL2 hR, h33, h40]
  refine h3 (e + 2) o p n S V _ (by omega) (by omega) (by omega) (by omega) (by omega) (fun p1 n1 S1 V1 ho1 => ⟨⟨Nat.le_refl _, Nat.le_refl _⟩, ?_⟩)
  rw [e0] at hQ
  have fin := hQ p1 n1 S1 V1 ho1
  simp only [s43_20, Option.toList_some, Option.toList_none, List.cons_append, List.nil_append, Nat.le_refl, true_and, and_true, true_or, or_true, false_or, or_false, true_implies, false_implies, implies_true, not_true_eq_false, not_false_eq_true, eq_self, Nat.reduceLT, Nat.reduceLeDiff, Nat.reduceEqDiff, Nat.reduceAdd, Nat.reduceSub, Int.reduceLT, Int.reduceLE, Int.reduceEq, Int.reduceNeg, Int.reduceNe, Int.reduceAdd, Int.reduceSub, Int.reduceMul, Int.reduceToNat, Int.toNat_zero, Int.toNat_one, Int.toNat_natCast, am_cats, am_cat, am_st1, am_st2, am_clr, up2_na, up2_nj, up2_same, List.getElem?_cons_zero, List.getElem?_cons_succ, List.set_cons_zero, List.set_cons_succ, ne_eq]
  exact fin
theorem crd5 (hx : xHyp T R I q L) (h4 : crP s q L T I J R cl A C r 4) (h9 : lpS9 s q L T I J R cl A C r) : crP s q L T I J R cl A C (r + 1) 5 := by
  intro d o p n S V Q hd ho hr hp hn hQ
  obtain ⟨e, rfl⟩ : ∃ e, d = e + 2 := ⟨d - 2, by omega⟩
  obtain ⟨hh, hl, hL, hL2, hR, hR4, -⟩ := id hx
  have hq : 80 < q := hl.1
  show wpc codeT mX (e + 2) 42 _ _ _
  simp only [s42_0, s42_1, s42_2, e42, Option.toList_some, Option.toList_none, List.cons_append, List.nil_append, Nat.le_refl, true_and, and_true, true_or, or_true, false_or, or_false, true_implies, false_implies, implies_true, not_true_eq_false, not_false_eq_true, eq_self, Nat.reduceLT, Nat.reduceLeDiff, Nat.reduceEqDiff, Nat.reduceAdd, Nat.reduceSub, Int.reduceLT, Int.reduceLE, Int.reduceEq, Int.reduceNeg, Int.reduceNe, Int.reduceAdd, Int.reduceSub, Int.reduceMul, Int.reduceToNat, Int.toNat_zero, Int.toNat_one, Int.toNat_natCast, am_cats, am_cat, am_st1, am_st2, am_clr, up2_na, up2_nj, up2_same, List.getElem?_cons_zero, List.getElem?_cons_succ, List.set_cons_zero, List.set_cons_succ, ne_eq, tk_79 hh]
  refine h4 (e + 1) o p n S V _ (by omega) (by omega) (by omega) (by omega) (by omega) (fun p1 n1 S1 V1 ho1 => ⟨⟨Nat.le_refl _, Nat.le_refl _⟩, ?_⟩)
  by_cases hf : (prsS (sgX I L) r 4 o p n).1 = 0
  · obtain ⟨b3, b4, b5, b6⟩ := ho1.2.2 hf
    obtain ⟨a1, a2, a3⟩ := rd_adv (sg := sgX I L) sgX_hs r 4 o p n hp hf
    have a3 := a3 (by decide)
    have e1 : prsS (sgX I L) (r + 1) 5 o p n = rcat (prsS (sgX I L) r 4 o p n).2.2 (prsS (sgX I L) r 9 o p1 n1) := by
      rw [b3, b4]
      exact rsq_y (k := fun p' m => prsS (sgX I L) r 9 o p' (n + m)) hf
    rw [hf]
    simp only [s42_3, s42_4, Option.toList_some, Option.toList_none, List.cons_append, List.nil_append, Nat.le_refl, true_and, and_true, true_or, or_true, false_or, or_false, true_implies, false_implies, implies_true, not_true_eq_false, not_false_eq_true, eq_self, Nat.reduceLT, Nat.reduceLeDiff, Nat.reduceEqDiff, Nat.reduceAdd, Nat.reduceSub, Int.reduceLT, Int.reduceLE, Int.reduceEq, Int.reduceNeg, Int.reduceNe, Int.reduceAdd, Int.reduceSub, Int.reduceMul, Int.reduceToNat, Int.toNat_zero, Int.toNat_one, Int.toNat_natCast, am_cats, am_cat, am_st1, am_st2, am_clr, up2_na, up2_nj, up2_same, List.getElem?_cons_zero, List.getElem?_cons_succ, List.set_cons_zero, List.set_cons_succ, ne_eq]
    refine h9 (e + 1) o p1 n1 0 S1 V1 none Q (by omega) ho (by omega) (by omega) (by omega) (by omega) (fun p2 n2 S2 V2 ho2 => ?_)
    rw [e1] at hQ
    exact hQ p2 n2 S2 V2 (OUT_cat hf ho1 ho2)
  · have e1 : prsS (sgX I L) (r + 1) 5 o p n = prsS (sgX I L) r 4 o p n := rsq_n (k := fun p' m => prsS (sgX I L) r 9 o p' (n + m)) hf
    rw [e1] at hQ
    simp only [s42_3, s42_4, Option.toList_some, Option.toList_none, List.cons_append, List.nil_append, Nat.le_refl, true_and, and_true, true_or, or_true, false_or, or_false, true_implies, false_implies, implies_true, not_true_eq_false, not_false_eq_true, eq_self, Nat.reduceLT, Nat.reduceLeDiff, Nat.reduceEqDiff, Nat.reduceAdd, Nat.reduceSub, Int.reduceLT, Int.reduceLE, Int.reduceEq, Int.reduceNeg, Int.reduceNe, Int.reduceAdd, Int.reduceSub, Int.reduceMul, Int.reduceToNat, Int.toNat_zero, Int.toNat_one, Int.toNat_natCast, am_cats, am_cat, am_st1, am_st2, am_clr, up2_na, up2_nj, up2_same, List.getElem?_cons_zero, List.getElem?_cons_succ, List.set_cons_zero, List.set_cons_succ, ne_eq]
    exact x42f hx hf (hQ p1 n1 S1 V1 ho1)
theorem crd9 (hx : xHyp T R I q L) (h4 : crP s q L T I J R cl A C r 4) (h9 : lpS9 s q L T I J R cl A C r) : lpS9 s q L T I J R cl A C (r + 1) := by
  intro d o p n i S V l3 Q hd ho hr hp hn hi hQ
  obtain ⟨e, rfl⟩ : ∃ e, d = e + 1 := ⟨d - 1, by omega⟩
  have hlt := fun h => sgX_lt (I := I) (L := L) (p := p) h
  obtain ⟨hh, hl, hL, hL2, hR, hR4, -⟩ := id hx
  have hq : 80 < q := hl.1
  have t0 := hl.2.2.1
  have u3 : q < 185 := by have := hl.2.1; omega
  by_cases hm : sgX I L p = 38
  · have hpL := hlt (by rw [hm]; decide)
    have e0 : prsS (sgX I L) (r + 1) 9 o p n = rlop 11 n (prsS (sgX I L) r 4 o (p + 1) (n + 1)) (fun p' m => prsS (sgX I L) r 9 o p' m) := if_pos hm
    have u1 : (i : Int) < (L : Int) := by omega
    have n16 : n < 160 := by omega
    refine s42_5.mpr ?_
    simp only [s42_6, s42_7, s42_8, s42_9, s42_10, s42_11, s42_12, s42_13, s42_14, s42_15, s42_16, s42_17, s42_18, s42_19, s42_20, s42_21, s42_22, s42_23, s42_24, s42_25, s42_26, s42_27, Option.toList_some, Option.toList_none, List.cons_append, List.nil_append, Nat.le_refl, true_and, and_true, true_or, or_true, false_or, or_false, true_implies, false_implies, implies_true, not_true_eq_false, not_false_eq_true, eq_self, Nat.reduceLT, Nat.reduceLeDiff, Nat.reduceEqDiff, Nat.reduceAdd, Nat.reduceSub, Int.reduceLT, Int.reduceLE, Int.reduceEq, Int.reduceNeg, Int.reduceNe, Int.reduceAdd, Int.reduceSub, Int.reduceMul, Int.reduceToNat, Int.toNat_zero, Int.toNat_one, Int.toNat_natCast, am_cats, am_cat, am_st1, am_st2, am_clr, up2_na, up2_nj, up2_same, List.getElem?_cons_zero, List.getElem?_cons_succ, List.set_cons_zero, List.set_cons_succ, ne_eq, tk_79 hh, xI_1, hL, u1, k30 hh hq hL hL2 hR, hm, xI_p, xu_p, w32_s (show p ≤ 1080 by omega), hR4, k37 hl n16, t0, u3]
    refine h4 (e + 1) o (p + 1) (n + 1) _ _ _ (by omega) (by omega) (by omega) (by omega) (by omega) (fun p1 n1 S1 V1 ho1 => ⟨⟨Nat.le_refl _, Nat.le_refl _⟩, ?_⟩)
    by_cases hf : (prsS (sgX I L) r 4 o (p + 1) (n + 1)).1 = 0
    · obtain ⟨b3, b4, b5, b6⟩ := ho1.2.2 hf
      obtain ⟨a1, a2, a3⟩ := rd_adv (sg := sgX I L) sgX_hs r 4 o (p + 1) (n + 1) (by omega) hf
      have a3 := a3 (by decide)
      have nn : n < n1 := by omega
      have e1 : prsS (sgX I L) (r + 1) 9 o p n = rcat ((11, (n1 : Int)) :: (prsS (sgX I L) r 4 o (p + 1) (n + 1)).2.2) (prsS (sgX I L) r 9 o p1 n1) := by
        rw [e0]
        unfold rlop
        rw [if_pos hf, b3, b4]
      have o1 := OUT_lop (op := 11) hf (show sgn 11 = 38 by decide) ho1
      rw [hf]
      simp only [s42_28, s42_29, s42_30, s42_31, s42_32, s42_33, Option.toList_some, Option.toList_none, List.cons_append, List.nil_append, Nat.le_refl, true_and, and_true, true_or, or_true, false_or, or_false, true_implies, false_implies, implies_true, not_true_eq_false, not_false_eq_true, eq_self, Nat.reduceLT, Nat.reduceLeDiff, Nat.reduceEqDiff, Nat.reduceAdd, Nat.reduceSub, Int.reduceLT, Int.reduceLE, Int.reduceEq, Int.reduceNeg, Int.reduceNe, Int.reduceAdd, Int.reduceSub, Int.reduceMul, Int.reduceToNat, Int.toNat_zero, Int.toNat_one, Int.toNat_natCast, am_cats, am_cat, am_st1, am_st2, am_clr, up2_na, up2_nj, up2_same, List.getElem?_cons_zero, List.getElem?_cons_succ, List.set_cons_zero, List.set_cons_succ, ne_eq, tk_79 hh, hR4, k47 hl ho1.2.1 nn, w32_s (show i ≤ 1080 by omega), t0, u3]
      refine h9 (e + 1) o p1 n1 (i + 1) _ _ _ Q (by omega) ho (by omega) (by omega) (by omega) (by omega) (fun p2 n2 S2 V2 ho2 => ?_)
      rw [e1] at hQ
      exact hQ p2 n2 S2 V2 (OUT_cat (a := (0, (prsS (sgX I L) r 4 o (p + 1) (n + 1)).2.1, (11, (n1 : Int)) :: (prsS (sgX I L) r 4 o (p + 1) (n + 1)).2.2)) rfl o1 ho2)
    · have e1 : prsS (sgX I L) (r + 1) 9 o p n = prsS (sgX I L) r 4 o (p + 1) (n + 1) := by
        rw [e0]
        unfold rlop
        rw [if_neg hf]
      rw [e1] at hQ
      by_cases nn : n < n1
      · simp only [s42_28, s42_29, s42_30, s42_31, s42_32, s42_33, Option.toList_some, Option.toList_none, List.cons_append, List.nil_append, Nat.le_refl, true_and, and_true, true_or, or_true, false_or, or_false, true_implies, false_implies, implies_true, not_true_eq_false, not_false_eq_true, eq_self, Nat.reduceLT, Nat.reduceLeDiff, Nat.reduceEqDiff, Nat.reduceAdd, Nat.reduceSub, Int.reduceLT, Int.reduceLE, Int.reduceEq, Int.reduceNeg, Int.reduceNe, Int.reduceAdd, Int.reduceSub, Int.reduceMul, Int.reduceToNat, Int.toNat_zero, Int.toNat_one, Int.toNat_natCast, am_cats, am_cat, am_st1, am_st2, am_clr, up2_na, up2_nj, up2_same, List.getElem?_cons_zero, List.getElem?_cons_succ, List.set_cons_zero, List.set_cons_succ, ne_eq, tk_79 hh, hR4, k47 hl ho1.2.1 nn, w32_s (show i ≤ 1080 by omega), t0, u3]
        exact x42f hx hf (hQ p1 n1 _ _ (OUT_bad hf ho1.1 ho1.2.1))
      · simp only [s42_28, s42_29, s42_30, s42_31, s42_32, s42_33, Option.toList_some, Option.toList_none, List.cons_append, List.nil_append, Nat.le_refl, true_and, and_true, true_or, or_true, false_or, or_false, true_implies, false_implies, implies_true, not_true_eq_false, not_false_eq_true, eq_self, Nat.reduceLT, Nat.reduceLeDiff, Nat.reduceEqDiff, Nat.reduceAdd, Nat.reduceSub, Int.reduceLT, Int.reduceLE, Int.reduceEq, Int.reduceNeg, Int.reduceNe, Int.reduceAdd, Int.reduceSub, Int.reduceMul, Int.reduceToNat, Int.toNat_zero, Int.toNat_one, Int.toNat_natCast, am_cats, am_cat, am_st1, am_st2, am_clr, up2_na, up2_nj, up2_same, List.getElem?_cons_zero, List.getElem?_cons_succ, List.set_cons_zero, List.set_cons_succ, ne_eq, tk_79 hh, hR4, k47f hl (show (n : Int) < 0 ∨ (n1 : Int) ≤ (n : Int) by omega), w32_s (show i ≤ 1080 by omega), t0, u3]
        exact x42f hx hf (hQ p1 n1 _ _ (OUT_bad hf ho1.1 ho1.2.1))
  · have e1 : prsS (sgX I L) (r + 1) 9 o p n = (0, p, []) := if_neg hm
    rw [e1] at hQ
    have fin := hQ p n S V (OUT_nil hp (by omega))
    refine s42_5.mpr ?_
    simp only [s42_6, s42_7, s42_8, s42_9, s42_10, s42_11, s42_12, s42_34, Option.toList_some, Option.toList_none, List.cons_append, List.nil_append, Nat.le_refl, true_and, and_true, true_or, or_true, false_or, or_false, true_implies, false_implies, implies_true, not_true_eq_false, not_false_eq_true, eq_self, Nat.reduceLT, Nat.reduceLeDiff, Nat.reduceEqDiff, Nat.reduceAdd, Nat.reduceSub, Int.reduceLT, Int.reduceLE, Int.reduceEq, Int.reduceNeg, Int.reduceNe, Int.reduceAdd, Int.reduceSub, Int.reduceMul, Int.reduceToNat, Int.toNat_zero, Int.toNat_one, Int.toNat_natCast, am_cats, am_cat, am_st1, am_st2, am_clr, up2_na, up2_nj, up2_same, List.getElem?_cons_zero, List.getElem?_cons_succ, List.set_cons_zero, List.set_cons_succ, ne_eq, tk_79 hh, xI_1, hL, k30 hh hq hL hL2 hR, hm]
    by_cases h : (i : Int) < (L : Int)
    · exact ⟨fun _ => fin, fun z => absurd h z⟩
    · exact ⟨fun z => absurd z h, fun _ => fin⟩
theorem crd6 (hx : xHyp T R I q L) (h5 : crP s q L T I J R cl A C r 5) (h10 : lpS10 s q L T I J R cl A C r) : crP s q L T I J R cl A C (r + 1) 6 := by
  intro d o p n S V Q hd ho hr hp hn hQ
  obtain ⟨e, rfl⟩ : ∃ e, d = e + 2 := ⟨d - 2, by omega⟩
  obtain ⟨hh, hl, hL, hL2, hR, hR4, -⟩ := id hx
  have hq : 80 < q := hl.1
  show wpc codeT mX (e + 2) 41 _ _ _
  simp only [s41_0, s41_1, s41_2, e41, Option.toList_some, Option.toList_none, List.cons_append, List.nil_append, Nat.le_refl, true_and, and_true, true_or, or_true, false_or, or_false, true_implies, false_implies, implies_true, not_true_eq_false, not_false_eq_true, eq_self, Nat.reduceLT, Nat.reduceLeDiff, Nat.reduceEqDiff, Nat.reduceAdd, Nat.reduceSub, Int.reduceLT, Int.reduceLE, Int.reduceEq, Int.reduceNeg, Int.reduceNe, Int.reduceAdd, Int.reduceSub, Int.reduceMul, Int.reduceToNat, Int.toNat_zero, Int.toNat_one, Int.toNat_natCast, am_cats, am_cat, am_st1, am_st2, am_clr, up2_na, up2_nj, up2_same, List.getElem?_cons_zero, List.getElem?_cons_succ, List.set_cons_zero, List.set_cons_succ, ne_eq, tk_79 hh]
  refine h5 (e + 1) o p n S V _ (by omega) (by omega) (by omega) (by omega) (by omega) (fun p1 n1 S1 V1 ho1 => ⟨⟨Nat.le_refl _, Nat.le_refl _⟩, ?_⟩)
  by_cases hf : (prsS (sgX I L) r 5 o p n).1 = 0
  · obtain ⟨b3, b4, b5, b6⟩ := ho1.2.2 hf
    obtain ⟨a1, a2, a3⟩ := rd_adv (sg := sgX I L) sgX_hs r 5 o p n hp hf
    have a3 := a3 (by decide)
    have e1 : prsS (sgX I L) (r + 1) 6 o p n = rcat (prsS (sgX I L) r 5 o p n).2.2 (prsS (sgX I L) r 10 o p1 n1) := by
      rw [b3, b4]
      exact rsq_y (k := fun p' m => prsS (sgX I L) r 10 o p' (n + m)) hf
    rw [hf]
    simp only [s41_3, s41_4, Option.toList_some, Option.toList_none, List.cons_append, List.nil_append, Nat.le_refl, true_and, and_true, true_or, or_true, false_or, or_false, true_implies, false_implies, implies_true, not_true_eq_false, not_false_eq_true, eq_self, Nat.reduceLT, Nat.reduceLeDiff, Nat.reduceEqDiff, Nat.reduceAdd, Nat.reduceSub, Int.reduceLT, Int.reduceLE, Int.reduceEq, Int.reduceNeg, Int.reduceNe, Int.reduceAdd, Int.reduceSub, Int.reduceMul, Int.reduceToNat, Int.toNat_zero, Int.toNat_one, Int.toNat_natCast, am_cats, am_cat, am_st1, am_st2, am_clr, up2_na, up2_nj, up2_same, List.getElem?_cons_zero, List.getElem?_cons_succ, List.set_cons_zero, List.set_cons_succ, ne_eq]
    refine h10 (e + 1) o p1 n1 0 S1 V1 none Q (by omega) ho (by omega) (by omega) (by omega) (by omega) (fun p2 n2 S2 V2 ho2 => ?_)
    rw [e1] at hQ
    exact hQ p2 n2 S2 V2 (OUT_cat hf ho1 ho2)
  · have e1 : prsS (sgX I L) (r + 1) 6 o p n = prsS (sgX I L) r 5 o p n := rsq_n (k := fun p' m => prsS (sgX I L) r 10 o p' (n + m)) hf
    rw [e1] at hQ
    simp only [s41_3, s41_4, Option.toList_some, Option.toList_none, List.cons_append, List.nil_append, Nat.le_refl, true_and, and_true, true_or, or_true, false_or, or_false, true_implies, false_implies, implies_true, not_true_eq_false, not_false_eq_true, eq_self, Nat.reduceLT, Nat.reduceLeDiff, Nat.reduceEqDiff, Nat.reduceAdd, Nat.reduceSub, Int.reduceLT, Int.reduceLE, Int.reduceEq, Int.reduceNeg, Int.reduceNe, Int.reduceAdd, Int.reduceSub, Int.reduceMul, Int.reduceToNat, Int.toNat_zero, Int.toNat_one, Int.toNat_natCast, am_cats, am_cat, am_st1, am_st2, am_clr, up2_na, up2_nj, up2_same, List.getElem?_cons_zero, List.getElem?_cons_succ, List.set_cons_zero, List.set_cons_succ, ne_eq]
    exact x41f hx hf (hQ p1 n1 S1 V1 ho1)
theorem crd10 (hx : xHyp T R I q L) (h5 : crP s q L T I J R cl A C r 5) (h10 : lpS10 s q L T I J R cl A C r) : lpS10 s q L T I J R cl A C (r + 1) := by
  intro d o p n i S V l3 Q hd ho hr hp hn hi hQ
  obtain ⟨e, rfl⟩ : ∃ e, d = e + 1 := ⟨d - 1, by omega⟩
  have hlt := fun h => sgX_lt (I := I) (L := L) (p := p) h
  obtain ⟨hh, hl, hL, hL2, hR, hR4, -⟩ := id hx
  have hq : 80 < q := hl.1
  have t0 := hl.2.2.1
  have u3 : q < 185 := by have := hl.2.1; omega
  by_cases hm : sgX I L p = 124
  · have hpL := hlt (by rw [hm]; decide)
    have e0 : prsS (sgX I L) (r + 1) 10 o p n = rlop 12 n (prsS (sgX I L) r 5 o (p + 1) (n + 1)) (fun p' m => prsS (sgX I L) r 10 o p' m) := if_pos hm
    have u1 : (i : Int) < (L : Int) := by omega
    have n16 : n < 160 := by omega
    refine s41_5.mpr ?_
    simp only [s41_6, s41_7, s41_8, s41_9, s41_10, s41_11, s41_12, s41_13, s41_14, s41_15, s41_16, s41_17, s41_18, s41_19, s41_20, s41_21, s41_22, s41_23, s41_24, s41_25, s41_26, s41_27, Option.toList_some, Option.toList_none, List.cons_append, List.nil_append, Nat.le_refl, true_and, and_true, true_or, or_true, false_or, or_false, true_implies, false_implies, implies_true, not_true_eq_false, not_false_eq_true, eq_self, Nat.reduceLT, Nat.reduceLeDiff, Nat.reduceEqDiff, Nat.reduceAdd, Nat.reduceSub, Int.reduceLT, Int.reduceLE, Int.reduceEq, Int.reduceNeg, Int.reduceNe, Int.reduceAdd, Int.reduceSub, Int.reduceMul, Int.reduceToNat, Int.toNat_zero, Int.toNat_one, Int.toNat_natCast, am_cats, am_cat, am_st1, am_st2, am_clr, up2_na, up2_nj, up2_same, List.getElem?_cons_zero, List.getElem?_cons_succ, List.set_cons_zero, List.set_cons_succ, ne_eq, tk_79 hh, xI_1, hL, u1, k30 hh hq hL hL2 hR, hm, xI_p, xu_p, w32_s (show p ≤ 1080 by omega), hR4, k37 hl n16, t0, u3]
    refine h5 (e + 1) o (p + 1) (n + 1) _ _ _ (by omega) (by omega) (by omega) (by omega) (by omega) (fun p1 n1 S1 V1 ho1 => ⟨⟨Nat.le_refl _, Nat.le_refl _⟩, ?_⟩)
    by_cases hf : (prsS (sgX I L) r 5 o (p + 1) (n + 1)).1 = 0
    · obtain ⟨b3, b4, b5, b6⟩ := ho1.2.2 hf
      obtain ⟨a1, a2, a3⟩ := rd_adv (sg := sgX I L) sgX_hs r 5 o (p + 1) (n + 1) (by omega) hf
      have a3 := a3 (by decide)
      have nn : n < n1 := by omega
      have e1 : prsS (sgX I L) (r + 1) 10 o p n = rcat ((12, (n1 : Int)) :: (prsS (sgX I L) r 5 o (p + 1) (n + 1)).2.2) (prsS (sgX I L) r 10 o p1 n1) := by
        rw [e0]
        unfold rlop
        rw [if_pos hf, b3, b4]
      have o1 := OUT_lop (op := 12) hf (show sgn 12 = 124 by decide) ho1
      rw [hf]
      simp only [s41_28, s41_29, s41_30, s41_31, s41_32, s41_33, Option.toList_some, Option.toList_none, List.cons_append, List.nil_append, Nat.le_refl, true_and, and_true, true_or, or_true, false_or, or_false, true_implies, false_implies, implies_true, not_true_eq_false, not_false_eq_true, eq_self, Nat.reduceLT, Nat.reduceLeDiff, Nat.reduceEqDiff, Nat.reduceAdd, Nat.reduceSub, Int.reduceLT, Int.reduceLE, Int.reduceEq, Int.reduceNeg, Int.reduceNe, Int.reduceAdd, Int.reduceSub, Int.reduceMul, Int.reduceToNat, Int.toNat_zero, Int.toNat_one, Int.toNat_natCast, am_cats, am_cat, am_st1, am_st2, am_clr, up2_na, up2_nj, up2_same, List.getElem?_cons_zero, List.getElem?_cons_succ, List.set_cons_zero, List.set_cons_succ, ne_eq, tk_79 hh, hR4, k47 hl ho1.2.1 nn, w32_s (show i ≤ 1080 by omega), t0, u3]
      refine h10 (e + 1) o p1 n1 (i + 1) _ _ _ Q (by omega) ho (by omega) (by omega) (by omega) (by omega) (fun p2 n2 S2 V2 ho2 => ?_)
      rw [e1] at hQ
      exact hQ p2 n2 S2 V2 (OUT_cat (a := (0, (prsS (sgX I L) r 5 o (p + 1) (n + 1)).2.1, (12, (n1 : Int)) :: (prsS (sgX I L) r 5 o (p + 1) (n + 1)).2.2)) rfl o1 ho2)
    · have e1 : prsS (sgX I L) (r + 1) 10 o p n = prsS (sgX I L) r 5 o (p + 1) (n + 1) := by
        rw [e0]
        unfold rlop
        rw [if_neg hf]
      rw [e1] at hQ
      by_cases nn : n < n1
      · simp only [s41_28, s41_29, s41_30, s41_31, s41_32, s41_33, Option.toList_some, Option.toList_none, List.cons_append, List.nil_append, Nat.le_refl, true_and, and_true, true_or, or_true, false_or, or_false, true_implies, false_implies, implies_true, not_true_eq_false, not_false_eq_true, eq_self, Nat.reduceLT, Nat.reduceLeDiff, Nat.reduceEqDiff, Nat.reduceAdd, Nat.reduceSub, Int.reduceLT, Int.reduceLE, Int.reduceEq, Int.reduceNeg, Int.reduceNe, Int.reduceAdd, Int.reduceSub, Int.reduceMul, Int.reduceToNat, Int.toNat_zero, Int.toNat_one, Int.toNat_natCast, am_cats, am_cat, am_st1, am_st2, am_clr, up2_na, up2_nj, up2_same, List.getElem?_cons_zero, List.getElem?_cons_succ, List.set_cons_zero, List.set_cons_succ, ne_eq, tk_79 hh, hR4, k47 hl ho1.2.1 nn, w32_s (show i ≤ 1080 by omega), t0, u3]
        exact x41f hx hf (hQ p1 n1 _ _ (OUT_bad hf ho1.1 ho1.2.1))
      · simp only [s41_28, s41_29, s41_30, s41_31, s41_32, s41_33, Option.toList_some, Option.toList_none, List.cons_append, List.nil_append, Nat.le_refl, true_and, and_true, true_or, or_true, false_or, or_false, true_implies, false_implies, implies_true, not_true_eq_false, not_false_eq_true, eq_self, Nat.reduceLT, Nat.reduceLeDiff, Nat.reduceEqDiff, Nat.reduceAdd, Nat.reduceSub, Int.reduceLT, Int.reduceLE, Int.reduceEq, Int.reduceNeg, Int.reduceNe, Int.reduceAdd, Int.reduceSub, Int.reduceMul, Int.reduceToNat, Int.toNat_zero, Int.toNat_one, Int.toNat_natCast, am_cats, am_cat, am_st1, am_st2, am_clr, up2_na, up2_nj, up2_same, List.getElem?_cons_zero, List.getElem?_cons_succ, List.set_cons_zero, List.set_cons_succ, ne_eq, tk_79 hh, hR4, k47f hl (show (n : Int) < 0 ∨ (n1 : Int) ≤ (n : Int) by omega), w32_s (show i ≤ 1080 by omega), t0, u3]
        exact x41f hx hf (hQ p1 n1 _ _ (OUT_bad hf ho1.1 ho1.2.1))
  · have e1 : prsS (sgX I L) (r + 1) 10 o p n = (0, p, []) := if_neg hm
    rw [e1] at hQ
    have fin := hQ p n S V (OUT_nil hp (by omega))
    refine s41_5.mpr ?_
    simp only [s41_6, s41_7, s41_8, s41_9, s41_10, s41_11, s41_12, s41_34, Option.toList_some, Option.toList_none, List.cons_append, List.nil_append, Nat.le_refl, true_and, and_true, true_or, or_true, false_or, or_false, true_implies, false_implies, implies_true, not_true_eq_false, not_false_eq_true, eq_self, Nat.reduceLT, Nat.reduceLeDiff, Nat.reduceEqDiff, Nat.reduceAdd, Nat.reduceSub, Int.reduceLT, Int.reduceLE, Int.reduceEq, Int.reduceNeg, Int.reduceNe, Int.reduceAdd, Int.reduceSub, Int.reduceMul, Int.reduceToNat, Int.toNat_zero, Int.toNat_one, Int.toNat_natCast, am_cats, am_cat, am_st1, am_st2, am_clr, up2_na, up2_nj, up2_same, List.getElem?_cons_zero, List.getElem?_cons_succ, List.set_cons_zero, List.set_cons_succ, ne_eq, tk_79 hh, xI_1, hL, k30 hh hq hL hL2 hR, hm]
    by_cases h : (i : Int) < (L : Int)
    · exact ⟨fun _ => fin, fun z => absurd h z⟩
    · exact ⟨fun z => absurd z h, fun _ => fin⟩
theorem crd_all (hx : xHyp T R I q L) : ∀ r, (∀ k, k ≤ 6 → crP s q L T I J R cl A C r k) ∧ lpS7 s q L T I J R cl A C r ∧ lpS8 s q L T I J R cl A C r ∧ lpS9 s q L T I J R cl A C r ∧ lpS10 s q L T I J R cl A C r := by
  intro r
  induction r with
  | zero =>
    refine ⟨fun k hk d o p n S V Q hd ho hr hp hn hQ => ?_, fun d o p n i S V Q hd ho hr hp => ?_, fun d o p n i S V Q hd ho hr hp => ?_, fun d o p n i S V l3 Q hd ho hr hp => ?_, fun d o p n i S V l3 Q hd ho hr hp => ?_⟩ <;> omega
  | succ r ih =>
    obtain ⟨h, h7, h8, h9, h10⟩ := ih
    have g := fun k (hk : k ≤ 6) => h k hk
    refine ⟨fun k hk => ?_, crd7 hx (g 0 (by decide)) h7, crd8 hx (g 1 (by decide)) h8, crd9 hx (g 4 (by decide)) h9, crd10 hx (g 5 (by decide)) h10⟩
    match k, hk with
    | 0, _ => exact crd0 hx (g 2 (by decide))
    | 1, _ => exact crd1 hx (g 0 (by decide)) h7
    | 2, _ => exact crd2 hx (g 1 (by decide)) h8
    | 3, _ => exact crd3 hx (g 2 (by decide))
    | 4, _ => exact crd4 hx (g 3 (by decide)) (g 4 (by decide)) (g 6 (by decide))
    | 5, _ => exact crd5 hx (g 4 (by decide)) h9
    | 6, _ => exact crd6 hx (g 5 (by decide)) h10
    | k + 7, hk => exact absurd hk (by omega)
end
