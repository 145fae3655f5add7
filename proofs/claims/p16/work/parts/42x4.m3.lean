/-! the law's two readers, 3: the class's reader reads what the text says -/
def sgn (o : Int) : Int := if o = 0 then 48 else if o = 1 then 97 else if o = 2 then 43 else if o = 3 then 45 else if o = 4 then 42 else if o = 5 then 47 else if o = 6 then 37 else if o = 7 then 60 else if o = 8 then 62 else if o = 9 then 61 else if o = 10 then 33 else if o = 11 then 38 else 124
def HC (S V : Nat → Int) (n : Nat) (l : List (Int × Int)) : Prop := ∀ j, j < l.length → S (n + j) = sgn (l.getD j (0, 0)).1 ∧ V (n + j) = (l.getD j (0, 0)).2
def OUT (L : Nat) (r : RR) (n : Nat) (S V : Nat → Int) (p1 n1 : Nat) (S1 V1 : Nat → Int) : Prop := p1 ≤ L ∧ n1 ≤ 160 ∧ (r.1 = 0 → p1 = r.2.1 ∧ n1 = n + r.2.2.length ∧ (∀ j, j < n → S1 j = S j ∧ V1 j = V j) ∧ HC S1 V1 n r.2.2)
theorem HC_app {S V : Nat → Int} {n : Nat} {l1 l2 : List (Int × Int)} (h1 : HC S V n l1) (h2 : HC S V (n + l1.length) l2) : HC S V n (l1 ++ l2) := by
  intro j hj
  rw [List.length_append] at hj
  by_cases h : j < l1.length
  · rw [show (l1 ++ l2).getD j (0, 0) = l1.getD j (0, 0) by rw [List.getD_eq_getElem?_getD, List.getD_eq_getElem?_getD, List.getElem?_append_left h]]
    exact h1 j h
  · rw [show (l1 ++ l2).getD j (0, 0) = l2.getD (j - l1.length) (0, 0) by rw [List.getD_eq_getElem?_getD, List.getD_eq_getElem?_getD, List.getElem?_append_right (by omega)]]
    have := h2 (j - l1.length) (by omega)
    rw [show n + l1.length + (j - l1.length) = n + j by omega] at this
    exact this
theorem HC_cg {S V S1 V1 : Nat → Int} {n : Nat} {l : List (Int × Int)} (h : HC S V n l) (he : ∀ j, j < n + l.length → S1 j = S j ∧ V1 j = V j) : HC S1 V1 n l := by
  intro j hj
  obtain ⟨e1, e2⟩ := he (n + j) (by omega)
  rw [e1, e2]
  exact h j hj
theorem HC_one {S V : Nat → Int} {n : Nat} {o v : Int} : HC (sx S n (sgn o)) (sx V n v) n [(o, v)] := by
  intro j hj
  have hj : j = 0 := by
    have : j < 1 := hj
    omega
  subst hj
  exact ⟨sx_s, sx_s⟩
theorem OUT_bad {L p1 n1 n : Nat} {S V S1 V1 : Nat → Int} {r : RR} (h : ¬ r.1 = 0) (h1 : p1 ≤ L) (h2 : n1 ≤ 160) : OUT L r n S V p1 n1 S1 V1 := ⟨h1, h2, fun z => absurd z h⟩
theorem OUT_nil {L p n : Nat} {S V : Nat → Int} (h1 : p ≤ L) (h2 : n ≤ 160) : OUT L (0, p, []) n S V p n S V := ⟨h1, h2, fun _ => ⟨rfl, rfl, fun _ _ => ⟨rfl, rfl⟩, fun j hj => absurd hj (Nat.not_lt_zero _)⟩⟩
theorem OUT_one {L p n : Nat} {S V : Nat → Int} {f o v : Int} (h1 : p ≤ L) (h2 : n < 160) : OUT L (f, p, [(o, v)]) n S V p (n + 1) (sx S n (sgn o)) (sx V n v) := ⟨h1, h2, fun _ => ⟨rfl, rfl, fun j hj => ⟨sx_n (by omega), sx_n (by omega)⟩, HC_one⟩⟩
theorem OUT_cat {L n p1 n1 p2 n2 : Nat} {S V S1 V1 S2 V2 : Nat → Int} {a b : RR} (h0 : a.1 = 0) (h1 : OUT L a n S V p1 n1 S1 V1) (h2 : OUT L b n1 S1 V1 p2 n2 S2 V2) : OUT L (rcat a.2.2 b) n S V p2 n2 S2 V2 := by
  obtain ⟨a1, a2, a3⟩ := h1
  obtain ⟨b1, b2, b3⟩ := h2
  refine ⟨b1, b2, fun z => ?_⟩
  obtain ⟨-, a4, a5, a6⟩ := a3 h0
  obtain ⟨c3, b4, b5, b6⟩ := b3 z
  subst a4
  refine ⟨c3, by rw [b4]; show _ = n + (a.2.2 ++ b.2.2).length; rw [List.length_append]; omega, fun j hj => ?_, HC_app (HC_cg a6 b5) b6⟩
  obtain ⟨e1, e2⟩ := b5 j (by omega)
  obtain ⟨e3, e4⟩ := a5 j hj
  exact ⟨e1.trans e3, e2.trans e4⟩
theorem OUT_p {L n p1 n1 : Nat} {S V S1 V1 : Nat → Int} {f : Int} {p p' : Nat} {l : List (Int × Int)} (h : OUT L (f, p, l) n S V p1 n1 S1 V1) (hp : p1 + 1 ≤ L) (hp' : p' = p + 1) : OUT L (f, p', l) n S V (p1 + 1) n1 S1 V1 := ⟨hp, h.2.1, fun z => ⟨by rw [(h.2.2 z).1, hp'], (h.2.2 z).2⟩⟩
def mth (k : Nat) : Nat := match k with
  | 0 => 35
  | 1 => 34
  | 2 => 33
  | 3 => 46
  | 4 => 43
  | 5 => 42
  | _ => 41
section
variable (s q L : Nat) (T : Nat → Nat × Nat) (I J : Nat → Nat → Int) (R : Nat → Nat → Option Nat) (cl : Int) (A C : Nat → Int)
def crQ (r : RR) (n : Nat) (S V : Nat → Int) (Q : Option AV → AH → Prop) : Prop := ∀ (p1 n1 : Nat) (S1 V1 : Nat → Int), OUT L r n S V p1 n1 S1 V1 → Q none (185, s, T, xI I q (p1 : Int) r.1 cl (n1 : Int) S1 V1 A C, J, R)
def crP (r k : Nat) : Prop := ∀ (d o p n : Nat) (S V : Nat → Int) (Q : Option AV → AH → Prop), 4 * (6 - o) + 6 + k ≤ d → o ≤ 6 → 8 * (L + 1 - p) + k ≤ r → p ≤ L → n ≤ p → crQ s q L T I J R cl A C (prsS (sgX I L) r k o p n) n S V Q → wpc codeT mX d (mth k) [.inr (.inr (some 79)), .inl (o : Int)] (185, s, T, xI I q (p : Int) 0 cl (n : Int) S V A C, J, R) Q
def lpS7 (r : Nat) : Prop := ∀ (d o p n i : Nat) (S V : Nat → Int) (Q : Option AV → AH → Prop), 4 * (6 - o) + 6 ≤ d → o ≤ 6 → 8 * (L + 1 - p) ≤ r → p ≤ L → n ≤ p → i ≤ p → crQ s q L T I J R cl A C (prsS (sgX I L) r 7 o p n) n S V Q → wp codeT mX (d + 1) 34 8 [some (.inr (.inr (some 79))), some (.inl (o : Int)), some (.inl (sgX I L p)), some (.inl (i : Int))] [] (185, s, T, xI I q (p : Int) 0 cl (n : Int) S V A C, J, R) Q
def lpS8 (r : Nat) : Prop := ∀ (d o p n i : Nat) (S V : Nat → Int) (Q : Option AV → AH → Prop), 4 * (6 - o) + 7 ≤ d → o ≤ 6 → 8 * (L + 1 - p) ≤ r → p ≤ L → n ≤ p → i ≤ p → crQ s q L T I J R cl A C (prsS (sgX I L) r 8 o p n) n S V Q → wp codeT mX (d + 1) 33 8 [some (.inr (.inr (some 79))), some (.inl (o : Int)), some (.inl (sgX I L p)), some (.inl (i : Int))] [] (185, s, T, xI I q (p : Int) 0 cl (n : Int) S V A C, J, R) Q
def lpS9 (r : Nat) : Prop := ∀ (d o p n i : Nat) (S V : Nat → Int) (l3 : Option AV) (Q : Option AV → AH → Prop), 4 * (6 - o) + 10 ≤ d → o ≤ 6 → 8 * (L + 1 - p) ≤ r → p ≤ L → n ≤ p → i ≤ p → crQ s q L T I J R cl A C (prsS (sgX I L) r 9 o p n) n S V Q → wp codeT mX (d + 1) 42 5 [some (.inr (.inr (some 79))), some (.inl (o : Int)), some (.inl (i : Int)), l3] [] (185, s, T, xI I q (p : Int) 0 cl (n : Int) S V A C, J, R) Q
def lpS10 (r : Nat) : Prop := ∀ (d o p n i : Nat) (S V : Nat → Int) (l3 : Option AV) (Q : Option AV → AH → Prop), 4 * (6 - o) + 11 ≤ d → o ≤ 6 → 8 * (L + 1 - p) ≤ r → p ≤ L → n ≤ p → i ≤ p → crQ s q L T I J R cl A C (prsS (sgX I L) r 10 o p n) n S V Q → wp codeT mX (d + 1) 41 5 [some (.inr (.inr (some 79))), some (.inl (o : Int)), some (.inl (i : Int)), l3] [] (185, s, T, xI I q (p : Int) 0 cl (n : Int) S V A C, J, R) Q
end
section
variable {s q L : Nat} {T : Nat → Nat × Nat} {I J : Nat → Nat → Int} {R : Nat → Nat → Option Nat} {cl : Int} {A C : Nat → Int}
/-- what stands around the reader -/
def xHyp (T : Nat → Nat × Nat) (R : Nat → Nat → Option Nat) (I : Nat → Nat → Int) (q L : Nat) : Prop := hp T R ∧ lawAt T R q ∧ I 79 1 = L ∧ L ≤ 160 ∧ R 79 0 = some 2 ∧ R 79 4 = some q ∧ ∀ j, 0 ≤ I 2 j ∧ I 2 j ≤ 255 ∨ L ≤ j
theorem sgX_lt {p : Nat} (h : ¬ sgX I L p = -1) : p < L := by
  by_cases z : p < L
  · exact z
  · exact absurd (if_neg z) h
theorem sgX_hs : ∀ p, L ≤ p → sgX I L p = -1 := fun p h => if_neg (by omega)
theorem sgX_bd (hx : xHyp T R I q L) (p : Nat) : sgX I L p = -1 ∨ 0 ≤ sgX I L p ∧ sgX I L p ≤ 255 := by
  by_cases z : p < L
  · right
    have e : sgX I L p = I 2 p := if_pos z
    rw [e]
    rcases hx.2.2.2.2.2.2 p with h | h
    · exact h
    · omega
  · exact Or.inl (if_neg z)
/-- behind a fault: the loops end -/
theorem x34f (hx : xHyp T R I q L) {d : Nat} {p f sz o i : Int} {S V : Nat → Int} {Q : Option AV → AH → Prop} (hQ : Q none (185, s, T, xI I q p f cl sz S V A C, J, R)) : wp codeT mX d 34 8 [some (.inr (.inr (some 79))), some (.inl o), some (.inl (-1)), some (.inl i)] [] (185, s, T, xI I q p f cl sz S V A C, J, R) Q := by
  obtain ⟨hh, hl, hL, -⟩ := hx
  refine s34_8.mpr ?_
  simp only [s34_9, s34_10, s34_11, s34_12, s34_13, s34_14, s34_15, s34_16, s34_17, s34_18, s34_19, s34_20, s34_41, Option.toList_some, Option.toList_none, List.cons_append, List.nil_append, Nat.le_refl, true_and, and_true, true_or, or_true, false_or, or_false, true_implies, false_implies, implies_true, not_true_eq_false, not_false_eq_true, eq_self, Nat.reduceLT, Nat.reduceLeDiff, Nat.reduceEqDiff, Nat.reduceAdd, Nat.reduceSub, Int.reduceLT, Int.reduceLE, Int.reduceEq, Int.reduceNeg, Int.reduceNe, Int.reduceAdd, Int.reduceSub, Int.reduceMul, Int.reduceToNat, Int.toNat_zero, Int.toNat_one, Int.toNat_natCast, am_cats, am_cat, am_st1, am_st2, am_clr, up2_na, up2_nj, up2_same, List.getElem?_cons_zero, List.getElem?_cons_succ, List.set_cons_zero, List.set_cons_succ, ne_eq, tk_79 hh, xI_1, hL]
  by_cases h : i < (L : Int)
  · exact ⟨fun _ => hQ, fun z => absurd h z⟩
  · exact ⟨fun z => absurd z h, fun _ => hQ⟩
theorem x33f (hx : xHyp T R I q L) {d : Nat} {p f sz o i : Int} {S V : Nat → Int} {Q : Option AV → AH → Prop} (hQ : Q none (185, s, T, xI I q p f cl sz S V A C, J, R)) : wp codeT mX d 33 8 [some (.inr (.inr (some 79))), some (.inl o), some (.inl (-1)), some (.inl i)] [] (185, s, T, xI I q p f cl sz S V A C, J, R) Q := by
  obtain ⟨hh, hl, hL, -⟩ := hx
  refine s33_8.mpr ?_
  simp only [s33_9, s33_10, s33_11, s33_12, s33_13, s33_14, s33_15, s33_16, s33_17, s33_38, Option.toList_some, Option.toList_none, List.cons_append, List.nil_append, Nat.le_refl, true_and, and_true, true_or, or_true, false_or, or_false, true_implies, false_implies, implies_true, not_true_eq_false, not_false_eq_true, eq_self, Nat.reduceLT, Nat.reduceLeDiff, Nat.reduceEqDiff, Nat.reduceAdd, Nat.reduceSub, Int.reduceLT, Int.reduceLE, Int.reduceEq, Int.reduceNeg, Int.reduceNe, Int.reduceAdd, Int.reduceSub, Int.reduceMul, Int.reduceToNat, Int.toNat_zero, Int.toNat_one, Int.toNat_natCast, am_cats, am_cat, am_st1, am_st2, am_clr, up2_na, up2_nj, up2_same, List.getElem?_cons_zero, List.getElem?_cons_succ, List.set_cons_zero, List.set_cons_succ, ne_eq, tk_79 hh, xI_1, hL]
  by_cases h : i < (L : Int)
  · exact ⟨fun _ => hQ, fun z => absurd h z⟩
  · exact ⟨fun z => absurd z h, fun _ => hQ⟩
theorem x42f (hx : xHyp T R I q L) {d : Nat} {p f sz o i : Int} {S V : Nat → Int} {l3 : Option AV} {Q : Option AV → AH → Prop} (hf : ¬ f = 0) (hQ : Q none (185, s, T, xI I q p f cl sz S V A C, J, R)) : wp codeT mX (d + 1) 42 5 [some (.inr (.inr (some 79))), some (.inl o), some (.inl i), l3] [] (185, s, T, xI I q p f cl sz S V A C, J, R) Q := by
  obtain ⟨hh, hl, hL, -⟩ := hx
  refine s42_5.mpr ?_
  simp only [s42_6, s42_7, s42_8, s42_9, s42_10, s42_11, s42_12, s42_34, Option.toList_some, Option.toList_none, List.cons_append, List.nil_append, Nat.le_refl, true_and, and_true, true_or, or_true, false_or, or_false, true_implies, false_implies, implies_true, not_true_eq_false, not_false_eq_true, eq_self, Nat.reduceLT, Nat.reduceLeDiff, Nat.reduceEqDiff, Nat.reduceAdd, Nat.reduceSub, Int.reduceLT, Int.reduceLE, Int.reduceEq, Int.reduceNeg, Int.reduceNe, Int.reduceAdd, Int.reduceSub, Int.reduceMul, Int.reduceToNat, Int.toNat_zero, Int.toNat_one, Int.toNat_natCast, am_cats, am_cat, am_st1, am_st2, am_clr, up2_na, up2_nj, up2_same, List.getElem?_cons_zero, List.getElem?_cons_succ, List.set_cons_zero, List.set_cons_succ, ne_eq, tk_79 hh, xI_1, hL, k30f hh hf]
  by_cases h : i < (L : Int)
  · exact ⟨fun _ => hQ, fun z => absurd h z⟩
  · exact ⟨fun z => absurd z h, fun _ => hQ⟩
theorem x41f (hx : xHyp T R I q L) {d : Nat} {p f sz o i : Int} {S V : Nat → Int} {l3 : Option AV} {Q : Option AV → AH → Prop} (hf : ¬ f = 0) (hQ : Q none (185, s, T, xI I q p f cl sz S V A C, J, R)) : wp codeT mX (d + 1) 41 5 [some (.inr (.inr (some 79))), some (.inl o), some (.inl i), l3] [] (185, s, T, xI I q p f cl sz S V A C, J, R) Q := by
  obtain ⟨hh, hl, hL, -⟩ := hx
  refine s41_5.mpr ?_
  simp only [s41_6, s41_7, s41_8, s41_9, s41_10, s41_11, s41_12, s41_34, Option.toList_some, Option.toList_none, List.cons_append, List.nil_append, Nat.le_refl, true_and, and_true, true_or, or_true, false_or, or_false, true_implies, false_implies, implies_true, not_true_eq_false, not_false_eq_true, eq_self, Nat.reduceLT, Nat.reduceLeDiff, Nat.reduceEqDiff, Nat.reduceAdd, Nat.reduceSub, Int.reduceLT, Int.reduceLE, Int.reduceEq, Int.reduceNeg, Int.reduceNe, Int.reduceAdd, Int.reduceSub, Int.reduceMul, Int.reduceToNat, Int.toNat_zero, Int.toNat_one, Int.toNat_natCast, am_cats, am_cat, am_st1, am_st2, am_clr, up2_na, up2_nj, up2_same, List.getElem?_cons_zero, List.getElem?_cons_succ, List.set_cons_zero, List.set_cons_succ, ne_eq, tk_79 hh, xI_1, hL, k30f hh hf]
  by_cases h : i < (L : Int)
  · exact ⟨fun _ => hQ, fun z => absurd h z⟩
  · exact ⟨fun z => absurd z h, fun _ => hQ⟩
theorem k35f (hx : xHyp T R I q L) {d : Nat} {p f sz o : Int} {S V : Nat → Int} {Q : Option AV → AH → Prop} (hf : ¬ f = 0) : wpc codeT mX (d + 1) 35 [.inr (.inr (some 79)), .inl o] (185, s, T, xI I q p f cl sz S V A C, J, R) Q ↔ Q none (185, s, T, xI I q p f cl sz S V A C, J, R) := wpc_det (by
  obtain ⟨hh, hl, hL, -⟩ := hx
  simp only [s35_0, s35_1, s35_2, s35_3, s35_4, s35_5, s35_6, s35_11, s35_12, s35_13, s35_14, s35_28, s35_29, s35_43, s35_44, s35_45, s35_49, s35_50, s35_51, s35_52, e35, Option.toList_some, Option.toList_none, List.cons_append, List.nil_append, Nat.le_refl, true_and, and_true, true_or, or_true, false_or, or_false, true_implies, false_implies, implies_true, not_true_eq_false, not_false_eq_true, eq_self, Nat.reduceLT, Nat.reduceLeDiff, Nat.reduceEqDiff, Nat.reduceAdd, Nat.reduceSub, Int.reduceLT, Int.reduceLE, Int.reduceEq, Int.reduceNeg, Int.reduceNe, Int.reduceAdd, Int.reduceSub, Int.reduceMul, Int.reduceToNat, Int.toNat_zero, Int.toNat_one, Int.toNat_natCast, am_cats, am_cat, am_st1, am_st2, am_clr, up2_na, up2_nj, up2_same, List.getElem?_cons_zero, List.getElem?_cons_succ, List.set_cons_zero, List.set_cons_succ, ne_eq, tk_79 hh, k30f hh hf, k31f hh hf, k38, i10])
theorem k34f (hx : xHyp T R I q L) {d : Nat} {p f sz o : Int} {S V : Nat → Int} {Q : Option AV → AH → Prop} (hf : ¬ f = 0) : wpc codeT mX (d + 2) 34 [.inr (.inr (some 79)), .inl o] (185, s, T, xI I q p f cl sz S V A C, J, R) Q ↔ Q none (185, s, T, xI I q p f cl sz S V A C, J, R) := wpc_det (by
  have := x34f (d := d + 2) (p := p) (f := f) (sz := sz) (o := o) (i := 0) (S := S) (V := V) (A := A) (C := C) (cl := cl) (J := J) (s := s) (Q := fun v g => g = (185, s, T, xI I q p f cl sz S V A C, J, R) ∧ v = none) hx ⟨rfl, rfl⟩
  obtain ⟨hh, hl, hL, -⟩ := id hx
  simp only [s34_0, s34_1, s34_2, s34_3, s34_4, s34_5, s34_6, s34_7, e34, Option.toList_some, Option.toList_none, List.cons_append, List.nil_append, Nat.le_refl, true_and, and_true, true_or, or_true, false_or, or_false, true_implies, false_implies, implies_true, not_true_eq_false, not_false_eq_true, eq_self, Nat.reduceLT, Nat.reduceLeDiff, Nat.reduceEqDiff, Nat.reduceAdd, Nat.reduceSub, Int.reduceLT, Int.reduceLE, Int.reduceEq, Int.reduceNeg, Int.reduceNe, Int.reduceAdd, Int.reduceSub, Int.reduceMul, Int.reduceToNat, Int.toNat_zero, Int.toNat_one, Int.toNat_natCast, am_cats, am_cat, am_st1, am_st2, am_clr, up2_na, up2_nj, up2_same, List.getElem?_cons_zero, List.getElem?_cons_succ, List.set_cons_zero, List.set_cons_succ, ne_eq, tk_79 hh, k30f hh hf, k35f hx hf]
  exact this)
theorem k33f (hx : xHyp T R I q L) {d : Nat} {p f sz o : Int} {S V : Nat → Int} {Q : Option AV → AH → Prop} (hf : ¬ f = 0) : wpc codeT mX (d + 3) 33 [.inr (.inr (some 79)), .inl o] (185, s, T, xI I q p f cl sz S V A C, J, R) Q ↔ Q none (185, s, T, xI I q p f cl sz S V A C, J, R) := wpc_det (by
  have := x33f (d := d + 3) (p := p) (f := f) (sz := sz) (o := o) (i := 0) (S := S) (V := V) (A := A) (C := C) (cl := cl) (J := J) (s := s) (Q := fun v g => g = (185, s, T, xI I q p f cl sz S V A C, J, R) ∧ v = none) hx ⟨rfl, rfl⟩
  obtain ⟨hh, hl, hL, -⟩ := id hx
  simp only [s33_0, s33_1, s33_2, s33_3, s33_4, s33_5, s33_6, s33_7, e33, Option.toList_some, Option.toList_none, List.cons_append, List.nil_append, Nat.le_refl, true_and, and_true, true_or, or_true, false_or, or_false, true_implies, false_implies, implies_true, not_true_eq_false, not_false_eq_true, eq_self, Nat.reduceLT, Nat.reduceLeDiff, Nat.reduceEqDiff, Nat.reduceAdd, Nat.reduceSub, Int.reduceLT, Int.reduceLE, Int.reduceEq, Int.reduceNeg, Int.reduceNe, Int.reduceAdd, Int.reduceSub, Int.reduceMul, Int.reduceToNat, Int.toNat_zero, Int.toNat_one, Int.toNat_natCast, am_cats, am_cat, am_st1, am_st2, am_clr, up2_na, up2_nj, up2_same, List.getElem?_cons_zero, List.getElem?_cons_succ, List.set_cons_zero, List.set_cons_succ, ne_eq, tk_79 hh, k30f hh hf, k34f hx hf]
  exact this)
theorem k46f (hx : xHyp T R I q L) {d : Nat} {p f sz o : Int} {S V : Nat → Int} {Q : Option AV → AH → Prop} (hf : ¬ f = 0) : wpc codeT mX (d + 4) 46 [.inr (.inr (some 79)), .inl o] (185, s, T, xI I q p f cl sz S V A C, J, R) Q ↔ Q none (185, s, T, xI I q p f cl sz S V A C, J, R) := wpc_det (by
  obtain ⟨hh, hl, hL, -⟩ := id hx
  simp only [s46_0, s46_1, s46_2, s46_3, s46_4, s46_5, s46_6, s46_7, s46_8, s46_9, s46_10, s46_11, s46_12, s46_13, s46_14, s46_31, s46_32, s46_33, s46_34, e46, Option.toList_some, Option.toList_none, List.cons_append, List.nil_append, Nat.le_refl, true_and, and_true, true_or, or_true, false_or, or_false, true_implies, false_implies, implies_true, not_true_eq_false, not_false_eq_true, eq_self, Nat.reduceLT, Nat.reduceLeDiff, Nat.reduceEqDiff, Nat.reduceAdd, Nat.reduceSub, Int.reduceLT, Int.reduceLE, Int.reduceEq, Int.reduceNeg, Int.reduceNe, Int.reduceAdd, Int.reduceSub, Int.reduceMul, Int.reduceToNat, Int.toNat_zero, Int.toNat_one, Int.toNat_natCast, am_cats, am_cat, am_st1, am_st2, am_clr, up2_na, up2_nj, up2_same, List.getElem?_cons_zero, List.getElem?_cons_succ, List.set_cons_zero, List.set_cons_succ, ne_eq, tk_79 hh, k30f hh hf, k31f hh hf, k33f hx hf])
theorem k43f (hx : xHyp T R I q L) {d : Nat} {p f sz o : Int} {S V : Nat → Int} {Q : Option AV → AH → Prop} (hf : ¬ f = 0) : wpc codeT mX (d + 5) 43 [.inr (.inr (some 79)), .inl o] (185, s, T, xI I q p f cl sz S V A C, J, R) Q ↔ Q none (185, s, T, xI I q p f cl sz S V A C, J, R) := wpc_det (by
  obtain ⟨hh, hl, hL, -⟩ := id hx
  simp only [s43_0, s43_1, s43_2, s43_3, s43_4, s43_5, s43_10, s43_11, s43_12, s43_17, s43_18, s43_19, s43_20, e43, Option.toList_some, Option.toList_none, List.cons_append, List.nil_append, Nat.le_refl, true_and, and_true, true_or, or_true, false_or, or_false, true_implies, false_implies, implies_true, not_true_eq_false, not_false_eq_true, eq_self, Nat.reduceLT, Nat.reduceLeDiff, Nat.reduceEqDiff, Nat.reduceAdd, Nat.reduceSub, Int.reduceLT, Int.reduceLE, Int.reduceEq, Int.reduceNeg, Int.reduceNe, Int.reduceAdd, Int.reduceSub, Int.reduceMul, Int.reduceToNat, Int.toNat_zero, Int.toNat_one, Int.toNat_natCast, am_cats, am_cat, am_st1, am_st2, am_clr, up2_na, up2_nj, up2_same, List.getElem?_cons_zero, List.getElem?_cons_succ, List.set_cons_zero, List.set_cons_succ, ne_eq, tk_79 hh, k30f hh hf, k46f hx hf])
theorem k42f (hx : xHyp T R I q L) {d : Nat} {p f sz o : Int} {S V : Nat → Int} {Q : Option AV → AH → Prop} (hf : ¬ f = 0) : wpc codeT mX (d + 6) 42 [.inr (.inr (some 79)), .inl o] (185, s, T, xI I q p f cl sz S V A C, J, R) Q ↔ Q none (185, s, T, xI I q p f cl sz S V A C, J, R) := wpc_det (by
  have := x42f (d := d + 5) (p := p) (f := f) (sz := sz) (o := o) (i := 0) (S := S) (V := V) (A := A) (C := C) (cl := cl) (J := J) (s := s) (l3 := none) (Q := fun v g => g = (185, s, T, xI I q p f cl sz S V A C, J, R) ∧ v = none) hx hf ⟨rfl, rfl⟩
  obtain ⟨hh, hl, hL, -⟩ := id hx
  simp only [s42_0, s42_1, s42_2, s42_3, s42_4, e42, Option.toList_some, Option.toList_none, List.cons_append, List.nil_append, Nat.le_refl, true_and, and_true, true_or, or_true, false_or, or_false, true_implies, false_implies, implies_true, not_true_eq_false, not_false_eq_true, eq_self, Nat.reduceLT, Nat.reduceLeDiff, Nat.reduceEqDiff, Nat.reduceAdd, Nat.reduceSub, Int.reduceLT, Int.reduceLE, Int.reduceEq, Int.reduceNeg, Int.reduceNe, Int.reduceAdd, Int.reduceSub, Int.reduceMul, Int.reduceToNat, Int.toNat_zero, Int.toNat_one, Int.toNat_natCast, am_cats, am_cat, am_st1, am_st2, am_clr, up2_na, up2_nj, up2_same, List.getElem?_cons_zero, List.getElem?_cons_succ, List.set_cons_zero, List.set_cons_succ, ne_eq, tk_79 hh, k43f hx hf]
  exact this)
theorem k41f (hx : xHyp T R I q L) {d : Nat} {p f sz o : Int} {S V : Nat → Int} {Q : Option AV → AH → Prop} (hf : ¬ f = 0) : wpc codeT mX (d + 7) 41 [.inr (.inr (some 79)), .inl o] (185, s, T, xI I q p f cl sz S V A C, J, R) Q ↔ Q none (185, s, T, xI I q p f cl sz S V A C, J, R) := wpc_det (by
  have := x41f (d := d + 6) (p := p) (f := f) (sz := sz) (o := o) (i := 0) (S := S) (V := V) (A := A) (C := C) (cl := cl) (J := J) (s := s) (l3 := none) (Q := fun v g => g = (185, s, T, xI I q p f cl sz S V A C, J, R) ∧ v = none) hx hf ⟨rfl, rfl⟩
  obtain ⟨hh, hl, hL, -⟩ := id hx
  simp only [s41_0, s41_1, s41_2, s41_3, s41_4, e41, Option.toList_some, Option.toList_none, List.cons_append, List.nil_append, Nat.le_refl, true_and, and_true, true_or, or_true, false_or, or_false, true_implies, false_implies, implies_true, not_true_eq_false, not_false_eq_true, eq_self, Nat.reduceLT, Nat.reduceLeDiff, Nat.reduceEqDiff, Nat.reduceAdd, Nat.reduceSub, Int.reduceLT, Int.reduceLE, Int.reduceEq, Int.reduceNeg, Int.reduceNe, Int.reduceAdd, Int.reduceSub, Int.reduceMul, Int.reduceToNat, Int.toNat_zero, Int.toNat_one, Int.toNat_natCast, am_cats, am_cat, am_st1, am_st2, am_clr, up2_na, up2_nj, up2_same, List.getElem?_cons_zero, List.getElem?_cons_succ, List.set_cons_zero, List.set_cons_succ, ne_eq, tk_79 hh, k42f hx hf]
  exact this)
end
