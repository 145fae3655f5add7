/-! the law's two readers, 19: shares stay shares; does answers alike -/
def lkU (I : Nat → Nat → Int) : Prop := ∀ h k : Nat, h < 6 → k < 6 → 0 ≤ I (88 + h) k ∧ I (88 + h) k ≤ 100
def sU : MO := [(88, none), (89, none), (90, none), (91, none), (92, none), (93, none)]
theorem lkU_S : rdS sU lkU := by
  intro I I' h e a k ha hk
  rw [h (88 + a) k (in6 (by decide) ha)]
  exact e a k ha hk
/-- all that class and reference have alike, and what it needs -/
def LRG2 (g : AH) : Prop := LRG g ∧ lkU g.2.2.2.1
def LAL (g : AH) : Prop := LKP g ∧ LRG2 g ∧ LKW g
section
variable {L s d : Nat} {X : Nat → Int}
theorem px_share (hL : L ≤ 3072) (hX : ∀ j, rg32 (X j)) (hd : 40 ≤ d) {P : AH → Prop} (hp : ∀ g, P g → LKP g ∧ lkU g.2.2.2.1) : prx L X s P (fun g => lkU g.2.2.2.1) d 15 133 3 false false := by
  refine prx_mk (cx := cn2) (cm := cn136) (nx := 0) (nm := 0) hL hX (cn_all 2 (by decide) cn2 rfl) (cn_all 136 (by decide) cn136 rfl) rfl hd (fun as g hl hr hH hs hP => ?_)
  obtain ⟨a, b, z, rfl⟩ := len3 hl
  obtain ⟨c, s, T, I, J, R⟩ := g
  obtain ⟨d, rfl⟩ : ∃ e, d = e + 1 := ⟨d - 1, by omega⟩
  have hc : c = 185 := hH.1
  subst hc
  have hh := hp_of (eH5_of hH)
  obtain ⟨hP, hU⟩ := hp _ hP
  have hP : LK I := hP
  have hU : lkU I := hU
  have e1 : I 0 1 = I 152 1 := hP.2.1
  have e2 : I 0 2 = I 152 2 := hP.2.2.1
  have b1 : 0 ≤ I 0 1 ∧ I 0 1 ≤ 6 := ebd hH (by decide) (by decide) (by decide)
  have b2 : 0 ≤ I 0 2 ∧ I 0 2 ≤ 6 := ebd hH (by decide) (by decide) (by decide)
  show wpc codeT mX (d + 1) 15 [.inr (.inr (some 0)), .inl a, .inl b, .inl z] _ _
  by_cases hg : (0 ≤ a ∧ a < I 0 2) ∧ (0 ≤ b ∧ b < I 0 1) ∧ 0 ≤ z ∧ z ≤ 100
  · obtain ⟨g1, g2, g3⟩ := hg
    obtain ⟨h, rfl⟩ : ∃ n : Nat, a = n := ⟨a.toNat, by omega⟩
    obtain ⟨k, rfl⟩ : ∃ n : Nat, b = n := ⟨b.toNat, by omega⟩
    have h6 : h < 6 := by omega
    have k6 : k < 6 := by omega
    have u1 : 0 ≤ (h : Int) ∧ (h : Int) < ((6 : Nat) : Int) := by omega
    have u2 : 0 ≤ (k : Int) ∧ (k : Int) < ((6 : Nat) : Int) := by omega
    have u3 : 88 + h < 185 ∧ (152 : Nat) ≠ 88 + h := by omega
    have u4 : 0 ≤ ((6 * h + k : Nat) : Int) ∧ ((6 * h + k : Nat) : Int) < ((36 : Nat) : Int) := by omega
    have y1 : 0 ≤ (h : Int) ∧ (h : Int) < I 152 2 := by omega
    have y2 : 0 ≤ (k : Int) ∧ (k : Int) < I 152 1 := by omega
    have o1 : 6 * (h : Int) = ((6 * h : Nat) : Int) := by omega
    have o2 : 6 * h ≤ 2000000000 := by omega
    have o3 : ((6 * h : Nat) : Int) + (k : Int) = ((6 * h + k : Nat) : Int) := by omega
    have o4 : 6 * h + k ≤ 2000000000 := by omega
    have nw : lkU (up2 (up2 I (88 + h) k z) 153 (6 * h + k) z) := by
      intro h' k' hh' hk'
      have := hU h' k' hh' hk'
      rw [up2_na (by omega), up2_at]
      by_cases he : h' = h ∧ k' = k
      · rw [if_pos (by omega)]
        exact g3
      · rw [if_neg (by omega)]
        exact this
    have v1 := w32_c o1 o2
    have v2 := w32_c o3 o4
    simp only [e15, s15_0, s15_1, s15_2, s15_3, s15_4, s15_5, s15_6, s15_7, s15_8, s15_9, s15_10, s15_11, s15_12, s15_13, s15_14, s15_15, s15_16, s15_17, s15_18, s15_19, s15_20, s15_21, s15_22, s15_23, Option.toList_some, Option.toList_none, List.cons_append, List.nil_append, Nat.le_refl, true_and, and_true, true_or, or_true, false_or, or_false, true_implies, false_implies, implies_true, not_true_eq_false, not_false_eq_true, eq_self, Nat.reduceLT, Nat.reduceLeDiff, Nat.reduceEqDiff, Nat.reduceAdd, Nat.reduceSub, Int.reduceLT, Int.reduceLE, Int.reduceEq, Int.reduceNeg, Int.reduceNe, Int.reduceAdd, Int.reduceSub, Int.reduceMul, Int.reduceToNat, Int.toNat_zero, Int.toNat_one, Int.toNat_natCast, am_cats, am_cat, am_st1, am_st2, am_clr, up2_na, up2_nj, up2_same, List.getElem?_cons_zero, List.getElem?_cons_succ, List.set_cons_zero, List.set_cons_succ, ne_eq, tk_0 hh, rk_0_13 hh, tk_87 hh, gk_87 hh h6, tg_88 hh h6, k16 hh, k17 hh, k18, i10, g1, g2, g3, u1, u2, u3]
    intro _ hH1 m1 s1
    refine ⟨_, rfl, ?_⟩
    show wpc codeT mX (d + 1) 133 [.inr (.inr (some 152)), .inl (h : Int), .inl (k : Int), .inl z] (185, s, T, up2 I (88 + h) k z, J, R) _
    simp only [e133, s133_0, s133_1, s133_2, s133_3, s133_4, s133_5, s133_6, s133_7, s133_8, s133_9, s133_10, s133_11, s133_12, s133_13, s133_14, s133_15, s133_16, s133_17, s133_18, s133_19, s133_20, s133_21, s133_22, s133_23, s133_24, s133_25, Option.toList_some, Option.toList_none, List.cons_append, List.nil_append, Nat.le_refl, true_and, and_true, true_or, or_true, false_or, or_false, true_implies, false_implies, implies_true, not_true_eq_false, not_false_eq_true, eq_self, Nat.reduceLT, Nat.reduceLeDiff, Nat.reduceEqDiff, Nat.reduceAdd, Nat.reduceSub, Int.reduceLT, Int.reduceLE, Int.reduceEq, Int.reduceNeg, Int.reduceNe, Int.reduceAdd, Int.reduceSub, Int.reduceMul, Int.reduceToNat, Int.toNat_zero, Int.toNat_one, Int.toNat_natCast, am_cats, am_cat, am_st1, am_st2, am_clr, up2_na, up2_nj, up2_same, List.getElem?_cons_zero, List.getElem?_cons_succ, List.set_cons_zero, List.set_cons_succ, ne_eq, tk_152 hh, rk_152_7 hh, tk_153 hh, k134 hh, k135 hh, k136, i10, y1, y2, g3, u3, u4, v1, v2]
    intro _ hH2 m2
    exact ⟨_, rfl, fun q => (by cases q), nw⟩
  · have hg2 : ¬ ((0 ≤ a ∧ a < I 152 2) ∧ (0 ≤ b ∧ b < I 152 1) ∧ 0 ≤ z ∧ z ≤ 100) := by rw [← e1, ← e2]; exact hg
    have fin : ∀ Q : Option AV → AH → Prop, Q (some (.inl 0)) (185, s, T, I, J, R) → wpc codeT mX (d + 1) 133 [.inr (.inr (some 152)), .inl a, .inl b, .inl z] (185, s, T, I, J, R) Q := by
      intro Q hQ
      simp only [s133_0, s133_1, s133_2, s133_3, s133_4, s133_5, s133_6, s133_7, s133_8, s133_9, s133_10, s133_11, s133_12, s133_13, s133_14, e133, Option.toList_some, Option.toList_none, List.cons_append, List.nil_append, Nat.le_refl, true_and, and_true, true_or, or_true, false_or, or_false, true_implies, false_implies, implies_true, not_true_eq_false, not_false_eq_true, eq_self, Nat.reduceLT, Nat.reduceLeDiff, Nat.reduceEqDiff, Nat.reduceAdd, Nat.reduceSub, Int.reduceLT, Int.reduceLE, Int.reduceEq, Int.reduceNeg, Int.reduceNe, Int.reduceAdd, Int.reduceSub, Int.reduceMul, Int.reduceToNat, Int.toNat_zero, Int.toNat_one, Int.toNat_natCast, am_cats, am_cat, am_st1, am_st2, am_clr, up2_na, up2_nj, up2_same, List.getElem?_cons_zero, List.getElem?_cons_succ, List.set_cons_zero, List.set_cons_succ, ne_eq, tk_152 hh, k134 hh, k135 hh, k136, i10, Classical.not_not]
      exact ⟨fun _ => hQ, fun q1 => ⟨fun _ => hQ, fun q2 => ⟨fun _ => hQ, fun q3 => absurd ⟨q1, q2, q3⟩ hg2⟩⟩⟩
    have go : ∀ Q : Option AV → AH → Prop, Q (some (.inl 0)) (185, s, T, I, J, R) → wpc codeT mX (d + 1) 15 [.inr (.inr (some 0)), .inl a, .inl b, .inl z] (185, s, T, I, J, R) Q := by
      intro Q hQ
      simp only [s15_0, s15_1, s15_2, s15_3, s15_4, s15_5, s15_6, s15_7, s15_8, s15_9, s15_10, s15_11, s15_12, s15_13, s15_14, e15, Option.toList_some, Option.toList_none, List.cons_append, List.nil_append, Nat.le_refl, true_and, and_true, true_or, or_true, false_or, or_false, true_implies, false_implies, implies_true, not_true_eq_false, not_false_eq_true, eq_self, Nat.reduceLT, Nat.reduceLeDiff, Nat.reduceEqDiff, Nat.reduceAdd, Nat.reduceSub, Int.reduceLT, Int.reduceLE, Int.reduceEq, Int.reduceNeg, Int.reduceNe, Int.reduceAdd, Int.reduceSub, Int.reduceMul, Int.reduceToNat, Int.toNat_zero, Int.toNat_one, Int.toNat_natCast, am_cats, am_cat, am_st1, am_st2, am_clr, up2_na, up2_nj, up2_same, List.getElem?_cons_zero, List.getElem?_cons_succ, List.set_cons_zero, List.set_cons_succ, ne_eq, tk_0 hh, k16 hh, k17 hh, k18, i10, Classical.not_not]
      exact ⟨fun _ => hQ, fun q1 => ⟨fun _ => hQ, fun q2 => ⟨fun _ => hQ, fun q3 => absurd ⟨q1, q2, q3⟩ hg⟩⟩⟩
    exact go _ (fun _ hH1 m1 s1 => ⟨0, rfl, fin _ (fun _ hH2 m2 => ⟨0, rfl, fun q => (by cases q), hU⟩)⟩)
end

theorem adX_cg {I X : Nat → Nat → Int} {h t n a j : Nat} {day right had : Int} (h6 : h < 6) (e : ∀ a j, (a = 17 ∧ j = 3 ∨ 19 ≤ a ∧ a ≤ 53) → X a j = I a j) (ha : a = 17 ∧ j = 3 ∨ 19 ≤ a ∧ a ≤ 53) : adX X h t n day right had a j = adX I h t n day right had a j := by
  have e1 := e (25 + h) t (by omega)
  have e2 := e (33 + h) t (by omega)
  have e3 := e 39 h (by omega)
  have e4 := e a j ha
  unfold adX up2
  rw [e1, e2, e3, e4]
/-- what each store of a task's gives is told by the laws -/
theorem lwG_all {g : AH} (hw : LKW g) (F U S : Nat → Int) : ∃ V : Nat → Int, ∀ k, k < 6 → lwG g.2.2.2.1 g.2.2.2.2.2 k (ftK F (U k) (S k)) (V k) ∧ 0 ≤ V k ∧ V k ≤ 100 := by
  have ex : ∀ k, ∃ v, k < 6 → lwG g.2.2.2.1 g.2.2.2.2.2 k (ftK F (U k) (S k)) v ∧ 0 ≤ v ∧ v ≤ 100 := fun k => by
    by_cases z : k < 6
    · obtain ⟨v, hv⟩ := lwG_ex hw z (ftK F (U k) (S k))
      exact ⟨v, fun _ => hv⟩
    · exact ⟨0, fun h => absurd h z⟩
  exact ⟨fun k => (ex k).choose, fun k hk => (ex k).choose_spec hk⟩
theorem lawIds_54 : ∀ q, q ∈ lawIds → 54 ≤ q := fun q hq => by have := lawIds_b hq; omega
section
variable {L s d : Nat} {X : Nat → Int}
set_option maxHeartbeats 2000000 in
theorem px_doesG (hL : L ≤ 3072) (hX : ∀ j, rg32 (X j)) (hd : 40 ≤ d) {P P' : AH → Prop} (hp : ∀ g, P g → LAL g) (qq0 : ∀ g, P g → P' g) (qq1 : ∀ (s : Nat) (T : Nat → Nat × Nat) (I Y J : Nat → Nat → Int) (R : Nat → Nat → Option Nat) (h t n : Nat) (day right had : Int), P (185, s, T, I, J, R) → eH (185, s, T, I, J, R) → h < 6 → t < 8 → (t : Int) < I 3 3 → n < 200 → I 17 3 = n → 0 ≤ right ∧ right ≤ 1 → (∀ a j, 152 ≤ a → a ≠ 173 → a ≠ 174 → (a = 152 → j ≠ 6) → Y a j = I a j) → (∀ a j, (a = 17 ∧ j = 3 ∨ 19 ≤ a ∧ a ≤ 53) → Y a j = adX I h t n day right had a j) → P' (185, s, T, adR Y h t n day right had, J, R)) : prx L X s P P' d 66 170 2 false true := by
  refine prx_mk (cx := cn82) (cm := cn145) (nx := 2) (nm := 1) hL hX (cn_all 82 (by decide) cn82 rfl) (cn_all 145 (by decide) cn145 rfl) rfl hd (fun as g hl hr hH hs hP => ?_)
  obtain ⟨a, b, rfl⟩ := len2 hl
  obtain ⟨c, s, T, I, J, R⟩ := g
  obtain ⟨d, rfl⟩ : ∃ e, d = e + 6 := ⟨d - 6, by omega⟩
  have hc : c = 185 := hH.1
  subst hc
  have hh := hp_of (eH5_of hH)
  have hP0 := hP
  obtain ⟨hP, ⟨⟨hR, hG, hPP⟩, hU0⟩, hW⟩ := hp _ hP
  have hP : LK I := hP
  have hR : lkR I := hR
  have hG : lkG I := hG
  have hPP : lkP I := hPP
  have hU0 : lkU I := hU0
  obtain ⟨l0, l1, l2, l3, l4, l5, l6, l7, l8, l9, l10, l11, l12, l13, l14, l15⟩ := hP
  have e0 : I 0 0 = I 152 0 := l0
  have e1 : I 0 1 = I 152 1 := l1
  have e2 : I 0 2 = I 152 2 := l2
  have e3 : I 3 3 = I 152 3 := l5
  have e4 : I 17 3 = I 152 4 := l6
  have ex : I 0 4 = I 152 6 := l4
  have b0 : 0 ≤ I 0 0 ∧ I 0 0 ≤ 299 := ebd hH (by decide) (by decide) (by decide)
  have b1 : 0 ≤ I 0 1 ∧ I 0 1 ≤ 6 := ebd hH (by decide) (by decide) (by decide)
  have b2 : 0 ≤ I 0 2 ∧ I 0 2 ≤ 6 := ebd hH (by decide) (by decide) (by decide)
  have b3 : 0 ≤ I 3 3 ∧ I 3 3 ≤ 8 := ebd hH (by decide) (by decide) (by decide)
  have b4 : 0 ≤ I 17 3 ∧ I 17 3 ≤ 200 := ebd hH (by decide) (by decide) (by decide)
  obtain ⟨n, hn⟩ : ∃ n : Nat, I 17 3 = n := ⟨(I 17 3).toNat, by omega⟩
  obtain ⟨ns, hns⟩ : ∃ n : Nat, I 0 1 = n := ⟨(I 0 1).toNat, by omega⟩
  have ns6 : ns ≤ 6 := by omega
  have hm : I 152 4 = n := e4.symm.trans hn
  have n200 : n ≤ 200 := by omega
  show wpc codeT mX (d + 3 + 3) 66 [.inr (.inr (some 0)), .inl a, .inl b] _ _
  by_cases hg : (0 ≤ a ∧ a < I 0 2) ∧ (0 ≤ b ∧ b < I 3 3) ∧ n < 200
  · obtain ⟨g1, g2, g4⟩ := hg
    obtain ⟨h, rfl⟩ : ∃ n : Nat, a = n := ⟨a.toNat, by omega⟩
    obtain ⟨t, rfl⟩ : ∃ n : Nat, b = n := ⟨b.toNat, by omega⟩
    have h6 : h < 6 := by omega
    have t8 : t < 8 := by omega
    have h5' : (h : Int) ≤ 5 := by omega
    have t7' : (t : Int) ≤ 7 := by omega
    have n9' : (n : Int) ≤ 199 := by omega
    have b0m : 0 ≤ I 152 0 ∧ I 152 0 ≤ 299 := by omega
    have h0' : 0 ≤ (h : Int) := by omega
    have t0' : 0 ≤ (t : Int) := by omega
    have n0' : 0 ≤ (n : Int) := by omega
    obtain ⟨ta, tb, -, -, tc, td, -, -, -, tk⟩ := l11.1 t t8 g2.2
    -- what each store gives
    obtain ⟨F, hF⟩ : ∃ F, F = ltF (mny I h t n) (lsF I h t n) (snF I h t n) (alF I h n) (I 14 t) t (I 0 0) := ⟨_, rfl⟩
    obtain ⟨U, hU⟩ : ∃ U : Nat → Int, U = fun k => I (5 + t) k := ⟨_, rfl⟩
    obtain ⟨S, hS⟩ : ∃ S : Nat → Int, S = fun k => I (88 + h) k := ⟨_, rfl⟩
    obtain ⟨V, hV⟩ := lwG_all hW F U S
    have eU : ∀ k, U k = I (5 + t) k := fun k => by rw [hU]
    have eS : ∀ k, S k = I (88 + h) k := fun k => by rw [hS]
    have gb : ∀ k, k < ns → 0 ≤ gvF (V k) (S k) ∧ gvF (V k) (S k) ≤ 100 := fun k hk => gvF_b (hV k (by omega)).2 (by rw [eS]; exact hU0 h k h6 (by omega))
    have ub : ∀ k, k < ns → 0 ≤ U k := fun k hk => by rw [eU]; exact (tk k (by omega)).2.1
    obtain ⟨z, hz⟩ : ∃ z, z = hvX (fun k => gvF (V k) (S k)) U (I 13 t) ns := ⟨_, rfl⟩
    have zb : 0 ≤ z ∧ z ≤ 100 := by rw [hz]; exact hvX_b (n := ns) gb ns (Nat.le_refl _)
    have zM : hvM (fun k => gvF (V k) (S k)) U (I 13 t) ns = z := by
      rcases hv_eq (mode := I 13 t) (n := ns) gb ub ns (Nat.le_refl _) with ⟨-, -, q⟩ | ⟨q, -⟩
      · obtain ⟨k, k6, kn, k0⟩ := lkT_some l11 t8 g2.2 hns
        have := q k kn
        rw [eU] at this
        omega
      · rw [hz, q]
    have hcl := x68 (d := d) (s := s) (J := J) (p := 31) (V := V) (F := F) (U := U) (S := S) (day := I 0 0) (Q := fun v g1 => v = some (.inl z) ∧ ∃ I1, g1 = (185, s, T, I1, J, R) ∧ frW I I1) hh (Or.inl rfl) h6 t8 ns6 (fun v h9 h5 hh6 => by rw [hF]; exact tdI_v n200 h6 t8 (hPP n hn) v h9 h5 hh6) hns rfl (fun k _ => (eU k).symm) (fun k _ => (eS k).symm) (fun k hk _ => (hV k (by omega)).1) (fun I2 f2 => ⟨by rw [hz], I2, rfl, f2⟩)
    refine x66 hh h6 t8 hn g4 g1.2 g2.2 ?_
    have hc80 := cn_all 80 (by decide) cn80 rfl
    refine wpc_mono (wpc_and (hc80 (185, s, T, I, J, R) [some (.inr (.inr (some 0))), some (.inl (h : Int)), some (.inl (t : Int)), some (.inr (.inr (some 31))), some (.inl (I 0 0)), none, none, none, none] hH hs ⟨⟨⟨rfl, List.mem_singleton.mpr rfl, by decide, by decide⟩, ⟨rfl, h0', h5'⟩, ⟨rfl, t0', t7'⟩, ⟨rfl, List.mem_cons_self .., by decide, by decide⟩, ⟨rfl, b0.1, b0.2⟩, trivial, trivial, trivial, trivial, trivial⟩, fun e he => (List.not_mem_nil he).elim, fun e he => (List.not_mem_nil he).elim, fun e he => (List.not_mem_nil he).elim⟩ (d + 5) (Nat.le_trans (show cn80.2.2.2.2.1 ≤ 39 by decide) (by omega))) hcl) ?_
    rintro v g9 ⟨⟨r1, r2, r3⟩, rfl, I1, rfl, fI⟩
    refine ⟨z, I1, J, R, rfl, rfl, hh, fun x y hx => (r3.2.2.2 x y hx).1, ?_⟩
    intro _ hH1 m1 sc1
    refine ⟨_, rfl, ?_⟩
    have eX : ∀ a j, 54 ≤ a → adX (up2 I1 0 4 (drw (I 0 4))) h t n (I 0 0) (rtX (I 14 t) z (drw (I 0 4))) z a j = I1 a j := fun a j ha => by
      rw [adX_o (by omega) h6, up2_na (by omega)]
    have eA : ∀ a j, (a = 17 ∧ j = 3 ∨ 19 ≤ a ∧ a ≤ 53) → adX (up2 I1 0 4 (drw (I 0 4))) h t n (I 0 0) (rtX (I 14 t) z (drw (I 0 4))) z a j = adX I h t n (I 0 0) (rtX (I 14 t) z (drw (I 0 4))) z a j := fun a j ha => adX_cg h6 (fun a j ha => by
      rw [up2_na (by omega)]
      exact frW_lo fI (by omega)) ha
    generalize hI2 : adX (up2 I1 0 4 (drw (I 0 4))) h t n (I 0 0) (rtX (I 14 t) z (drw (I 0 4))) z = I2 at *
    have eM : ∀ a j, 152 ≤ a → a ≠ 173 → a ≠ 174 → I2 a j = I a j := fun a j h1 h3 h4 => (eX a j (by omega)).trans (frW_hi fI h1 h3 h4)
    have f0 : I2 152 0 = I 0 0 := (eM 152 0 (by decide) (by decide) (by decide)).trans e0.symm
    have f1 : I2 152 1 = ns := (eM 152 1 (by decide) (by decide) (by decide)).trans (e1.symm.trans hns)
    have f2 : I2 152 2 = I 152 2 := eM 152 2 (by decide) (by decide) (by decide)
    have f3 : I2 152 3 = I 152 3 := eM 152 3 (by decide) (by decide) (by decide)
    have f4 : I2 152 4 = I 152 4 := eM 152 4 (by decide) (by decide) (by decide)
    have f6 : I2 152 6 = I 0 4 := (eM 152 6 (by decide) (by decide) (by decide)).trans ex.symm
    have f156 : I2 156 t = I 14 t := (eM 156 t (by decide) (by decide) (by decide)).trans tb.symm
    have f155 : I2 155 t = I 13 t := (eM 155 t (by decide) (by decide) (by decide)).trans ta.symm
    have fc : ∀ x j, 157 ≤ x → x ≤ 161 → I2 x j = I x j := fun x j h1 h2 => eM x j (by omega) (by omega) (by omega)
    have hrf := x171 (d := d + 1) (s := s) (J := J) (I := I2) (R := R) (h := h) (t := t) (N := n) (V := V) (F := F) (U := U) (S := S) (day := I2 152 0) (mode := I 13 t) (Q := fun v g1 => v = some (.inl z) ∧ ∃ I3, g1 = (185, s, T, I3, J, R) ∧ frW I2 I3) hh h6 t8 ns6 n200 (fun v h9 h5 hh6 => by
      rw [flI_v v h9 h5 hh6, hF, f156, f0, mny_of (I := I) n (fun i _ => ⟨fc 157 i (by decide) (by decide), fc 158 i (by decide) (by decide)⟩), lsF_of (I := I) n (fun i _ => ⟨fc 157 i (by decide) (by decide), fc 158 i (by decide) (by decide), fc 159 i (by decide) (by decide)⟩), snF_of (I := I) n (fun i _ => ⟨fc 157 i (by decide) (by decide), fc 158 i (by decide) (by decide)⟩), alF_of (I := I) n (fun i _ => fc 157 i (by decide) (by decide))]) f1 f155 (fun k hk => by rw [eU, eM _ _ (by decide) (by decide) (by decide)]; exact ((tk k hk).1).symm) (fun k hk => by rw [eS, eM _ _ (by decide) (by decide) (by decide)]; exact (l10 h k h6 hk).symm) (fun k hk _ => lwG_eq (fun q hq => by
        have q54 := lawIds_54 q hq
        have hqb := lawIds_b hq
        refine ⟨(eX q 0 q54).trans (fI q 0 (lawIds_w.1 q hq).1 (by omega) (by omega) (fun q' hq' => ⟨(lawIds_w.1 q hq).2 q' hq', fun _ => rfl⟩)), fun i j i1 i4 => ?_⟩
        obtain ⟨a1, a2⟩ := lawIds_w.2 q hq i i1 i4
        exact (eX _ _ (by omega)).trans (fI _ _ a1 (by omega) (by omega) (fun q' hq' => ⟨(a2 q' hq').1, fun zz => absurd zz (a2 q' hq').2⟩))) (fun a j h1 h2 => eM a j (by omega) (by omega) (by omega)) rfl (hV k (by omega)).1) (fun I3 f3 => ⟨by rw [zM], I3, rfl, f3⟩)
    show wpc codeT mX (d + 3 + 3) 170 [.inr (.inr (some 152)), .inl (h : Int), .inl (t : Int)] (185, s, T, I2, J, R) _
    refine x170 hh h6 t8 (f4.trans hm) g4 (by rw [f2]; omega) (by rw [f3]; omega) ?_
    have hc144 := cn_all 144 (by decide) cn144 rfl
    refine wpc_mono (wpc_and (hc144 (185, s, T, I2, J, R) [some (.inr (.inr (some 152))), some (.inl (h : Int)), some (.inl (t : Int)), some (.inl (n : Int)), some (.inl (I2 152 0)), none, none, none] hH1 sc1 ⟨⟨⟨rfl, List.mem_singleton.mpr rfl, by decide, by decide⟩, ⟨rfl, h0', h5'⟩, ⟨rfl, t0', t7'⟩, ⟨rfl, n0', n9'⟩, ⟨rfl, by rw [f0]; exact b0.1, by rw [f0]; exact b0.2⟩, trivial, trivial, trivial, trivial⟩, fun e he => (List.not_mem_nil he).elim, fun e he => (List.not_mem_nil he).elim, fun e he => (List.not_mem_nil he).elim⟩ (d + 5) (Nat.le_trans (show cn144.2.2.2.2.1 ≤ 39 by decide) (by omega))) hrf) ?_
    rintro v g8 ⟨⟨t1, t2, t3⟩, rfl, I3, rfl, fI3⟩
    refine ⟨z, I3, J, R, rfl, rfl, hh, fun x y hx => (t3.2.2.2 x y hx).1, ?_⟩
    intro _ hH2 m2
    have er : rtX (I 14 t) z (drw (I 0 4)) = rtM (I2 156 t) z (drw (I2 152 6)) := by
      rw [f156, f6]
      exact rt_eq ⟨tc, td⟩ zb
    have hz1 := rtX_01 (a := I 14 t) (b := z) (c := drw (I 0 4))
    rw [← er, f0]
    have fY : ∀ a j, 152 ≤ a → a ≠ 173 → a ≠ 174 → (a = 152 → j ≠ 6) → up2 I3 152 6 (drw (I2 152 6)) a j = I a j := fun a j h1 h3 h4 h5 => by
      rw [up2_ne _ _ (by omega), frW_hi fI3 h1 h3 h4]
      exact eM a j h1 h3 h4
    have fX : ∀ a j, (a = 17 ∧ j = 3 ∨ 19 ≤ a ∧ a ≤ 53) → up2 I3 152 6 (drw (I2 152 6)) a j = adX I h t n (I 0 0) (rtX (I 14 t) z (drw (I 0 4))) z a j := fun a j ha => by
      rw [up2_na (by omega), frW_lo fI3 (by omega)]
      exact eA a j ha
    exact ⟨_, rfl, fun _ => rfl, qq1 _ _ _ _ _ _ h t n _ _ _ hP0 hH h6 t8 g2.2 g4 hn hz1 fY fX⟩
  · have hg2 : ¬ ((0 ≤ a ∧ a < I 152 2) ∧ (0 ≤ b ∧ b < I 152 3) ∧ n < 200) := by rw [← e2, ← e3]; exact hg
    have fin : ∀ Q : Option AV → AH → Prop, Q (some (.inl (-1))) (185, s, T, I, J, R) → wpc codeT mX (d + 3 + 3) 170 [.inr (.inr (some 152)), .inl a, .inl b] (185, s, T, I, J, R) Q := by
      intro Q hQ
      simp only [s170_0, s170_1, s170_2, s170_3, s170_4, s170_5, s170_6, s170_7, s170_8, s170_9, s170_10, s170_11, s170_12, s170_13, e170, Option.toList_some, Option.toList_none, List.cons_append, List.nil_append, Nat.le_refl, true_and, and_true, true_or, or_true, false_or, or_false, true_implies, false_implies, implies_true, not_true_eq_false, not_false_eq_true, eq_self, Nat.reduceLT, Nat.reduceLeDiff, Nat.reduceEqDiff, Nat.reduceAdd, Nat.reduceSub, Int.reduceLT, Int.reduceLE, Int.reduceEq, Int.reduceNeg, Int.reduceNe, Int.reduceAdd, Int.reduceSub, Int.reduceMul, Int.reduceToNat, Int.toNat_zero, Int.toNat_one, Int.toNat_natCast, am_cats, am_cat, am_st1, am_st2, am_clr, up2_na, up2_nj, up2_same, List.getElem?_cons_zero, List.getElem?_cons_succ, List.set_cons_zero, List.set_cons_succ, ne_eq, tk_152 hh, k134 hh, k164 hh, i10, Classical.not_not, hm]
      exact ⟨fun _ => hQ, fun q1 => ⟨fun _ => hQ, fun q2 => ⟨fun _ => hQ, fun q3 => absurd ⟨q1, q2, by omega⟩ hg2⟩⟩⟩
    have go : ∀ Q : Option AV → AH → Prop, Q (some (.inl (-1))) (185, s, T, I, J, R) → wpc codeT mX (d + 3 + 3) 66 [.inr (.inr (some 0)), .inl a, .inl b] (185, s, T, I, J, R) Q := by
      intro Q hQ
      simp only [s66_0, s66_1, s66_2, s66_3, s66_4, s66_5, s66_6, s66_7, s66_8, s66_9, s66_10, s66_11, s66_12, s66_13, e66, Option.toList_some, Option.toList_none, List.cons_append, List.nil_append, Nat.le_refl, true_and, and_true, true_or, or_true, false_or, or_false, true_implies, false_implies, implies_true, not_true_eq_false, not_false_eq_true, eq_self, Nat.reduceLT, Nat.reduceLeDiff, Nat.reduceEqDiff, Nat.reduceAdd, Nat.reduceSub, Int.reduceLT, Int.reduceLE, Int.reduceEq, Int.reduceNeg, Int.reduceNe, Int.reduceAdd, Int.reduceSub, Int.reduceMul, Int.reduceToNat, Int.toNat_zero, Int.toNat_one, Int.toNat_natCast, am_cats, am_cat, am_st1, am_st2, am_clr, up2_na, up2_nj, up2_same, List.getElem?_cons_zero, List.getElem?_cons_succ, List.set_cons_zero, List.set_cons_succ, ne_eq, tk_0 hh, tk_17 hh, rk_0_7 hh, k16 hh, k51 hh, k67 hh, i10, Classical.not_not, hn]
      exact ⟨fun _ => hQ, fun q1 => ⟨fun _ => hQ, fun q2 => ⟨fun q3 => absurd ⟨q1, q2, by omega⟩ hg, fun _ => hQ⟩⟩⟩
    exact go _ (fun _ hH1 m1 s1 => ⟨-1, rfl, fin _ (fun _ hH2 m2 => ⟨-1, rfl, fun _ => rfl, qq0 _ hP0⟩)⟩)
theorem px_does (hL : L ≤ 3072) (hX : ∀ j, rg32 (X j)) (hd : 40 ≤ d) {P : AH → Prop} (hp : ∀ g, P g → LAL g) : prx L X s P LRG d 66 170 2 false true := by
  refine px_doesG hL hX hd hp (fun g h => (hp g h).2.1.1) (fun s T I Y J R h t n day right had hP hH h6 t8 t3 n2 hn hz fY fX => ?_)
  obtain ⟨hR, hG, hPP⟩ := (hp _ hP).2.1.1
  have fY2 : ∀ a j, 157 ≤ a → a ≤ 161 → Y a j = I a j := fun a j h1 h2 => fY a j (by omega) (by omega) (by omega) (fun z => by omega)
  exact ⟨lkR_ad h6 hn fY2 fX hR, lkG_ad h6 hn n2 hz (fun j hj => ebd hH (by decide) (by show j < 200; omega) ((bI_hi (by decide)).trans (by decide))) fY2 fX hG, lkP_ad h6 hn n2 fY2 fX hPP⟩
end
