/-! the law by hand, 11: the pair task -/
section
variable {I Y : Nat → Nat → Int}
theorem up2_if {f : Nat → Nat → Int} {a z j : Nat} {v : Int} : up2 f a z v a j = if j = z then v else f a j := by
  by_cases h : j = z
  · rw [h, up2_same, if_pos rfl]
  · rw [up2_nj h, if_neg h]
/-- a refused task's digits -/
theorem lkT_no {I : Nat → Nat → Int} {z D S : Nat} (hz : z < 8) (hS : (S : Int) = I 0 1) (h3 : I 3 3 = z) (h : lkT I) : lkT (tkH I z D S) := by
  have e3 : tkH I z D S 3 3 = z := (tkH_o (by omega)).trans h3
  have e1 : tkH I z D S 0 1 = I 0 1 := tkH_o (by omega)
  have eA : ∀ j, tkH I z D S 154 j = I 154 j := fun j => tkH_o (by omega)
  refine ⟨fun t h8 ht => ?_, fun t k h8 hk ht hk1 => ?_⟩
  · rw [e3] at ht
    have hne : t ≠ z := by omega
    have r13 : tkH I z D S 13 t = I 13 t := tkH_o (by omega)
    have r14 : tkH I z D S 14 t = I 14 t := tkH_o (by omega)
    have r155 : tkH I z D S 155 t = I 155 t := tkH_o (by omega)
    have r156 : tkH I z D S 156 t = I 156 t := tkH_o (by omega)
    have r15 : tkH I z D S 15 t = I 15 t := by
      unfold tkH
      rw [if_neg (show ¬ (15 = 5 + z ∧ t < S) by omega), if_neg (show ¬ (15 = 15 ∧ t = z) by omega), if_neg (show ¬ (15 = 16 ∧ t = z) by omega)]
    have r16 : tkH I z D S 16 t = I 16 t := by
      unfold tkH
      rw [if_neg (show ¬ (16 = 5 + z ∧ t < S) by omega), if_neg (show ¬ (16 = 15 ∧ t = z) by omega), if_neg (show ¬ (16 = 16 ∧ t = z) by omega)]
    have r5 : ∀ k, tkH I z D S (5 + t) k = I (5 + t) k := fun k => by
      unfold tkH
      rw [if_neg (show ¬ (5 + t = 5 + z ∧ k < S) by omega), if_neg (show ¬ (5 + t = 15 ∧ k = z) by omega), if_neg (show ¬ (5 + t = 16 ∧ k = z) by omega)]
    have := h.1 t h8 (by omega)
    unfold useA useB at this ⊢
    rw [r13, r14, r15, r16, r155, r156, eA, eA, eA, eA, eA, eA, e1]
    refine ⟨this.1, this.2.1, this.2.2.1, this.2.2.2.1, this.2.2.2.2.1, this.2.2.2.2.2.1, this.2.2.2.2.2.2.1, this.2.2.2.2.2.2.2.1, this.2.2.2.2.2.2.2.2.1, fun k hk => ?_⟩
    rw [r5, eA]
    exact this.2.2.2.2.2.2.2.2.2 k hk
  · rw [e1] at hk1
    rw [e3] at ht
    have := h.2 t k h8 hk (by omega) hk1
    unfold tkH
    rw [if_neg (show ¬ (5 + t = 5 + z ∧ k < S) by omega), if_neg (show ¬ (5 + t = 15 ∧ k = z) by omega), if_neg (show ¬ (5 + t = 16 ∧ k = z) by omega)]
    exact this
theorem bit_d {D j : Nat} : bit1 (dgt D j : Int) ((2 ^ j : Nat) : Int) = ((if 0 < dgt D j then 2 ^ j else 0 : Nat) : Int) := by
  unfold bit1
  by_cases h : 0 < dgt D j
  · rw [if_pos (by omega), if_pos h]
  · rw [if_neg (by omega), if_neg h]; rfl
/-- a task more -/
theorem lkT_yes {I : Nat → Nat → Int} {z D S : Nat} {mo ha : Int} (hz : z < 8) (hS : (S : Int) = I 0 1) (hS6 : S ≤ 6) (h3 : I 3 3 = z) (hD : 0 < D) (h0 : qd D S = 0) (hm : 0 ≤ mo ∧ mo ≤ 1) (hh : 0 ≤ ha ∧ ha ≤ 100) (h : lkT I) : lkT (up2 (up2 (up2 (tkM (up2 (up2 (up2 (tkH I z D S) 13 z mo) 14 z ha) 3 3 ((z + 1 : Nat) : Int)) z D 6) 155 z mo) 156 z ha) 152 3 ((z + 1 : Nat) : Int)) := by
  generalize hG : up2 (up2 (up2 (tkM (up2 (up2 (up2 (tkH I z D S) 13 z mo) 14 z ha) 3 3 ((z + 1 : Nat) : Int)) z D 6) 155 z mo) 156 z ha) 152 3 ((z + 1 : Nat) : Int) = G
  have r3 : G 3 3 = ((z + 1 : Nat) : Int) := by
    rw [← hG, up2_na (by decide), up2_na (by decide), up2_na (by decide), tkM_o (by decide), up2_same]
  have r1 : G 0 1 = I 0 1 := by
    rw [← hG, up2_na (by decide), up2_na (by decide), up2_na (by decide), tkM_o (by decide), up2_na (by decide), up2_na (by decide), up2_na (by decide), tkH_o (by omega)]
  have r13 : ∀ t, G 13 t = if t = z then mo else I 13 t := fun t => by
    rw [← hG, up2_na (by decide), up2_na (by decide), up2_na (by decide), tkM_o (by decide), up2_na (by decide), up2_na (by decide), up2_if, tkH_o (by omega)]
  have r14 : ∀ t, G 14 t = if t = z then ha else I 14 t := fun t => by
    rw [← hG, up2_na (by decide), up2_na (by decide), up2_na (by decide), tkM_o (by decide), up2_na (by decide), up2_if, up2_na (by decide), tkH_o (by omega)]
  have r155 : ∀ t, G 155 t = if t = z then mo else I 155 t := fun t => by
    rw [← hG, up2_na (by decide), up2_na (by decide), up2_if, tkM_o (by decide), up2_na (by decide), up2_na (by decide), up2_na (by decide), tkH_o (by omega)]
  have r156 : ∀ t, G 156 t = if t = z then ha else I 156 t := fun t => by
    rw [← hG, up2_na (by decide), up2_if, up2_na (by decide), tkM_o (by decide), up2_na (by decide), up2_na (by decide), up2_na (by decide), tkH_o (by omega)]
  have rH : ∀ a j, a = 15 ∨ a = 16 ∨ (5 ≤ a ∧ a ≤ 12) → G a j = tkH I z D S a j := fun a j ha => by
    rw [← hG, up2_na (by omega), up2_na (by omega), up2_na (by omega), tkM_o (by omega), up2_na (by omega), up2_na (by omega), up2_na (by omega)]
  have rM : ∀ j, G 154 j = if 6 * z ≤ j ∧ j < 6 * z + 6 then (dgt D (j - 6 * z) : Int) else I 154 j := fun j => by
    rw [← hG, up2_na (by decide), up2_na (by decide), up2_na (by decide)]
    unfold tkM
    by_cases hj : 6 * z ≤ j ∧ j < 6 * z + 6
    · rw [if_pos (show 154 = 154 ∧ 6 * z ≤ j ∧ j < 6 * z + 6 from ⟨rfl, hj⟩), if_pos hj]
    · rw [if_neg (show ¬ (154 = 154 ∧ 6 * z ≤ j ∧ j < 6 * z + 6) from fun x => hj x.2), if_neg hj, up2_na (by decide), up2_na (by decide), up2_na (by decide), tkH_o (by omega)]
  clear hG
  refine ⟨fun t h8 ht => ?_, fun t k h8 hk ht hk1 => ?_⟩
  · rw [r3] at ht
    by_cases hne : t = z
    · subst hne
      have m0 : G 154 (6 * t) = (dgt D 0 : Int) := by rw [rM, if_pos (by omega), show 6 * t - 6 * t = 0 by omega]
      have m1 : G 154 (6 * t + 1) = (dgt D 1 : Int) := by rw [rM, if_pos (by omega), show 6 * t + 1 - 6 * t = 1 by omega]
      have m2 : G 154 (6 * t + 2) = (dgt D 2 : Int) := by rw [rM, if_pos (by omega), show 6 * t + 2 - 6 * t = 2 by omega]
      have m3 : G 154 (6 * t + 3) = (dgt D 3 : Int) := by rw [rM, if_pos (by omega), show 6 * t + 3 - 6 * t = 3 by omega]
      have m4 : G 154 (6 * t + 4) = (dgt D 4 : Int) := by rw [rM, if_pos (by omega), show 6 * t + 4 - 6 * t = 4 by omega]
      have m5 : G 154 (6 * t + 5) = (dgt D 5 : Int) := by rw [rM, if_pos (by omega), show 6 * t + 5 - 6 * t = 5 by omega]
      have s6 := sd_tail h0 (6 - S)
      rw [show S + (6 - S) = 6 by omega] at s6
      have q16 : G 16 t = (sdN D 6 : Int) := by rw [rH 16 t (by omega), tkH_16 h8, s6.1]
      have q15 : G 15 t = (obN D 6 : Int) := by rw [rH 15 t (by omega), tkH_15 h8, s6.2]
      have sp := sd_pos hD S h0
      have eA : useA G t = (sdN D 6 : Int) := by
        unfold useA
        rw [m0, m1, m2, m3, m4, m5]
        show _ = ((0 + dgt D 0 + dgt D 1 + dgt D 2 + dgt D 3 + dgt D 4 + dgt D 5 : Nat) : Int)
        omega
      have eB : useB G t = (obN D 6 : Int) := by
        unfold useB
        rw [m0, m1, m2, m3, m4, m5]
        have b0 := bit_d (D := D) (j := 0)
        have b1 := bit_d (D := D) (j := 1)
        have b2 := bit_d (D := D) (j := 2)
        have b3 := bit_d (D := D) (j := 3)
        have b4 := bit_d (D := D) (j := 4)
        have b5 := bit_d (D := D) (j := 5)
        rw [show (1 : Int) = ((2 ^ 0 : Nat) : Int) from rfl, show (2 : Int) = ((2 ^ 1 : Nat) : Int) from rfl, show (4 : Int) = ((2 ^ 2 : Nat) : Int) from rfl, show (8 : Int) = ((2 ^ 3 : Nat) : Int) from rfl, show (16 : Int) = ((2 ^ 4 : Nat) : Int) from rfl, show (32 : Int) = ((2 ^ 5 : Nat) : Int) from rfl, b0, b1, b2, b3, b4, b5]
        show _ = ((0 + (if 0 < dgt D 0 then 2 ^ 0 else 0) + (if 0 < dgt D 1 then 2 ^ 1 else 0) + (if 0 < dgt D 2 then 2 ^ 2 else 0) + (if 0 < dgt D 3 then 2 ^ 3 else 0) + (if 0 < dgt D 4 then 2 ^ 4 else 0) + (if 0 < dgt D 5 then 2 ^ 5 else 0) : Nat) : Int)
        generalize (if 0 < dgt D 0 then 2 ^ 0 else 0 : Nat) = x0
        generalize (if 0 < dgt D 1 then 2 ^ 1 else 0 : Nat) = x1
        generalize (if 0 < dgt D 2 then 2 ^ 2 else 0 : Nat) = x2
        generalize (if 0 < dgt D 3 then 2 ^ 3 else 0 : Nat) = x3
        generalize (if 0 < dgt D 4 then 2 ^ 4 else 0 : Nat) = x4
        generalize (if 0 < dgt D 5 then 2 ^ 5 else 0 : Nat) = x5
        omega
      rw [r13, r14, r155, r156, if_pos rfl, if_pos rfl, if_pos rfl, if_pos rfl, q15, q16, eA, eB]
      refine ⟨rfl, rfl, hm.1, hm.2, hh.1, hh.2, rfl, rfl, by omega, fun k hk => ?_⟩
      have mk : G 154 (6 * t + k) = (dgt D k : Int) := by rw [rM, if_pos (by omega), show 6 * t + k - 6 * t = k by omega]
      have h9 := dgt_9 D k
      rw [mk, r1, rH (5 + t) k (by omega)]
      by_cases hkS : k < S
      · have : tkH I t D S (5 + t) k = (dgt D k : Int) := by
          unfold tkH
          rw [if_pos ⟨rfl, hkS⟩]
        rw [this]
        exact ⟨rfl, by omega, by omega, fun _ => by omega⟩
      · have e5 : tkH I t D S (5 + t) k = 0 := by
          have z2 := h.2 t k h8 hk (by omega) (by omega)
          unfold tkH
          rw [if_neg (show ¬ (5 + t = 5 + t ∧ k < S) by omega), if_neg (show ¬ (5 + t = 15 ∧ k = t) by omega), if_neg (show ¬ (5 + t = 16 ∧ k = t) by omega)]
          exact z2
        have ed : dgt D k = 0 := by
          unfold dgt
          have := qd_0 h0 (k - S)
          rw [show S + (k - S) = k by omega] at this
          rw [this]
        rw [e5, ed]
        exact ⟨rfl, Int.le_refl _, by decide, fun z => absurd z (by decide)⟩
    · have mo' : ∀ k, k < 6 → G 154 (6 * t + k) = I 154 (6 * t + k) := fun k hk => by rw [rM, if_neg (by omega)]
      have m0 := mo' 0 (by decide)
      rw [Nat.add_zero] at m0
      have eA : useA G t = useA I t := by
        unfold useA
        rw [m0, mo' 1 (by decide), mo' 2 (by decide), mo' 3 (by decide), mo' 4 (by decide), mo' 5 (by decide)]
      have eB : useB G t = useB I t := by
        unfold useB
        rw [m0, mo' 1 (by decide), mo' 2 (by decide), mo' 3 (by decide), mo' 4 (by decide), mo' 5 (by decide)]
      have q15 : G 15 t = I 15 t := by
        rw [rH 15 t (by omega)]
        unfold tkH
        rw [if_neg (show ¬ (15 = 5 + z ∧ t < S) by omega), if_neg (show ¬ (15 = 15 ∧ t = z) by omega), if_neg (show ¬ (15 = 16 ∧ t = z) by omega)]
      have q16 : G 16 t = I 16 t := by
        rw [rH 16 t (by omega)]
        unfold tkH
        rw [if_neg (show ¬ (16 = 5 + z ∧ t < S) by omega), if_neg (show ¬ (16 = 15 ∧ t = z) by omega), if_neg (show ¬ (16 = 16 ∧ t = z) by omega)]
      have q5 : ∀ k, G (5 + t) k = I (5 + t) k := fun k => by
        rw [rH (5 + t) k (by omega)]
        unfold tkH
        rw [if_neg (show ¬ (5 + t = 5 + z ∧ k < S) by omega), if_neg (show ¬ (5 + t = 15 ∧ k = z) by omega), if_neg (show ¬ (5 + t = 16 ∧ k = z) by omega)]
      have := h.1 t h8 (by omega)
      rw [r13, r14, r155, r156, if_neg hne, if_neg hne, if_neg hne, if_neg hne, q15, q16, eA, eB, r1]
      refine ⟨this.1, this.2.1, this.2.2.1, this.2.2.2.1, this.2.2.2.2.1, this.2.2.2.2.2.1, this.2.2.2.2.2.2.1, this.2.2.2.2.2.2.2.1, this.2.2.2.2.2.2.2.2.1, fun k hk => ?_⟩
      rw [q5, mo' k hk]
      exact this.2.2.2.2.2.2.2.2.2 k hk
  · rw [r1] at hk1
    rw [r3] at ht
    have := h.2 t k h8 hk (by omega) hk1
    rw [rH (5 + t) k (by omega)]
    unfold tkH
    rw [if_neg (show ¬ (5 + t = 5 + z ∧ k < S) by omega), if_neg (show ¬ (5 + t = 15 ∧ k = z) by omega), if_neg (show ¬ (5 + t = 16 ∧ k = z) by omega)]
    exact this
end
section
variable {L s d : Nat} {X : Nat → Int}
theorem pr_task (hL : L ≤ 3072) (hX : ∀ j, rg32 (X j)) (hd : 40 ≤ d) {cmp : Bool} : pr L X s LKP d 19 137 3 false cmp := by
  refine pr_mk (cx := cn4) (cm := cn137) (nx := 0) (nm := 2) hL hX (cn_all 4 (by decide) cn4 rfl) (cn_all 137 (by decide) cn137 rfl) rfl hd (fun as g hl hr hH hs hP => ?_)
  obtain ⟨a, b, y, rfl⟩ := len3 hl
  obtain ⟨c, s, T, I, J, R⟩ := g
  obtain ⟨d, rfl⟩ : ∃ e, d = e + 1 := ⟨d - 1, by omega⟩
  have hc : c = 185 := hH.1
  subst hc
  have hh := hp_of (eH5_of hH)
  have hP : LK I := hP
  have hra := hr a (List.mem_cons_self ..)
  unfold rg32 at hra
  obtain ⟨l0, l1, l2, l3, l4, l5, l6, l7, l8, l9, l10, l11, l12, l13, l14, l15⟩ := hP
  have e1 : I 0 1 = I 152 1 := l1
  have e3 : I 3 3 = I 152 3 := l5
  have b1 : 0 ≤ I 0 1 ∧ I 0 1 ≤ 6 := ebd hH (by decide) (by decide) (by decide)
  have b3 : 0 ≤ I 3 3 ∧ I 3 3 ≤ 8 := ebd hH (by decide) (by decide) (by decide)
  obtain ⟨z, hz⟩ : ∃ n : Nat, I 3 3 = n := ⟨(I 3 3).toNat, by omega⟩
  obtain ⟨S, hS⟩ : ∃ n : Nat, I 0 1 = n := ⟨(I 0 1).toNat, by omega⟩
  have hzm : I 152 3 = z := e3.symm.trans hz
  have hSm : I 152 1 = S := e1.symm.trans hS
  have keep : LKP (185, s, T, I, J, R) := ⟨l0, l1, l2, l3, l4, l5, l6, l7, l8, l9, l10, l11, l12, l13, l14, l15⟩
  show wpc codeT mX (d + 1) 19 [.inr (.inr (some 0)), .inl a, .inl b, .inl y] _ _
  by_cases hg : (0 ≤ b ∧ b ≤ 1) ∧ (0 ≤ y ∧ y ≤ 100)
  · obtain ⟨g1, g2⟩ := hg
    by_cases hg2 : 0 < a ∧ z < 8
    · obtain ⟨g3, g4⟩ := hg2
      obtain ⟨D, rfl⟩ : ∃ n : Nat, a = n := ⟨a.toNat, by omega⟩
      have D0 : 0 < D := by omega
      have Dm : D ≤ 2147483647 := by omega
      have S6 : S ≤ 6 := by omega
      have n3 : (3 : Nat) ≠ 5 + z := by omega
      have zm : tkH I z D S 152 3 = z := (tkH_o (by omega)).trans hzm
      have Sm : tkH I z D S 152 1 = S := (tkH_o (by omega)).trans hSm
      have nwn := lkT_no (D := D) g4 hS.symm hz l11
      have nwy := fun h0 => lkT_yes (mo := b) (ha := y) g4 hS.symm S6 hz D0 h0 g1 g2 l11
      simp only [e19, s19_0, s19_1, s19_2, s19_3, s19_4, s19_5, s19_6, s19_7, s19_8, s19_9, s19_10, s19_11, s19_12, s19_13, s19_14, s19_15, s19_16, s19_17, s19_18, s19_19, s19_20, Option.toList_some, Option.toList_none, List.cons_append, List.nil_append, Nat.le_refl, true_and, and_true, true_or, or_true, false_or, or_false, true_implies, false_implies, implies_true, not_true_eq_false, not_false_eq_true, eq_self, Nat.reduceLT, Nat.reduceLeDiff, Nat.reduceEqDiff, Nat.reduceAdd, Nat.reduceSub, Int.reduceLT, Int.reduceLE, Int.reduceEq, Int.reduceNeg, Int.reduceNe, Int.reduceAdd, Int.reduceSub, Int.reduceMul, Int.reduceToNat, Int.toNat_zero, Int.toNat_one, Int.toNat_natCast, am_cats, am_cat, am_st1, am_st2, am_clr, up2_na, up2_nj, up2_same, List.getElem?_cons_zero, List.getElem?_cons_succ, List.set_cons_zero, List.set_cons_succ, ne_eq, tk_0 hh, rk_0_6 hh, tk_3 hh, k18, i10, g1, g2, hS]
      refine x20 hh g4 hz D0 Dm S6 (fun h0 => ⟨⟨Nat.le_refl _, Nat.le_refl _⟩, s19_20.mpr (fun _ hH1 m1 s1 => ⟨_, rfl, ?_⟩)⟩) (fun h0 => ⟨⟨Nat.le_refl _, Nat.le_refl _⟩, s19_20.mpr (fun _ hH1 m1 s1 => ⟨_, rfl, ?_⟩)⟩)
      · show wpc codeT mX (d + 1) 137 [.inr (.inr (some 152)), .inl (D : Int), .inl b, .inl y] (185, s, T, tkH I z D S, J, R) _
        refine x137 hh g4 zm D0 Dm S6 Sm g1 g2 (fun _ _ hH2 m2 => ⟨_, rfl, fun _ => rfl, ?_⟩) (fun h => absurd h h0)
        have n5 : twn 3 3 152 3 (tkH I z D S) := by
          unfold twn
          rw [tkH_o (by omega), tkH_o (by omega)]
          exact e3
        refine ⟨rdS_2 (twn_S 0 0 152 0) (by decide +kernel : (disj cn4.2.2.2.1 _ && disj cn137.2.2.2.1 _) = true) m1 m2 l0, rdS_2 (twn_S 0 1 152 1) (by decide +kernel : (disj cn4.2.2.2.1 _ && disj cn137.2.2.2.1 _) = true) m1 m2 l1, rdS_2 (twn_S 0 2 152 2) (by decide +kernel : (disj cn4.2.2.2.1 _ && disj cn137.2.2.2.1 _) = true) m1 m2 l2, rdS_2 (twn_S 0 3 152 5) (by decide +kernel : (disj cn4.2.2.2.1 _ && disj cn137.2.2.2.1 _) = true) m1 m2 l3, rdS_2 (twn_S 0 4 152 6) (by decide +kernel : (disj cn4.2.2.2.1 _ && disj cn137.2.2.2.1 _) = true) m1 m2 l4, ?_, rdS_2 (twn_S 17 3 152 4) (by decide +kernel : (disj cn4.2.2.2.1 _ && disj cn137.2.2.2.1 _) = true) m1 m2 l6, rdS_2 (twn_S 102 3 152 46) (by decide +kernel : (disj cn4.2.2.2.1 _ && disj cn137.2.2.2.1 _) = true) m1 m2 l7, rdS_2 (twn_S 1 1 152 17) (by decide +kernel : (disj cn4.2.2.2.1 _ && disj cn137.2.2.2.1 _) = true) m1 m2 l8, rdS_2 (lkY_S) (by decide +kernel : (disj cn4.2.2.2.1 _ && disj cn137.2.2.2.1 _) = true) m1 m2 l9, rdS_2 (lkS_S) (by decide +kernel : (disj cn4.2.2.2.1 _ && disj cn137.2.2.2.1 _) = true) m1 m2 l10, ?_, rdS_2 (lkB_S) (by decide +kernel : (disj cn4.2.2.2.1 _ && disj cn137.2.2.2.1 _) = true) m1 m2 l12, rdS_2 (lkO_S) (by decide +kernel : (disj cn4.2.2.2.1 _ && disj cn137.2.2.2.1 _) = true) m1 m2 l13, rdS_2 (lkC_S) (by decide +kernel : (disj cn4.2.2.2.1 _ && disj cn137.2.2.2.1 _) = true) m1 m2 l14, rdS_2 (lkQ_S) (by decide +kernel : (disj cn4.2.2.2.1 _ && disj cn137.2.2.2.1 _) = true) m1 m2 l15⟩
        · exact n5
        · exact nwn
      · show wpc codeT mX (d + 1) 137 [.inr (.inr (some 152)), .inl (D : Int), .inl b, .inl y] (185, s, T, up2 (up2 (up2 (tkH I z D S) 13 z b) 14 z y) 3 3 ((z + 1 : Nat) : Int), J, R) _
        refine x137 hh g4 (by rw [up2_na (by decide), up2_na (by decide), up2_na (by decide)]; exact zm) D0 Dm S6 (by rw [up2_na (by decide), up2_na (by decide), up2_na (by decide)]; exact Sm) g1 g2 (fun h => absurd h0 h) (fun _ _ hH2 m2 => ⟨_, rfl, fun _ => rfl, ?_⟩)
        have n5 : twn 3 3 152 3 (up2 (up2 (up2 (tkM (up2 (up2 (up2 (tkH I z D S) 13 z b) 14 z y) 3 3 ((z + 1 : Nat) : Int)) z D 6) 155 z b) 156 z y) 152 3 ((z + 1 : Nat) : Int)) := by
          unfold twn
          rw [up2_same, up2_na (by decide), up2_na (by decide), up2_na (by decide), tkM_o (by decide), up2_same]
        refine ⟨rdS_2 (twn_S 0 0 152 0) (by decide +kernel : (disj cn4.2.2.2.1 _ && disj cn137.2.2.2.1 _) = true) m1 m2 l0, rdS_2 (twn_S 0 1 152 1) (by decide +kernel : (disj cn4.2.2.2.1 _ && disj cn137.2.2.2.1 _) = true) m1 m2 l1, rdS_2 (twn_S 0 2 152 2) (by decide +kernel : (disj cn4.2.2.2.1 _ && disj cn137.2.2.2.1 _) = true) m1 m2 l2, rdS_2 (twn_S 0 3 152 5) (by decide +kernel : (disj cn4.2.2.2.1 _ && disj cn137.2.2.2.1 _) = true) m1 m2 l3, rdS_2 (twn_S 0 4 152 6) (by decide +kernel : (disj cn4.2.2.2.1 _ && disj cn137.2.2.2.1 _) = true) m1 m2 l4, ?_, rdS_2 (twn_S 17 3 152 4) (by decide +kernel : (disj cn4.2.2.2.1 _ && disj cn137.2.2.2.1 _) = true) m1 m2 l6, rdS_2 (twn_S 102 3 152 46) (by decide +kernel : (disj cn4.2.2.2.1 _ && disj cn137.2.2.2.1 _) = true) m1 m2 l7, rdS_2 (twn_S 1 1 152 17) (by decide +kernel : (disj cn4.2.2.2.1 _ && disj cn137.2.2.2.1 _) = true) m1 m2 l8, rdS_2 (lkY_S) (by decide +kernel : (disj cn4.2.2.2.1 _ && disj cn137.2.2.2.1 _) = true) m1 m2 l9, rdS_2 (lkS_S) (by decide +kernel : (disj cn4.2.2.2.1 _ && disj cn137.2.2.2.1 _) = true) m1 m2 l10, ?_, rdS_2 (lkB_S) (by decide +kernel : (disj cn4.2.2.2.1 _ && disj cn137.2.2.2.1 _) = true) m1 m2 l12, rdS_2 (lkO_S) (by decide +kernel : (disj cn4.2.2.2.1 _ && disj cn137.2.2.2.1 _) = true) m1 m2 l13, rdS_2 (lkC_S) (by decide +kernel : (disj cn4.2.2.2.1 _ && disj cn137.2.2.2.1 _) = true) m1 m2 l14, rdS_2 (lkQ_S) (by decide +kernel : (disj cn4.2.2.2.1 _ && disj cn137.2.2.2.1 _) = true) m1 m2 l15⟩
        · exact n5
        · exact nwy h0
    · have hno : a ≤ 0 ∨ 8 ≤ I 3 3 := by omega
      simp only [e19, s19_0, s19_1, s19_2, s19_3, s19_4, s19_5, s19_6, s19_7, s19_8, s19_9, s19_10, s19_11, s19_12, s19_13, s19_14, s19_15, s19_16, s19_17, s19_18, s19_19, s19_20, Option.toList_some, Option.toList_none, List.cons_append, List.nil_append, Nat.le_refl, true_and, and_true, true_or, or_true, false_or, or_false, true_implies, false_implies, implies_true, not_true_eq_false, not_false_eq_true, eq_self, Nat.reduceLT, Nat.reduceLeDiff, Nat.reduceEqDiff, Nat.reduceAdd, Nat.reduceSub, Int.reduceLT, Int.reduceLE, Int.reduceEq, Int.reduceNeg, Int.reduceNe, Int.reduceAdd, Int.reduceSub, Int.reduceMul, Int.reduceToNat, Int.toNat_zero, Int.toNat_one, Int.toNat_natCast, am_cats, am_cat, am_st1, am_st2, am_clr, up2_na, up2_nj, up2_same, List.getElem?_cons_zero, List.getElem?_cons_succ, List.set_cons_zero, List.set_cons_succ, ne_eq, tk_0 hh, rk_0_6 hh, tk_3 hh, k18, i10, g1, g2, hS]
      refine x20_no hh hno ⟨⟨Nat.le_refl _, Nat.le_refl _⟩, s19_20.mpr (fun _ hH1 m1 s1 => ⟨_, rfl, ?_⟩)⟩
      show wpc codeT mX (d + 1) 137 [.inr (.inr (some 152)), .inl a, .inl b, .inl y] (185, s, T, I, J, R) _
      have fin : ∀ Q : Option AV → AH → Prop, Q (some (.inl (-1))) (185, s, T, I, J, R) → wpc codeT mX (d + 1) 137 [.inr (.inr (some 152)), .inl a, .inl b, .inl y] (185, s, T, I, J, R) Q := by
        intro Q hQ
        simp only [s137_0, s137_1, s137_2, s137_3, s137_4, s137_5, s137_6, s137_7, s137_8, s137_9, s137_10, s137_11, s137_12, s137_13, s137_14, s137_15, s137_16, s137_17, e137, Option.toList_some, Option.toList_none, List.cons_append, List.nil_append, Nat.le_refl, true_and, and_true, true_or, or_true, false_or, or_false, true_implies, false_implies, implies_true, not_true_eq_false, not_false_eq_true, eq_self, Nat.reduceLT, Nat.reduceLeDiff, Nat.reduceEqDiff, Nat.reduceAdd, Nat.reduceSub, Int.reduceLT, Int.reduceLE, Int.reduceEq, Int.reduceNeg, Int.reduceNe, Int.reduceAdd, Int.reduceSub, Int.reduceMul, Int.reduceToNat, Int.toNat_zero, Int.toNat_one, Int.toNat_natCast, am_cats, am_cat, am_st1, am_st2, am_clr, up2_na, up2_nj, up2_same, List.getElem?_cons_zero, List.getElem?_cons_succ, List.set_cons_zero, List.set_cons_succ, ne_eq, tk_152 hh, k136, i10, g1, g2]
        exact ⟨fun h1 => ⟨fun _ => hQ, fun h2 => absurd hg2 (by omega)⟩, fun _ => hQ⟩
      exact fin _ (fun _ hH2 m2 => ⟨-1, rfl, fun _ => rfl, keep⟩)
  · have fin : ∀ Q : Option AV → AH → Prop, Q (some (.inl (-1))) (185, s, T, I, J, R) → wpc codeT mX (d + 1) 137 [.inr (.inr (some 152)), .inl a, .inl b, .inl y] (185, s, T, I, J, R) Q := by
      intro Q hQ
      simp only [s137_0, s137_1, s137_2, s137_3, s137_4, s137_5, s137_6, s137_7, s137_8, s137_9, s137_10, s137_11, s137_16, s137_17, e137, Option.toList_some, Option.toList_none, List.cons_append, List.nil_append, Nat.le_refl, true_and, and_true, true_or, or_true, false_or, or_false, true_implies, false_implies, implies_true, not_true_eq_false, not_false_eq_true, eq_self, Nat.reduceLT, Nat.reduceLeDiff, Nat.reduceEqDiff, Nat.reduceAdd, Nat.reduceSub, Int.reduceLT, Int.reduceLE, Int.reduceEq, Int.reduceNeg, Int.reduceNe, Int.reduceAdd, Int.reduceSub, Int.reduceMul, Int.reduceToNat, Int.toNat_zero, Int.toNat_one, Int.toNat_natCast, am_cats, am_cat, am_st1, am_st2, am_clr, up2_na, up2_nj, up2_same, List.getElem?_cons_zero, List.getElem?_cons_succ, List.set_cons_zero, List.set_cons_succ, ne_eq, tk_152 hh, k136, i10, Classical.not_not]
      exact ⟨fun _ => ⟨fun _ => hQ, fun q2 => ⟨fun _ => hQ, fun q3 => absurd ⟨q2, q3⟩ hg⟩⟩, fun _ => hQ⟩
    have go : ∀ Q : Option AV → AH → Prop, Q (some (.inl (-1))) (185, s, T, I, J, R) → wpc codeT mX (d + 1) 19 [.inr (.inr (some 0)), .inl a, .inl b, .inl y] (185, s, T, I, J, R) Q := by
      intro Q hQ
      simp only [s19_0, s19_1, s19_2, s19_3, s19_4, s19_5, s19_6, s19_7, s19_8, s19_9, s19_10, s19_11, e19, Option.toList_some, Option.toList_none, List.cons_append, List.nil_append, Nat.le_refl, true_and, and_true, true_or, or_true, false_or, or_false, true_implies, false_implies, implies_true, not_true_eq_false, not_false_eq_true, eq_self, Nat.reduceLT, Nat.reduceLeDiff, Nat.reduceEqDiff, Nat.reduceAdd, Nat.reduceSub, Int.reduceLT, Int.reduceLE, Int.reduceEq, Int.reduceNeg, Int.reduceNe, Int.reduceAdd, Int.reduceSub, Int.reduceMul, Int.reduceToNat, Int.toNat_zero, Int.toNat_one, Int.toNat_natCast, am_cats, am_cat, am_st1, am_st2, am_clr, up2_na, up2_nj, up2_same, List.getElem?_cons_zero, List.getElem?_cons_succ, List.set_cons_zero, List.set_cons_succ, ne_eq, tk_0 hh, k18, i10, Classical.not_not]
      exact ⟨fun _ => hQ, fun q1 => ⟨fun _ => hQ, fun q3 => absurd ⟨q1, q3⟩ hg⟩⟩
    exact go _ (fun _ hH1 m1 s1 => ⟨-1, rfl, fin _ (fun _ hH2 m2 => ⟨-1, rfl, fun _ => rfl, keep⟩)⟩)
end
