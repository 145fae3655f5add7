/-! by hand, 20: what the reference's law leaves behind -/
theorem cG_b {m : Nat} {A0 V : Nat → Int} {a i j : Nat} {lo hi : Int} (h1 : ∀ q, q < i → lo ≤ V q ∧ V q ≤ hi) (h2 : lo ≤ A0 j ∧ A0 j ≤ hi) : lo ≤ cG m A0 V a i j ∧ cG m A0 V a i j ≤ hi := by
  unfold cG
  split
  · exact h1 _ (by omega)
  · exact h2
theorem law_wf {s : Nat} {T : Nat → Nat × Nat} {I J : Nat → Nat → Int} {R : Nat → Nat → Option Nat} {tp len p fa op cm' w sm nm : Int} {X W F H G : Nat → Int} {a cm k : Nat} (hW : eW (185, s, T, I, J, R)) (hB : ∀ j, j < 6 → I 169 j ≤ 12) (hk : k ≤ 12) (hcm : cm ≤ 180) (hC : CLz X F H G cm k) : eW (185, s, T, pI (mI I tp len (cG 180 (I 168) X a cm) (sx (I 169) a (k : Int)) (cG 12 (I 170) (fun j => 180 * (a : Int) + F j) a k) (cG 12 (I 171) (fun j => 180 * (a : Int) + H j) a k) (cG 12 (I 172) (fun j => 180 * (a : Int) + G j) a k)) p fa op cm' w sm nm X W F H G, J, R) := by
  refine ⟨fun b hb => ?_, fun h t hh ht => ?_⟩
  · intro q q1 q2
    have q2 : (q : Int) < 12 * b + sx (I 169) a (k : Int) b := q2
    show ∃ f m t : Nat, cG 12 (I 170) (fun j => 180 * (a : Int) + F j) a k q = f ∧ cG 12 (I 171) (fun j => 180 * (a : Int) + H j) a k q = (f + m : Nat) ∧ cG 12 (I 172) (fun j => 180 * (a : Int) + G j) a k q = (f + m + t : Nat) ∧ 180 * b ≤ f ∧ f + m + t ≤ 180 * b + 180 ∧ wfS (cG 180 (I 168) X a cm) (180 * b) f m ∧ wfS (cG 180 (I 168) X a cm) (180 * b) (f + m) t
    by_cases e : b = a
    · subst e
      rw [sx_s] at q2
      obtain ⟨r, rfl⟩ : ∃ r, q = 12 * b + r := ⟨q - 12 * b, by omega⟩
      have hr : r < k := by omega
      obtain ⟨f, m, t, z1, z2, z3, z4, z5, z6⟩ := hC r hr
      rw [cG_in hr, cG_in hr, cG_in hr]
      refine ⟨180 * b + f, m, t, by omega, by omega, by omega, by omega, by omega, wfS_cg z5 (fun i hi => ?_) (by omega), wfS_cg z6 (fun i hi => ?_) (by omega)⟩
      · rw [show 180 * b + f + i = 180 * b + (f + i) by omega]
        exact cG_in (by omega)
      · rw [show 180 * b + f + m + i = 180 * b + (f + m + i) by omega]
        exact cG_in (by omega)
    · rw [sx_n e] at q2
      have hb12 := hB b hb
      obtain ⟨f, m, t, z1, z2, z3, z4, z5, z6, z7⟩ := hW.1 b hb q q1 q2
      have o1 : ¬ (12 * a ≤ q ∧ q < 12 * a + k) := by omega
      rw [cG_out o1, cG_out o1, cG_out o1]
      refine ⟨f, m, t, z1, z2, z3, z4, z5, wfS_cg z6 (fun i hi => cG_out (by omega)) (by omega), wfS_cg z7 (fun i hi => cG_out (by omega)) (by omega)⟩
  · have e0 := hW.2 h t hh ht
    have e0 : I (25 + h) t ≤ I 17 3 := e0
    match h, hh with
    | 0, _ => exact e0
    | 1, _ => exact e0
    | 2, _ => exact e0
    | 3, _ => exact e0
    | 4, _ => exact e0
    | 5, _ => exact e0
set_option maxHeartbeats 2000000 in
theorem con_law : conS cn178 := by
  intro g ls hH hs hc d hd
  obtain ⟨c, s, T, I, J, R⟩ := g
  obtain ⟨d, rfl⟩ : ∃ e, d = e + 8 := ⟨d - 8, by have : 40 ≤ d := hd; omega⟩
  obtain ⟨p0, m0, rfl, q0, hc⟩ := rZ_cons hc.1
  obtain ⟨p1, m1, rfl, q1, hc⟩ := rZ_cons hc
  obtain ⟨p2, m2, rfl, q2, hc⟩ := rZ_cons hc
  obtain ⟨p3, m3, rfl, q3, hc⟩ := rZ_cons hc
  obtain ⟨p4, m4, rfl, q4, hc⟩ := rZ_cons hc
  obtain ⟨p5, m5, rfl, q5, hc⟩ := rZ_cons hc
  cases rZ_nil hc
  cases pLr (i := 152) q0
  obtain ⟨a, rfl, b1, b1'⟩ := pLi q1
  obtain ⟨n, rfl, b2, b2'⟩ := pLi q2
  have h5 := eH5_of hH
  have hW := hH.2.2.2.2.2
  have hc0 : c = 185 := hH.1
  subst hc0
  have hm := mdl_of h5
  have t152 : T 152 = (12, 53) := hm.1 152 (by decide)
  have t169 : T 169 = (100, 6) := hm.1 169 (by decide)
  have r2 : R 152 32 = some 169 := hm.2 32 169 (by decide +kernel) (by decide)
  have neg : conQ cn178 (185, s, T, I, J, R) (some (.inl (-1))) (185, s, T, I, J, R) := ⟨⟨rfl, by show (-2147483648 : Int) ≤ -1; decide, by show (-1 : Int) ≤ 2147483647; decide⟩, hH, eM_rf⟩
  have hst : 0 ≤ I 152 1 ∧ I 152 1 ≤ 6 := eB h5 (a := 152) (j := 1) (by decide) (by decide)
  have htp : 0 ≤ I 152 17 ∧ I 152 17 ≤ 200 := eB h5 (a := 152) (j := 17) (by decide) (by decide)
  show wp codeT mX (d + 8) 142 0 [some (.inr (.inr (some 152))), some (.inl a), some (.inl n), p3, p4, p5] [] _ _
  have key : 0 ≤ a → a < 6 → 1 ≤ n → n ≤ 160 → wp codeT mX (d + 8) 142 15 [some (.inr (.inr (some 152))), some (.inl a), some (.inl n), p3, p4, p5] [] (185, s, T, I, J, R) (conQ cn178 (185, s, T, I, J, R)) := by
    intro a0 a6 n1 n160
    obtain ⟨a, rfl⟩ : ∃ k : Nat, a = (k : Int) := ⟨a.toNat, by omega⟩
    obtain ⟨L, rfl⟩ : ∃ k : Nat, n = (k : Int) := ⟨n.toNat, by omega⟩
    have ha : a < 6 := by omega
    have hL2 : L ≤ 160 := by omega
    have bd : ∀ {x j : Nat} {lo hi : Int}, x < nO → j < (tT.getD x (0, 0)).2 → bI x j = (lo, hi) → lo ≤ I x j ∧ I x j ≤ hi := by
      intro x j lo hi h1 h2 h3
      have := eB h5 h1 h2
      rw [h3] at this
      exact this
    have hfa : rg (I 152 20) := bd (by decide) (by decide) (by decide)
    have hop : rg (I 152 21) := bd (by decide) (by decide) (by decide)
    have hnm : rg (I 152 25) := bd (by decide) (by decide) (by decide)
    have hw : 0 ≤ I 152 23 ∧ I 152 23 ≤ 180 := bd (by decide) (by decide) (by decide)
    have hX : XB (I 163) := fun j hj => bd (by decide) hj ((bI_hi (by decide)).trans (by decide))
    have hWW : XB (I 164) := fun j hj => bd (by decide) hj ((bI_hi (by decide)).trans (by decide))
    have hF : YB (I 165) := fun j hj => bd (by decide) hj ((bI_hi (by decide)).trans (by decide))
    have hHH : YB (I 166) := fun j hj => bd (by decide) hj ((bI_hi (by decide)).trans (by decide))
    have hG : YB (I 167) := fun j hj => bd (by decide) hj ((bI_hi (by decide)).trans (by decide))
    have hA : ∀ j, j < 1080 → rg (I 168 j) := fun j hj => bd (by decide) hj ((bI_hi (by decide)).trans (by decide))
    have hB : ∀ j, j < 6 → 0 ≤ I 169 j ∧ I 169 j ≤ 12 := fun j hj => bd (by decide) hj ((bI_hi (by decide)).trans (by decide))
    have hC : ∀ j, j < 72 → 0 ≤ I 170 j ∧ I 170 j ≤ 1080 := fun j hj => bd (by decide) hj ((bI_hi (by decide)).trans (by decide))
    have hD : ∀ j, j < 72 → 0 ≤ I 171 j ∧ I 171 j ≤ 1080 := fun j hj => bd (by decide) hj ((bI_hi (by decide)).trans (by decide))
    have hE : ∀ j, j < 72 → 0 ≤ I 172 j ∧ I 172 j ≤ 1080 := fun j hj => bd (by decide) hj ((bI_hi (by decide)).trans (by decide))
    obtain ⟨w, hww⟩ : ∃ k : Nat, I 152 23 = (k : Int) := ⟨(I 152 23).toNat, by omega⟩
    -- the two ends
    have finF : ∀ (p fa op cm w sm nm : Int) (X W F H G : Nat → Int), (0 ≤ p ∧ p ≤ 160) → rg fa → rg op → (0 ≤ cm ∧ cm ≤ 180) → (0 ≤ w ∧ w ≤ 180) → (0 ≤ sm ∧ sm ≤ 12) → rg nm → XB X → XB W → YB F → YB H → YB G → conQ cn178 (185, s, T, I, J, R) (some (.inl fa)) (185, s, T, pI (mI I 0 (L : Int) (I 168) (I 169) (I 170) (I 171) (I 172)) p fa op cm w sm nm X W F H G, J, R) := by
      intro p fa op cm w sm nm X W F H G y1 y2 y3 y4 y5 y6 y7 y8 y9 y10 y11 y12
      have hh := pm_H (tp := 0) (len := (L : Int)) h5 (by decide) (by omega) y1 y2 y3 y4 y5 y6 y7 y8 y9 y10 y11 y12 hA hB hC hD hE
      refine ⟨⟨rfl, y2.1, y2.2⟩, eH_mk hh.1 (eW_of (g := (185, s, T, I, J, R)) (fun x hx => ?_) hW), hh.2⟩
      have hx : x = 17 ∨ x = 25 ∨ x = 26 ∨ x = 27 ∨ x = 28 ∨ x = 29 ∨ x = 30 ∨ x = 168 ∨ x = 169 ∨ x = 170 ∨ x = 171 ∨ x = 172 := by
        simpa [wIds] using hx
      rcases hx with rfl | rfl | rfl | rfl | rfl | rfl | rfl | rfl | rfl | rfl | rfl | rfl <;> rfl
    have finS : ∀ (p fa op w nm : Int) (cm k : Nat) (X W F H G : Nat → Int), (0 ≤ p ∧ p ≤ 160) → rg fa → rg op → cm ≤ 160 → (0 ≤ w ∧ w ≤ 180) → k ≤ 12 → rg nm → XB X → XB W → YB F → YB H → YB G → CLz X F H G cm k → conQ cn178 (185, s, T, I, J, R) (some (.inl (k : Int))) (185, s, T, pI (mI I 0 (L : Int) (cG 180 (I 168) X a cm) (sx (I 169) a (k : Int)) (cG 12 (I 170) (fun j => 180 * (a : Int) + F j) a k) (cG 12 (I 171) (fun j => 180 * (a : Int) + H j) a k) (cG 12 (I 172) (fun j => 180 * (a : Int) + G j) a k)) p fa op (cm : Int) w (k : Int) nm X W F H G, J, R) := by
      intro p fa op w nm cm k X W F H G y1 y2 y3 y4 y5 y6 y7 y8 y9 y10 y11 y12 y13
      have bb : ∀ V : Nat → Int, YB V → ∀ q, q < k → 0 ≤ 180 * (a : Int) + V q ∧ 180 * (a : Int) + V q ≤ 1080 := by
        intro V hV q hq
        have := hV q (by omega)
        omega
      have hh := pm_H (tp := 0) (len := (L : Int)) (p := p) (fa := fa) (op := op) (cm := (cm : Int)) (w := w) (sm := (k : Int)) (nm := nm) (X := X) (W := W) (F := F) (H := H) (G := G) (A := cG 180 (I 168) X a cm) (B := sx (I 169) a (k : Int)) (C := cG 12 (I 170) (fun j => 180 * (a : Int) + F j) a k) (D := cG 12 (I 171) (fun j => 180 * (a : Int) + H j) a k) (E := cG 12 (I 172) (fun j => 180 * (a : Int) + G j) a k) h5 (by decide) (by omega) y1 y2 y3 (by omega) y5 (by omega) y7 y8 y9 y10 y11 y12 (fun j hj => cG_b (fun q hq => y8 q (by omega)) (hA j hj)) (fun j hj => by
        unfold sx
        split
        · omega
        · exact hB j hj) (fun j hj => cG_b (bb F y10) (hC j hj)) (fun j hj => cG_b (bb H y11) (hD j hj)) (fun j hj => cG_b (bb G y12) (hE j hj))
      exact ⟨⟨rfl, by show (-2147483648 : Int) ≤ (k : Int); omega, by show (k : Int) ≤ 2147483647; omega⟩, eH_mk hh.1 (law_wf hW (fun j hj => (hB j hj).2) y6 (by omega) y13), hh.2⟩
    generalize conQ cn178 (185, s, T, I, J, R) = QQ at *
    have fail : ∀ g, bdH s T (mI I (I 152 17) (L : Int) (I 168) (I 169) (I 170) (I 171) (I 172)) J R (some (.inl 0)) g → wp codeT mX (d + 8) 142 30 [some (.inr (.inr (some 152))), some (.inl (a : Int)), some (.inl (L : Int)), some (.inl 0), p4, p5] [] g QQ := by
      intro g hg
      obtain ⟨-, p, fa, op, cm, w, sm, nm, X, W, F, H, G, y1, y2, y3, y4, y5, y6, y7, y8, y9, y10, y11, y12, rfl⟩ := hg
      have := finF p fa op cm w sm nm X W F H G y1 y2 y3 y4 y5 y6 y7 y8 y9 y10 y11 y12
      refine s142_30.mpr ?_
      simp only [s142_31, s142_49, s142_50, s142_51, s142_52, s142_53, s142_54, s142_55, s142_56, Option.toList_some, Option.toList_none, List.cons_append, List.nil_append, Nat.le_refl, true_and, and_true, true_or, or_true, false_or, or_false, true_implies, false_implies, implies_true, not_true_eq_false, not_false_eq_true, eq_self, Nat.reduceLT, Nat.reduceLeDiff, Nat.reduceEqDiff, Nat.reduceAdd, Nat.reduceSub, Int.reduceLT, Int.reduceLE, Int.reduceEq, Int.reduceNeg, Int.reduceNe, Int.reduceAdd, Int.reduceSub, Int.reduceMul, Int.reduceToNat, Int.toNat_zero, Int.toNat_one, Int.toNat_natCast, am_cats, am_cat, am_st1, am_st2, am_clr, up2_na, up2_nj, up2_same, List.getElem?_cons_zero, List.getElem?_cons_succ, List.set_cons_zero, List.set_cons_succ, ne_eq, t152, u_17, pI_20]
      exact this
    have succ : ∀ (p cm k : Nat) (X W F H G : Nat → Int) (op nm : Int), p ≤ L → cm ≤ p → k ≤ 12 → XB X → XB W → YB F → YB H → YB G → rg op → rg nm → CLz X F H G cm k → wp codeT mX (d + 8) 142 49 [some (.inr (.inr (some 152))), some (.inl (a : Int)), some (.inl (L : Int)), some (.inl 1), p4, p5] [] (185, s, T, pI (mI I (I 152 17) (L : Int) (I 168) (I 169) (I 170) (I 171) (I 172)) (p : Int) (I 152 20) op (cm : Int) 0 (k : Int) nm X W F H G, J, R) QQ := by
      intro p cm k X W F H G op nm y1 y2 y3 y4 y5 y6 y7 y8 y9 y10 y11
      have fin := finS (p : Int) (I 152 20) op 0 nm cm k X W F H G (by omega) hfa y9 (by omega) (by decide) y3 y10 y4 y5 y6 y7 y8 y11
      have c2 := c2_loop (d := d) (s := s) (T := T) (I := I) (J := J) (R := R) (nz := (L : Int)) (g := 1) hm ha y3 y6 y7 y8 fin k 0 p5 (by omega)
      rw [cG_0, cG_0, cG_0] at c2
      have c1 := cp_loop (d := d) (s := s) (T := T) (I := I) (J := J) (R := R) (Q := QQ) (nz := (L : Int)) (g := 1) (l5 := p5) (tp := 0) (len := (L : Int)) (A0 := I 168) (X := X) (B := sx (I 169) a (k : Int)) (C := I 170) (D := I 171) (E := I 172) (p := (p : Int)) (fa := I 152 20) (op := op) (w := 0) (nm := nm) (W := W) (F := F) (H := H) (G := G) (a := a) (cm := cm) (sm := (k : Int)) hm ha (by omega) (by
        refine s142_83.mpr ?_
        simp only [s142_84, Option.toList_some, Option.toList_none, List.cons_append, List.nil_append, Nat.le_refl, true_and, and_true, true_or, or_true, false_or, or_false, true_implies, false_implies, implies_true, not_true_eq_false, not_false_eq_true, eq_self, Nat.reduceLT, Nat.reduceLeDiff, Nat.reduceEqDiff, Nat.reduceAdd, Nat.reduceSub, Int.reduceLT, Int.reduceLE, Int.reduceEq, Int.reduceNeg, Int.reduceNe, Int.reduceAdd, Int.reduceSub, Int.reduceMul, Int.reduceToNat, Int.toNat_zero, Int.toNat_one, Int.toNat_natCast, am_cats, am_cat, am_st1, am_st2, am_clr, up2_na, up2_nj, up2_same, List.getElem?_cons_zero, List.getElem?_cons_succ, List.set_cons_zero, List.set_cons_succ, ne_eq]
        exact c2) cm 0 (by omega)
      rw [cG_0] at c1
      have ba : 0 ≤ (a : Int) ∧ (a : Int) < ((6 : Nat) : Int) := by omega
      refine s142_49.mpr ?_
      simp only [s142_50, s142_51, s142_52, s142_53, s142_57, s142_58, s142_59, s142_60, s142_61, s142_62, s142_63, s142_64, Option.toList_some, Option.toList_none, List.cons_append, List.nil_append, Nat.le_refl, true_and, and_true, true_or, or_true, false_or, or_false, true_implies, false_implies, implies_true, not_true_eq_false, not_false_eq_true, eq_self, Nat.reduceLT, Nat.reduceLeDiff, Nat.reduceEqDiff, Nat.reduceAdd, Nat.reduceSub, Int.reduceLT, Int.reduceLE, Int.reduceEq, Int.reduceNeg, Int.reduceNe, Int.reduceAdd, Int.reduceSub, Int.reduceMul, Int.reduceToNat, Int.toNat_zero, Int.toNat_one, Int.toNat_natCast, am_cats, am_cat, am_st1, am_st2, am_clr, up2_na, up2_nj, up2_same, List.getElem?_cons_zero, List.getElem?_cons_succ, List.set_cons_zero, List.set_cons_succ, ne_eq, t152, t169, r2, u_17, u_169, pI_24, ba]
      exact c1
    have lw := lw_loop (d := d) (s := s) (T := T) (I := I) (J := J) (R := R) (nz := (L : Int)) hm hL2 ha hfa succ fail
    have cl := w_clause (d := d) (s := s) (T := T) (I := mI I (I 152 17) (L : Int) (I 168) (I 169) (I 170) (I 171) (I 172)) (J := J) (R := R) (L := L) (Q := fun v h1 => (185 ≤ h1.1 ∧ s ≤ h1.2.1) ∧ wp codeT mX (d + 8) 142 29 [some (.inr (.inr (some 152))), some (.inl (a : Int)), some (.inl (L : Int)), p3, p4, p5] (v.toList ++ []) h1 QQ) (X := I 163) (W := I 164) (F := I 165) (H := I 166) (G := I 167) (fa := I 152 20) (op := I 152 21) (nm := I 152 25) (p := 0) (f := 0) (w := w) (k := 0) hm rfl hL2 (Nat.zero_le _) (Nat.le_refl 0) hX hWW hop hnm (by omega) hfa (by decide) hF hHH hG (fun q hq => absurd hq (Nat.not_lt_zero q)) ?_ ?_
    · refine s142_15.mpr ?_
      rw [← pm_id (I := I), hww]
      simp only [s142_16, s142_17, s142_18, s142_19, s142_20, s142_21, s142_22, s142_23, s142_24, s142_25, s142_26, s142_27, s142_28, Option.toList_some, Option.toList_none, List.cons_append, List.nil_append, Nat.le_refl, true_and, and_true, true_or, or_true, false_or, or_false, true_implies, false_implies, implies_true, not_true_eq_false, not_false_eq_true, eq_self, Nat.reduceLT, Nat.reduceLeDiff, Nat.reduceEqDiff, Nat.reduceAdd, Nat.reduceSub, Int.reduceLT, Int.reduceLE, Int.reduceEq, Int.reduceNeg, Int.reduceNe, Int.reduceAdd, Int.reduceSub, Int.reduceMul, Int.reduceToNat, Int.toNat_zero, Int.toNat_one, Int.toNat_natCast, am_cats, am_cat, am_st1, am_st2, am_clr, up2_na, up2_nj, up2_same, List.getElem?_cons_zero, List.getElem?_cons_succ, List.set_cons_zero, List.set_cons_succ, ne_eq, t152, pu_18, pu_22, pu_24, u_19]
      exact cl
    · intro n2 p2 k2 X2 W2 F2 H2 G2 op2 nm2 z1 z2 z3 z4 z5 z6 z7 z8 z9 z10 z11 z12
      have go := lw (L - p2) p2 n2 k2 X2 W2 F2 H2 G2 op2 nm2 (by omega) z3 z4 z5 z6 z7 z8 z9 z10 z11 z12
      refine ⟨⟨Nat.le_refl _, Nat.le_refl _⟩, ?_⟩
      simp only [s142_29, Option.toList_some, Option.toList_none, List.cons_append, List.nil_append, Nat.le_refl, true_and, and_true, true_or, or_true, false_or, or_false, true_implies, false_implies, implies_true, not_true_eq_false, not_false_eq_true, eq_self, Nat.reduceLT, Nat.reduceLeDiff, Nat.reduceEqDiff, Nat.reduceAdd, Nat.reduceSub, Int.reduceLT, Int.reduceLE, Int.reduceEq, Int.reduceNeg, Int.reduceNe, Int.reduceAdd, Int.reduceSub, Int.reduceMul, Int.reduceToNat, Int.toNat_zero, Int.toNat_one, Int.toNat_natCast, am_cats, am_cat, am_st1, am_st2, am_clr, up2_na, up2_nj, up2_same, List.getElem?_cons_zero, List.getElem?_cons_succ, List.set_cons_zero, List.set_cons_succ, ne_eq]
      exact go
    · intro g hg
      obtain ⟨I2, rfl⟩ := bd_ge hg
      have := fail _ hg
      refine ⟨⟨Nat.le_refl _, Nat.le_refl _⟩, ?_⟩
      simp only [s142_29, Option.toList_some, Option.toList_none, List.cons_append, List.nil_append, Nat.le_refl, true_and, and_true, true_or, or_true, false_or, or_false, true_implies, false_implies, implies_true, not_true_eq_false, not_false_eq_true, eq_self, Nat.reduceLT, Nat.reduceLeDiff, Nat.reduceEqDiff, Nat.reduceAdd, Nat.reduceSub, Int.reduceLT, Int.reduceLE, Int.reduceEq, Int.reduceNeg, Int.reduceNe, Int.reduceAdd, Int.reduceSub, Int.reduceMul, Int.reduceToNat, Int.toNat_zero, Int.toNat_one, Int.toNat_natCast, am_cats, am_cat, am_st1, am_st2, am_clr, up2_na, up2_nj, up2_same, List.getElem?_cons_zero, List.getElem?_cons_succ, List.set_cons_zero, List.set_cons_succ, ne_eq]
      exact this
  by_cases z1 : a < 0
  · simp only [s142_0, s142_1, s142_2, s142_3, s142_13, s142_14, e135, s135_0, s135_1, s135_2, s135_3, s135_4, s135_5, s135_6, s135_7, s135_8, s135_9, Option.toList_some, Option.toList_none, List.cons_append, List.nil_append, Nat.le_refl, true_and, and_true, true_or, or_true, false_or, or_false, true_implies, false_implies, implies_true, not_true_eq_false, not_false_eq_true, eq_self, Nat.reduceLT, Nat.reduceLeDiff, Nat.reduceEqDiff, Nat.reduceAdd, Nat.reduceSub, Int.reduceLT, Int.reduceLE, Int.reduceEq, Int.reduceNeg, Int.reduceNe, Int.reduceAdd, Int.reduceSub, Int.reduceMul, Int.reduceToNat, Int.toNat_zero, Int.toNat_one, Int.toNat_natCast, am_cats, am_cat, am_st1, am_st2, am_clr, up2_na, up2_nj, up2_same, List.getElem?_cons_zero, List.getElem?_cons_succ, List.set_cons_zero, List.set_cons_succ, ne_eq, t152, z1]
    exact neg
  by_cases z2 : a < I 152 1
  · by_cases z3 : n < 1
    · simp only [s142_0, s142_1, s142_2, s142_3, s142_4, s142_5, s142_6, s142_7, s142_8, s142_13, s142_14, e135, s135_0, s135_1, s135_2, s135_3, s135_4, s135_5, s135_6, s135_7, s135_8, s135_9, e136, s136_0, s136_1, s136_2, s136_3, s136_4, s136_5, s136_6, s136_7, s136_8, s136_9, Option.toList_some, Option.toList_none, List.cons_append, List.nil_append, Nat.le_refl, true_and, and_true, true_or, or_true, false_or, or_false, true_implies, false_implies, implies_true, not_true_eq_false, not_false_eq_true, eq_self, Nat.reduceLT, Nat.reduceLeDiff, Nat.reduceEqDiff, Nat.reduceAdd, Nat.reduceSub, Int.reduceLT, Int.reduceLE, Int.reduceEq, Int.reduceNeg, Int.reduceNe, Int.reduceAdd, Int.reduceSub, Int.reduceMul, Int.reduceToNat, Int.toNat_zero, Int.toNat_one, Int.toNat_natCast, am_cats, am_cat, am_st1, am_st2, am_clr, up2_na, up2_nj, up2_same, List.getElem?_cons_zero, List.getElem?_cons_succ, List.set_cons_zero, List.set_cons_succ, ne_eq, t152, z1, z2, z3]
      exact neg
    by_cases z4 : 160 < n
    · simp only [s142_0, s142_1, s142_2, s142_3, s142_4, s142_5, s142_6, s142_7, s142_8, s142_13, s142_14, e135, s135_0, s135_1, s135_2, s135_3, s135_4, s135_5, s135_6, s135_7, s135_8, s135_9, e136, s136_0, s136_1, s136_2, s136_3, s136_4, s136_5, s136_6, s136_7, s136_8, s136_9, Option.toList_some, Option.toList_none, List.cons_append, List.nil_append, Nat.le_refl, true_and, and_true, true_or, or_true, false_or, or_false, true_implies, false_implies, implies_true, not_true_eq_false, not_false_eq_true, eq_self, Nat.reduceLT, Nat.reduceLeDiff, Nat.reduceEqDiff, Nat.reduceAdd, Nat.reduceSub, Int.reduceLT, Int.reduceLE, Int.reduceEq, Int.reduceNeg, Int.reduceNe, Int.reduceAdd, Int.reduceSub, Int.reduceMul, Int.reduceToNat, Int.toNat_zero, Int.toNat_one, Int.toNat_natCast, am_cats, am_cat, am_st1, am_st2, am_clr, up2_na, up2_nj, up2_same, List.getElem?_cons_zero, List.getElem?_cons_succ, List.set_cons_zero, List.set_cons_succ, ne_eq, t152, z1, z2, z3, z4]
      exact neg
    have key := key (by omega) (by omega) (by omega) (by omega)
    by_cases z5 : I 152 17 < n
    · simp only [s142_0, s142_1, s142_2, s142_3, s142_4, s142_5, s142_6, s142_7, s142_8, s142_9, s142_10, s142_11, s142_12, s142_13, s142_14, e135, s135_0, s135_1, s135_2, s135_3, s135_4, s135_5, s135_6, s135_7, s135_8, s135_9, e136, s136_0, s136_1, s136_2, s136_3, s136_4, s136_5, s136_6, s136_7, s136_8, s136_9, Option.toList_some, Option.toList_none, List.cons_append, List.nil_append, Nat.le_refl, true_and, and_true, true_or, or_true, false_or, or_false, true_implies, false_implies, implies_true, not_true_eq_false, not_false_eq_true, eq_self, Nat.reduceLT, Nat.reduceLeDiff, Nat.reduceEqDiff, Nat.reduceAdd, Nat.reduceSub, Int.reduceLT, Int.reduceLE, Int.reduceEq, Int.reduceNeg, Int.reduceNe, Int.reduceAdd, Int.reduceSub, Int.reduceMul, Int.reduceToNat, Int.toNat_zero, Int.toNat_one, Int.toNat_natCast, am_cats, am_cat, am_st1, am_st2, am_clr, up2_na, up2_nj, up2_same, List.getElem?_cons_zero, List.getElem?_cons_succ, List.set_cons_zero, List.set_cons_succ, ne_eq, t152, z1, z2, z3, z4, z5]
      exact neg
    · simp only [s142_0, s142_1, s142_2, s142_3, s142_4, s142_5, s142_6, s142_7, s142_8, s142_9, s142_10, s142_11, s142_12, e135, s135_0, s135_1, s135_2, s135_3, s135_4, s135_5, s135_6, s135_7, s135_8, s135_9, e136, s136_0, s136_1, s136_2, s136_3, s136_4, s136_5, s136_6, s136_7, s136_8, s136_9, Option.toList_some, Option.toList_none, List.cons_append, List.nil_append, Nat.le_refl, true_and, and_true, true_or, or_true, false_or, or_false, true_implies, false_implies, implies_true, not_true_eq_false, not_false_eq_true, eq_self, Nat.reduceLT, Nat.reduceLeDiff, Nat.reduceEqDiff, Nat.reduceAdd, Nat.reduceSub, Int.reduceLT, Int.reduceLE, Int.reduceEq, Int.reduceNeg, Int.reduceNe, Int.reduceAdd, Int.reduceSub, Int.reduceMul, Int.reduceToNat, Int.toNat_zero, Int.toNat_one, Int.toNat_natCast, am_cats, am_cat, am_st1, am_st2, am_clr, up2_na, up2_nj, up2_same, List.getElem?_cons_zero, List.getElem?_cons_succ, List.set_cons_zero, List.set_cons_succ, ne_eq, t152, z1, z2, z3, z4, z5]
      exact key
  · simp only [s142_0, s142_1, s142_2, s142_3, s142_13, s142_14, e135, s135_0, s135_1, s135_2, s135_3, s135_4, s135_5, s135_6, s135_7, s135_8, s135_9, Option.toList_some, Option.toList_none, List.cons_append, List.nil_append, Nat.le_refl, true_and, and_true, true_or, or_true, false_or, or_false, true_implies, false_implies, implies_true, not_true_eq_false, not_false_eq_true, eq_self, Nat.reduceLT, Nat.reduceLeDiff, Nat.reduceEqDiff, Nat.reduceAdd, Nat.reduceSub, Int.reduceLT, Int.reduceLE, Int.reduceEq, Int.reduceNeg, Int.reduceNe, Int.reduceAdd, Int.reduceSub, Int.reduceMul, Int.reduceToNat, Int.toNat_zero, Int.toNat_one, Int.toNat_natCast, am_cats, am_cat, am_st1, am_st2, am_clr, up2_na, up2_nj, up2_same, List.getElem?_cons_zero, List.getElem?_cons_succ, List.set_cons_zero, List.set_cons_succ, ne_eq, t152, z1, z2]
    exact neg
