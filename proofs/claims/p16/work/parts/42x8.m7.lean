/-! the law's two readers, 7: the reference's sums -/
theorem end_pl {sg : Nat → Int} : ∀ (r o p n : Nat), (prsS sg r 7 o p n).1 = 0 → muS (sg (prsS sg r 7 o p n).2.1) = 0
  | 0, o, p, n => fun h => absurd h (rbad_n (by decide))
  | r + 1, o, p, n => by
    show (if muS (sg p) = 0 then ((0, p, []) : RR) else rsq (prsS sg r 0 o (p + 1) n) (fun p' m => rcat [(muS (sg p), 0)] (prsS sg r 7 o p' (n + m + 1)))).1 = 0 → muS (sg (if muS (sg p) = 0 then ((0, p, []) : RR) else rsq (prsS sg r 0 o (p + 1) n) (fun p' m => rcat [(muS (sg p), 0)] (prsS sg r 7 o p' (n + m + 1)))).2.1) = 0
    split
    · rename_i h
      exact fun _ => h
    · intro h
      obtain ⟨e1, e2, e3⟩ := rsq_ok h
      rw [e3]
      exact end_pl r o _ _ e2
theorem end_p {sg : Nat → Int} (r o p n : Nat) (h : (prsS sg r 1 o p n).1 = 0) : muS (sg (prsS sg r 1 o p n).2.1) = 0 := by
  match r with
  | 0 => exact absurd h (rbad_n (by decide))
  | r + 1 =>
    have h : (rsq (prsS sg r 0 o p n) (fun p' m => prsS sg r 7 o p' (n + m))).1 = 0 := h
    show muS (sg (rsq (prsS sg r 0 o p n) (fun p' m => prsS sg r 7 o p' (n + m))).2.1) = 0
    obtain ⟨e1, e2, e3⟩ := rsq_ok h
    rw [e3]
    exact end_pl r o _ _ e2
theorem end_sl {sg : Nat → Int} : ∀ (r o p n : Nat), muS (sg p) = 0 → (prsS sg r 8 o p n).1 = 0 → muS (sg (prsS sg r 8 o p n).2.1) = 0 ∧ adS (sg (prsS sg r 8 o p n).2.1) = 0
  | 0, o, p, n => fun _ h => absurd h (rbad_n (by decide))
  | r + 1, o, p, n => by
    intro hp
    show (if adS (sg p) = 0 then ((0, p, []) : RR) else rsq (prsS sg r 1 o (p + 1) n) (fun p' m => rcat [(adS (sg p), 0)] (prsS sg r 8 o p' (n + m + 1)))).1 = 0 → muS (sg (if adS (sg p) = 0 then ((0, p, []) : RR) else rsq (prsS sg r 1 o (p + 1) n) (fun p' m => rcat [(adS (sg p), 0)] (prsS sg r 8 o p' (n + m + 1)))).2.1) = 0 ∧ adS (sg (if adS (sg p) = 0 then ((0, p, []) : RR) else rsq (prsS sg r 1 o (p + 1) n) (fun p' m => rcat [(adS (sg p), 0)] (prsS sg r 8 o p' (n + m + 1)))).2.1) = 0
    split
    · rename_i h
      exact fun _ => ⟨hp, h⟩
    · intro h
      obtain ⟨e1, e2, e3⟩ := rsq_ok h
      rw [e3]
      exact end_sl r o _ _ (end_p r o (p + 1) n e1) e2
theorem end_s {sg : Nat → Int} (r o p n : Nat) (h : (prsS sg r 2 o p n).1 = 0) : muS (sg (prsS sg r 2 o p n).2.1) = 0 ∧ adS (sg (prsS sg r 2 o p n).2.1) = 0 := by
  match r with
  | 0 => exact absurd h (rbad_n (by decide))
  | r + 1 =>
    have h : (rsq (prsS sg r 1 o p n) (fun p' m => prsS sg r 8 o p' (n + m))).1 = 0 := h
    show muS (sg (rsq (prsS sg r 1 o p n) (fun p' m => prsS sg r 8 o p' (n + m))).2.1) = 0 ∧ adS (sg (rsq (prsS sg r 1 o p n) (fun p' m => prsS sg r 8 o p' (n + m))).2.1) = 0
    obtain ⟨e1, e2, e3⟩ := rsq_ok h
    rw [e3]
    exact end_sl r o _ _ (end_p r o p n e1) e2
/-- what stands around the reference's reader -/
def yHyp (T : Nat → Nat × Nat) (R : Nat → Nat → Option Nat) (I : Nat → Nat → Int) (L : Nat) : Prop := hp T R ∧ I 152 19 = (L : Int) ∧ L ≤ 160 ∧ ∀ j, -128 ≤ I 162 j ∧ I 162 j ≤ 127 ∨ L ≤ j
theorem hr_bd {T : Nat → Nat × Nat} {R : Nat → Nat → Option Nat} {I : Nat → Nat → Int} {L : Nat} (hy : yHyp T R I L) (p : Nat) : hr I L p = -1 ∨ 0 ≤ hr I L p ∧ hr I L p ≤ 255 := by
  unfold hr
  by_cases h : p < L
  · right
    rw [if_pos h]
    rcases hy.2.2.2 p with z | z
    · rw [and255 z.1 z.2]
      omega
    · omega
  · exact Or.inl (if_neg h)
theorem hr_hs {I : Nat → Nat → Int} {L : Nat} : ∀ p, L ≤ p → hr I L p = -1 := fun p h => if_neg (by omega)
section
variable (s L : Nat) (T : Nat → Nat × Nat) (I J : Nat → Nat → Int) (R : Nat → Nat → Option Nat) (fa sm : Int) (F H G : Nat → Int) (b e : Nat) (Q : Option AV → AH → Prop)
/-- behind a fault -/
def mBd (f : Int) : Prop := ∀ (p1 o1 n1 w1 nm1 : Int) (X1 W1 : Nat → Int), Q (some (.inl 0)) (185, s, T, pI I p1 f o1 n1 w1 sm nm1 X1 W1 F H G, J, R)
/-- behind readsFactor -/
def cK : Option AV → AH → Prop := fun v g => (185 ≤ g.1 ∧ s ≤ g.2.1) ∧ ((v = some (.inl 0) ∧ Q (some (.inl 0)) g) ∨ (v = some (.inl 1) ∧ ∀ l2, wp codeT mX (e + 4) 146 8 [some (.inr (.inr (some 152))), some (.inl (b : Int)), l2] [] g Q))
/-- what was read is said, but for what waits -/
def aft (n w : Nat) (X W : Nat → Int) (l : List (Int × Int)) (n1 w1 : Nat) (X1 W1 : Nat → Int) (pr0 : List (Int × Int)) (a m : Int) (p1 : Nat) : Prop := w1 ≤ p1 ∧ (∀ j, j < n → X1 j = X j) ∧ (∀ j, j < w → W1 j = W j) ∧ XB W1 ∧ pnd W1 w w1 a m ∧ ∃ l', pr0 ++ l = l' ++ pcd a m ∧ n1 = n + l'.length ∧ RB X1 n l'
/-- kinds 0, 1, 2 from readsFactor's loop -/
def mF (r k : Nat) : Prop := ∀ (o p n w : Nat) (X W : Nat → Int) (nm : Int), o ≤ 6 → 8 * (L + 1 - p) + k ≤ r → p ≤ L → n ≤ p → w ≤ p → b ≤ w → XB W → (w = 0 ∨ (k = 0 ∨ 10 ≤ cOp (W (w - 1)) ∨ (k = 1 ∧ cOp (W (w - 1)) ≤ 3))) → (∀ f, (prsS (hr I L) r k o p n).1 = f → ¬ f = 0 → mBd s T I J R sm F H G Q f) → ((prsS (hr I L) r k o p n).1 = 0 → ∀ (a m : Int) (n1 w1 : Nat) (X1 W1 : Nat → Int) (nm1 : Int), (k = 0 → a = 0 ∧ m = 0) → (k = 1 → a = 0) → aft n w X W (prsS (hr I L) r k o p n).2.2 n1 w1 X1 W1 [] a m (prsS (hr I L) r k o p n).2.1 → ∀ l2, wp codeT mX (e + 4) 146 8 [some (.inr (.inr (some 152))), some (.inl (b : Int)), l2] [] (185, s, T, pI I ((prsS (hr I L) r k o p n).2.1 : Int) fa (o : Int) (n1 : Int) (w1 : Int) sm nm1 X1 W1 F H G, J, R) Q) → wp codeT mX (e + 3) 147 0 [some (.inr (.inr (some 152))), none] [] (185, s, T, pI I (p : Int) fa (o : Int) (n : Int) (w : Int) sm nm X W F H G, J, R) (cK s b e Q)
/-- a product's loop -/
def mPl (r : Nat) : Prop := ∀ (o p n w w1 : Nat) (m : Int) (X W : Nat → Int) (nm : Int), o ≤ 6 → 8 * (L + 1 - p) ≤ r → p ≤ L → n + (pcd 0 m).length ≤ p → w1 ≤ p → b ≤ w → XB W → pnd W w w1 0 m → (w = 0 ∨ (10 ≤ cOp (W (w - 1)) ∨ cOp (W (w - 1)) ≤ 3)) → (∀ f, (prsS (hr I L) r 7 o p (n + (pcd 0 m).length)).1 = f → ¬ f = 0 → mBd s T I J R sm F H G Q f) → ((prsS (hr I L) r 7 o p (n + (pcd 0 m).length)).1 = 0 → ∀ (m2 : Int) (n2 w2 : Nat) (X2 W2 : Nat → Int) (nm2 : Int), aft n w X W (prsS (hr I L) r 7 o p (n + (pcd 0 m).length)).2.2 n2 w2 X2 W2 (pcd 0 m) 0 m2 (prsS (hr I L) r 7 o p (n + (pcd 0 m).length)).2.1 → ∀ l2, wp codeT mX (e + 4) 146 8 [some (.inr (.inr (some 152))), some (.inl (b : Int)), l2] [] (185, s, T, pI I ((prsS (hr I L) r 7 o p (n + (pcd 0 m).length)).2.1 : Int) fa (o : Int) (n2 : Int) (w2 : Int) sm nm2 X2 W2 F H G, J, R) Q) → ∀ l2, wp codeT mX (e + 4) 146 8 [some (.inr (.inr (some 152))), some (.inl (b : Int)), l2] [] (185, s, T, pI I (p : Int) fa (o : Int) (n : Int) (w1 : Int) sm nm X W F H G, J, R) Q
/-- a sum's loop -/
def mSl (r : Nat) : Prop := ∀ (o p n w w1 : Nat) (a m : Int) (X W : Nat → Int) (nm : Int), o ≤ 6 → 8 * (L + 1 - p) ≤ r → p ≤ L → n + (pcd a m).length ≤ p → w1 ≤ p → b ≤ w → XB W → pnd W w w1 a m → (w = 0 ∨ 10 ≤ cOp (W (w - 1))) → muS (hr I L p) = 0 → (∀ f, (prsS (hr I L) r 8 o p (n + (pcd a m).length)).1 = f → ¬ f = 0 → mBd s T I J R sm F H G Q f) → ((prsS (hr I L) r 8 o p (n + (pcd a m).length)).1 = 0 → ∀ (a2 m2 : Int) (n2 w2 : Nat) (X2 W2 : Nat → Int) (nm2 : Int), aft n w X W (prsS (hr I L) r 8 o p (n + (pcd a m).length)).2.2 n2 w2 X2 W2 (pcd a m) a2 m2 (prsS (hr I L) r 8 o p (n + (pcd a m).length)).2.1 → ∀ l2, wp codeT mX (e + 4) 146 8 [some (.inr (.inr (some 152))), some (.inl (b : Int)), l2] [] (185, s, T, pI I ((prsS (hr I L) r 8 o p (n + (pcd a m).length)).2.1 : Int) fa (o : Int) (n2 : Int) (w2 : Int) sm nm2 X2 W2 F H G, J, R) Q) → ∀ l2, wp codeT mX (e + 4) 146 8 [some (.inr (.inr (some 152))), some (.inl (b : Int)), l2] [] (185, s, T, pI I (p : Int) fa (o : Int) (n : Int) (w1 : Int) sm nm X W F H G, J, R) Q
end
theorem tkF_rg {c : Int} (h : 0 ≤ tkF c) : 97 ≤ c ∧ c ≤ 121 ∧ tkF c ≤ 8 := by
  by_cases hc : 97 ≤ c ∧ c ≤ 121
  · refine ⟨hc.1, hc.2, ?_⟩
    unfold tkF
    repeat' split
    all_goals decide
  · exfalso
    unfold tkF at h
    rw [if_neg (by omega), if_neg (by omega), if_neg (by omega), if_neg (by omega), if_neg (by omega), if_neg (by omega), if_neg (by omega), if_neg (by omega), if_neg (by omega)] at h
    omega
theorem pnd_0 {W : Nat → Int} {w : Nat} : pnd W w w 0 0 := ⟨Or.inl rfl, Or.inl rfl, Or.inl ⟨rfl, rfl, rfl⟩⟩
theorem pcd_0 : pcd 0 0 = [] := rfl
theorem pnd_w {W : Nat → Int} {w w1 : Nat} (h : pnd W w w1 0 0) : w1 = w := by
  obtain ⟨-, -, h⟩ := h
  rcases h with h | h | h | h
  · exact h.2.2
  · exact absurd rfl h.1
  · exact absurd rfl h.2.1
  · exact absurd rfl h.1
theorem pnd_le {W : Nat → Int} {w w1 : Nat} {a m : Int} (h : pnd W w w1 a m) : w ≤ w1 := by
  obtain ⟨-, -, h⟩ := h
  omega
theorem pnd_14 {W : Nat → Int} {w w1 : Nat} {a m : Int} (h : pnd W w w1 a m) : ∀ j, w ≤ j → j < w1 → cOp (W j) ≠ 14 := by
  obtain ⟨ha, hm, h⟩ := h
  intro j h1 h2
  rcases h with ⟨c1, c2, c3⟩ | ⟨c1, c2, c3, c4⟩ | ⟨c1, c2, c3, c4⟩ | ⟨c1, c2, c3, c4, c5⟩
  · omega
  · have e : j = w := by omega
    rw [e, c4, cOp_m (by omega)]
    omega
  · have e : j = w := by omega
    rw [e, c4, cOp_m (by omega)]
    omega
  · by_cases e : j = w
    · rw [e, c4, cOp_m (by omega)]
      omega
    · have e : j = w + 1 := by omega
      rw [e, c5, cOp_m (by omega)]
      omega
theorem pcd_s {s m : Int} (h : ¬ s = 0) : pcd s m = pcd 0 m ++ [(s, 0)] := by
  unfold pcd
  rw [if_neg h, if_pos rfl, List.append_nil]
theorem aft_cat {n w n1 w1 n2 w2 p1 p2 : Nat} {X W X1 W1 X2 W2 : Nat → Int} {l l2 pr0 : List (Int × Int)} {a m a2 m2 : Int} (h1 : aft n w X W l n1 w1 X1 W1 pr0 a m p1) (h2 : aft n1 w X1 W1 l2 n2 w2 X2 W2 (pcd a m) a2 m2 p2) : aft n w X W (l ++ l2) n2 w2 X2 W2 pr0 a2 m2 p2 := by
  obtain ⟨a0, a1, a2', a3, a4, l', a5, a6, a7⟩ := h1
  obtain ⟨b0, b1, b2', b3, b4, l2', b5, b6, b7⟩ := h2
  refine ⟨b0, fun j hj => (b1 j (by omega)).trans (a1 j hj), fun j hj => (b2' j hj).trans (a2' j hj), b3, b4, l' ++ l2', ?_, ?_, ?_⟩
  · rw [← List.append_assoc, a5, List.append_assoc, b5, List.append_assoc]
  · rw [List.length_append]; omega
  · exact RB_app (RB_cg a7 (fun j hj => b1 j (by omega))) (by rw [← a6]; exact b7)
theorem aft_step {n w n2 n3 n4 w4 p4 : Nat} {X W X2 X3 W3 X4 W4 : Nat → Int} {pc l l1 l2 pr1 : List (Int × Int)} {a m : Int} (g1 : ∀ j, j < n → X2 j = X j) (g2 : RB X2 n pc) (e2 : n2 = n + pc.length) (h1 : ∀ j, j < n2 → X3 j = X2 j) (h2 : RB X3 n2 l1) (e3 : n3 = n2 + l1.length) (hW : ∀ j, j < w → W3 j = W j) (h : aft n3 w X3 W3 l2 n4 w4 X4 W4 pr1 a m p4) (hl : l = l1 ++ (pr1 ++ l2)) : aft n w X W l n4 w4 X4 W4 pc a m p4 := by
  obtain ⟨b0, b1, b2, b3, b4, l', b5, b6, b7⟩ := h
  refine ⟨b0, fun j hj => ((b1 j (by omega)).trans (h1 j (by omega))).trans (g1 j hj), fun j hj => (b2 j hj).trans (hW j hj), b3, b4, pc ++ (l1 ++ l'), ?_, ?_, ?_⟩
  · rw [hl, b5, ← List.append_assoc l1, ← List.append_assoc pc]
  · rw [List.length_append, List.length_append]; omega
  · refine RB_app (RB_cg g2 (fun j hj => (b1 j (by omega)).trans (h1 j (by omega)))) (RB_app (RB_cg (by rw [← e2]; exact h2) (fun j hj => b1 j (by omega))) ?_)
    rw [← e2, ← e3]
    exact b7
section
variable {s L : Nat} {T : Nat → Nat × Nat} {I J : Nat → Nat → Int} {R : Nat → Nat → Option Nat} {fa sm : Int} {F H G : Nat → Int} {b e r : Nat} {Q : Option AV → AH → Prop}
theorem hr_w {p : Nat} (h : ¬ hr I L p = -1) : p < L := hr_lt rfl h
theorem m150_loop (hy : yHyp T R I L) {d : Nat} {op cm wz : Int} {X W : Nat → Int} : ∀ (r p i : Nat) (v : Int) (fr : Nat), i + r = 5 → fr + 5 = p + r → p ≤ L → 0 ≤ v → v < p10 i → (¬ (nmS (hr I L) r p v).1 = 0 → Q (some (.inl 0)) (185, s, T, pI I ((nmS (hr I L) r p v).2.1 : Int) (nmS (hr I L) r p v).1 op cm wz sm (nmS (hr I L) r p v).2.2 X W F H G, J, R)) → ((nmS (hr I L) r p v).1 = 0 → Q (some (.inl 1)) (185, s, T, pI I ((nmS (hr I L) r p v).2.1 : Int) fa op cm wz sm (nmS (hr I L) r p v).2.2 X W F H G, J, R)) → wp codeT mX (d + 2) 150 6 [some (.inr (.inr (some 152))), some (.inl (fr : Int))] [] (185, s, T, pI I (p : Int) fa op cm wz sm v X W F H G, J, R) Q := by
  obtain ⟨hh, hL, hL2, -⟩ := id hy
  intro r
  induction r with
  | zero =>
    intro p i v fr hi hfr hp h0 hv hB hO
    have kh := k_here (J := J) (s := s) (mdl_hp hh) hL hL2 hp
    have p2 : p ≤ 160 := by omega
    rw [nmS] at hB hO
    refine s150_6.mpr ?_
    by_cases hd : 48 ≤ hr I L p ∧ hr I L p ≤ 57
    · rw [if_pos hd] at hB
      have f0 : ¬ (-1000 * 2 - (p : Int)) = 0 := by omega
      have fin := hB f0
      have e5 : w32 ((fr : Int) + 5) = (p : Int) := (w32_eq (by omega) (by omega)).trans (by omega)
      simp only [s150_7, s150_8, s150_9, s150_10, s150_11, s150_12, s150_13, s150_14, s150_15, s150_16, s150_17, s150_18, s150_19, s150_20, Option.toList_some, Option.toList_none, List.cons_append, List.nil_append, Nat.le_refl, true_and, and_true, true_or, or_true, false_or, or_false, true_implies, false_implies, implies_true, not_true_eq_false, not_false_eq_true, eq_self, Nat.reduceLT, Nat.reduceLeDiff, Nat.reduceEqDiff, Nat.reduceAdd, Nat.reduceSub, Int.reduceLT, Int.reduceLE, Int.reduceEq, Int.reduceNeg, Int.reduceNe, Int.reduceAdd, Int.reduceSub, Int.reduceMul, Int.reduceToNat, Int.toNat_zero, Int.toNat_one, Int.toNat_natCast, am_cats, am_cat, am_st1, am_st2, am_clr, up2_na, up2_nj, up2_same, List.getElem?_cons_zero, List.getElem?_cons_succ, List.set_cons_zero, List.set_cons_succ, ne_eq, tk_152 hh, m149 hh hL hL2 hp, i10, hd, pI_18, e5, m145 hh (by decide : (1 : Int) ≤ 2 ∧ (2 : Int) ≤ 9) p2]
      exact fin
    · rw [if_neg hd] at hO
      have fin := hO rfl
      simp only [s150_7, s150_8, s150_39, s150_40, Option.toList_some, Option.toList_none, List.cons_append, List.nil_append, Nat.le_refl, true_and, and_true, true_or, or_true, false_or, or_false, true_implies, false_implies, implies_true, not_true_eq_false, not_false_eq_true, eq_self, Nat.reduceLT, Nat.reduceLeDiff, Nat.reduceEqDiff, Nat.reduceAdd, Nat.reduceSub, Int.reduceLT, Int.reduceLE, Int.reduceEq, Int.reduceNeg, Int.reduceNe, Int.reduceAdd, Int.reduceSub, Int.reduceMul, Int.reduceToNat, Int.toNat_zero, Int.toNat_one, Int.toNat_natCast, am_cats, am_cat, am_st1, am_st2, am_clr, up2_na, up2_nj, up2_same, List.getElem?_cons_zero, List.getElem?_cons_succ, List.set_cons_zero, List.set_cons_succ, ne_eq, tk_152 hh, m149 hh hL hL2 hp, i10, hd]
      exact fin
  | succ r ih =>
    intro p i v fr hi hfr hp h0 hv hB hO
    have kh := k_here (J := J) (s := s) (mdl_hp hh) hL hL2 hp
    rw [nmS] at hB hO
    by_cases hd : 48 ≤ hr I L p ∧ hr I L p ≤ 57
    · rw [if_pos hd] at hB hO
      have h1 : p < L := hr_w (I := I) (by omega)
      have hw : p10 (i + 1) = 10 * p10 i := rfl
      have hw2 := p10_le i (by omega)
      have nx := ih (p + 1) (i + 1) (10 * v + hr I L p - 48) fr (by omega) (by omega) (by omega) (by omega) (by rw [hw]; omega) hB hO
      have ne5 : ¬ (p : Int) = ((p + (r + 1) : Nat) : Int) := by omega
      have e1 : w32 (10 * v) = 10 * v := w32_eq (by omega) (by omega)
      have e2 : w32 (10 * v + hr I L p) = 10 * v + hr I L p := w32_eq (by omega) (by omega)
      have e3 : w32 (10 * v + hr I L p - 48) = 10 * v + hr I L p - 48 := w32_eq (by omega) (by omega)
      refine s150_6.mpr ?_
      simp only [s150_7, s150_8, s150_9, s150_10, s150_11, s150_12, s150_13, s150_14, s150_21, s150_22, s150_23, s150_24, s150_25, s150_26, s150_27, s150_28, s150_29, s150_30, s150_31, s150_32, s150_33, s150_34, s150_35, s150_36, s150_37, s150_38, Option.toList_some, Option.toList_none, List.cons_append, List.nil_append, Nat.le_refl, true_and, and_true, true_or, or_true, false_or, or_false, true_implies, false_implies, implies_true, not_true_eq_false, not_false_eq_true, eq_self, Nat.reduceLT, Nat.reduceLeDiff, Nat.reduceEqDiff, Nat.reduceAdd, Nat.reduceSub, Int.reduceLT, Int.reduceLE, Int.reduceEq, Int.reduceNeg, Int.reduceNe, Int.reduceAdd, Int.reduceSub, Int.reduceMul, Int.reduceToNat, Int.toNat_zero, Int.toNat_one, Int.toNat_natCast, am_cats, am_cat, am_st1, am_st2, am_clr, up2_na, up2_nj, up2_same, List.getElem?_cons_zero, List.getElem?_cons_succ, List.set_cons_zero, List.set_cons_succ, ne_eq, tk_152 hh, kh, m149 hh hL hL2 hp, i10, hd, pI_18, pI_25, pu_18, pu_25, e1, e2, e3, w32_c (show (fr : Int) + 5 = ((p + (r + 1) : Nat) : Int) by clear e1 e2 e3; omega) (by clear e1 e2 e3; omega), w32_s (show p ≤ 1080 by clear e1 e2 e3; omega), ne5]
      exact nx
    · rw [if_neg hd] at hO
      have fin := hO rfl
      refine s150_6.mpr ?_
      simp only [s150_7, s150_8, s150_39, s150_40, Option.toList_some, Option.toList_none, List.cons_append, List.nil_append, Nat.le_refl, true_and, and_true, true_or, or_true, false_or, or_false, true_implies, false_implies, implies_true, not_true_eq_false, not_false_eq_true, eq_self, Nat.reduceLT, Nat.reduceLeDiff, Nat.reduceEqDiff, Nat.reduceAdd, Nat.reduceSub, Int.reduceLT, Int.reduceLE, Int.reduceEq, Int.reduceNeg, Int.reduceNe, Int.reduceAdd, Int.reduceSub, Int.reduceMul, Int.reduceToNat, Int.toNat_zero, Int.toNat_one, Int.toNat_natCast, am_cats, am_cat, am_st1, am_st2, am_clr, up2_na, up2_nj, up2_same, List.getElem?_cons_zero, List.getElem?_cons_succ, List.set_cons_zero, List.set_cons_succ, ne_eq, tk_152 hh, m149 hh hL hL2 hp, i10, hd]
      exact fin
theorem mf0 (hy : yHyp T R I L) (h2 : mF s L T I J R fa sm F H G b e Q r 2) : mF s L T I J R fa sm F H G b e Q (r + 1) 0 := by
  intro o p n w X W nm ho hr0 hp hn hw hbw hW ht hB hO
  obtain ⟨hh, hL, hL2, -⟩ := id hy
  have hm := mdl_hp hh
  have kh := k_here (J := J) (s := s) hm hL hL2 hp
  have hb := hr_bd hy p
  have p2 : p ≤ 160 := by omega
  have e0 : prsS (hr I L) (r + 1) 0 o p n = (if hr I L p = 91 then (if 6 ≤ o then rbad 5 p else rend 93 (hr I L) (prsS (hr I L) r 2 (o + 1) (p + 1) n)) else if 0 ≤ tkF (hr I L p) then (0, p + 1, [(1, tkF (hr I L p))]) else if 48 ≤ hr I L p ∧ hr I L p ≤ 57 then ((nmS (hr I L) 5 p 0).1, (nmS (hr I L) 5 p 0).2.1, [(0, (nmS (hr I L) 5 p 0).2.2)]) else rbad 1 p) := rfl
  refine s147_0.mpr ?_
  by_cases h91 : hr I L p = 91
  · have hpL : p < L := hr_w (I := I) (by rw [h91]; decide)
    rw [if_pos h91] at e0
    by_cases ho6 : 6 ≤ o
    · rw [if_pos ho6] at e0
      rw [e0] at hB
      have fin := hB _ rfl (rbad_n (by decide)) p o n w nm X W
      have o6 : o = 6 := by omega
      simp only [s147_1, s147_2, s147_3, s147_4, s147_5, s147_6, s147_7, s147_8, s147_9, Option.toList_some, Option.toList_none, List.cons_append, List.nil_append, Nat.le_refl, true_and, and_true, true_or, or_true, false_or, or_false, true_implies, false_implies, implies_true, not_true_eq_false, not_false_eq_true, eq_self, Nat.reduceLT, Nat.reduceLeDiff, Nat.reduceEqDiff, Nat.reduceAdd, Nat.reduceSub, Int.reduceLT, Int.reduceLE, Int.reduceEq, Int.reduceNeg, Int.reduceNe, Int.reduceAdd, Int.reduceSub, Int.reduceMul, Int.reduceToNat, Int.toNat_zero, Int.toNat_one, Int.toNat_natCast, am_cats, am_cat, am_st1, am_st2, am_clr, up2_na, up2_nj, up2_same, List.getElem?_cons_zero, List.getElem?_cons_succ, List.set_cons_zero, List.set_cons_succ, ne_eq, tk_152 hh, kh, h91, m148n hh p2 o6]
      exact ⟨⟨Nat.le_refl _, Nat.le_refl _⟩, Or.inl ⟨rfl, fin⟩⟩
    · rw [if_neg ho6] at e0
      simp only [s147_1, s147_2, s147_3, s147_4, s147_5, s147_6, s147_7, Option.toList_some, Option.toList_none, List.cons_append, List.nil_append, Nat.le_refl, true_and, and_true, true_or, or_true, false_or, or_false, true_implies, false_implies, implies_true, not_true_eq_false, not_false_eq_true, eq_self, Nat.reduceLT, Nat.reduceLeDiff, Nat.reduceEqDiff, Nat.reduceAdd, Nat.reduceSub, Int.reduceLT, Int.reduceLE, Int.reduceEq, Int.reduceNeg, Int.reduceNe, Int.reduceAdd, Int.reduceSub, Int.reduceMul, Int.reduceToNat, Int.toNat_zero, Int.toNat_one, Int.toNat_natCast, am_cats, am_cat, am_st1, am_st2, am_clr, up2_na, up2_nj, up2_same, List.getElem?_cons_zero, List.getElem?_cons_succ, List.set_cons_zero, List.set_cons_succ, ne_eq, tk_152 hh, kh, h91, m148y hh (by decide : (0 : Int) ≤ 14 ∧ (14 : Int) ≤ 14) p2 (show w ≤ 160 by omega) ho6]
      refine h2 (o + 1) (p + 1) n (w + 1) X _ nm (by omega) (by omega) (by omega) (by omega) (by omega) (by omega) (XB_sx hW (by unfold rg; decide)) (Or.inr (Or.inr (Or.inl ?_))) (fun f hf h0 => ?_) (fun h0 a m n1 w1 X1 W1 nm1 hk0 hk1 haf l2 => ?_)
      · show 10 ≤ cOp (sx W w (1048576 * 14) w)
        rw [sx_s]
        decide
      · have hne : ¬ (prsS (hr I L) r 2 (o + 1) (p + 1) n).1 = 0 := by rw [hf]; exact h0
        have e1 : prsS (hr I L) (r + 1) 0 o p n = prsS (hr I L) r 2 (o + 1) (p + 1) n := by
          rw [e0]
          unfold rend
          rw [if_neg hne]
        exact hB f (by rw [e1]; exact hf) h0
      · obtain ⟨es1, es2⟩ := end_s r (o + 1) (p + 1) n h0
        obtain ⟨ad1, ad2, ad3⟩ := rd_adv (sg := hr I L) (L := L) hr_hs r 2 (o + 1) (p + 1) n (by omega) h0
        obtain ⟨f0, f1, f2, f3, f4, l', f5, f6, f7⟩ := haf
        rw [List.nil_append] at f5
        have flen : (prsS (hr I L) r 2 (o + 1) (p + 1) n).2.2.length = l'.length + (pcd a m).length := by rw [f5, List.length_append]
        have w14 : W1 w = 1048576 * 14 := by rw [f2 w (by omega)]; exact sx_s
        have c14 : cOp (W1 w) = 14 := by rw [w14]; decide
        have hww : w + 1 ≤ w1 ∧ w1 ≤ w + 3 := by
          obtain ⟨-, -, z⟩ := f4
          omega
        have hbnd : p + 1 ≤ 160 := by omega
        generalize hP : prsS (hr I L) r 2 (o + 1) (p + 1) n = P at *
        obtain ⟨P1, p', l⟩ := P
        have h0 : P1 = 0 := h0
        subst h0
        have ad1 : p' ≤ L := ad1
        have ad2 : p + 1 + l.length ≤ p' := ad2
        have es1 : muS (hr I L p') = 0 := es1
        have es2 : adS (hr I L p') = 0 := es2
        have flen : l.length = l'.length + (pcd a m).length := flen
        have f5 : l = l' ++ pcd a m := f5
        have kh2 := k_here (J := J) (s := s) hm hL hL2 ad1
        have esf : ssF (hr I L p') = -1 := by unfold ssF; rw [if_pos es2, if_pos es1]
        have f0 : w1 ≤ p' := f0
        have w160 : w1 ≤ 160 := by omega
        refine s146_8.mpr ?_
        by_cases h93 : hr I L p' = 93
        · have q1 : p' < L := hr_w (I := I) (by rw [h93]; decide)
          have e1 : prsS (hr I L) (r + 1) 0 o p n = (0, p' + 1, l) := by
            rw [e0]
            show (if (0 : Int) = 0 then (if hr I L p' = 93 then ((0, p' + 1, l) : RR) else rbad 1 p') else _) = _
            rw [if_pos rfl, if_pos h93]
          rw [e1] at hO
          have s93 : ssF 93 = -1 := by decide
          simp only [s146_9, s146_10, s146_11, s146_12, s146_13, s146_14, s146_48, s146_49, s146_50, s146_51, s146_52, s146_53, s146_54, s146_55, s146_56, s146_57, s146_58, Option.toList_some, Option.toList_none, List.cons_append, List.nil_append, Nat.le_refl, true_and, and_true, true_or, or_true, false_or, or_false, true_implies, false_implies, implies_true, not_true_eq_false, not_false_eq_true, eq_self, Nat.reduceLT, Nat.reduceLeDiff, Nat.reduceEqDiff, Nat.reduceAdd, Nat.reduceSub, Int.reduceLT, Int.reduceLE, Int.reduceEq, Int.reduceNeg, Int.reduceNe, Int.reduceAdd, Int.reduceSub, Int.reduceMul, Int.reduceToNat, Int.toNat_zero, Int.toNat_one, Int.toNat_natCast, am_cats, am_cat, am_st1, am_st2, am_clr, up2_na, up2_nj, up2_same, List.getElem?_cons_zero, List.getElem?_cons_succ, List.set_cons_zero, List.set_cons_succ, ne_eq, tk_152 hh, kh2, h93, m153, s93, m156y hh f3 w160 ⟨w, hbw, by omega, c14⟩]
          refine mc_all (n := n1) (w := w + 1) (m := m) (a := a) hh f3 f4 w160 (by omega) (Or.inr (by show 10 ≤ cOp (W1 w); rw [c14]; decide)) (fun X2 g1 g2 => ⟨⟨Nat.le_refl _, Nat.le_refl _⟩, ?_⟩)
          have fin := hO rfl 0 0 (n1 + (pcd a m).length) w X2 W1 nm1 (fun _ => ⟨rfl, rfl⟩) (fun _ => rfl) ⟨by show w ≤ p' + 1; omega, fun j hj => (g1 j (by omega)).trans (f1 j hj), fun j hj => (f2 j (by omega)).trans (sx_n (by omega)), f3, pnd_0, l, by rw [pcd_0, List.append_nil, List.nil_append], by omega, by rw [f5]; exact RB_app (RB_cg f7 (fun j hj => g1 j (by omega))) (by rw [← f6]; exact g2)⟩
          simp only [s146_59, s146_60, s146_61, s146_62, s146_63, s146_64, s146_65, s146_66, s146_67, s146_68, s146_69, s146_70, s146_71, s146_72, s146_73, s146_74, s146_75, s146_76, s146_77, s146_93, Option.toList_some, Option.toList_none, List.cons_append, List.nil_append, Nat.le_refl, true_and, and_true, true_or, or_true, false_or, or_false, true_implies, false_implies, implies_true, not_true_eq_false, not_false_eq_true, eq_self, Nat.reduceLT, Nat.reduceLeDiff, Nat.reduceEqDiff, Nat.reduceAdd, Nat.reduceSub, Int.reduceLT, Int.reduceLE, Int.reduceEq, Int.reduceNeg, Int.reduceNe, Int.reduceAdd, Int.reduceSub, Int.reduceMul, Int.reduceToNat, Int.toNat_zero, Int.toNat_one, Int.toNat_natCast, am_cats, am_cat, am_st1, am_st2, am_clr, up2_na, up2_nj, up2_same, List.getElem?_cons_zero, List.getElem?_cons_succ, List.set_cons_zero, List.set_cons_succ, ne_eq, tk_152 hh, pI_18, pI_21, pI_23, pu_18, pu_21, pu_23, w32_d (show w ≤ 1080 by omega), w32_d (show o ≤ 1080 by omega), w32_s (show p' ≤ 1080 by omega)]
          exact fin _
        · have e1 : prsS (hr I L) (r + 1) 0 o p n = rbad 1 p' := by
            rw [e0]
            show (if (0 : Int) = 0 then (if hr I L p' = 93 then ((0, p' + 1, l) : RR) else rbad 1 p') else _) = _
            rw [if_pos rfl, if_neg h93]
          have fin := hB _ (by rw [e1]) (rbad_n (by decide)) p' ((o + 1 : Nat) : Int) n1 w1 nm1 X1 W1
          have p3 : p' ≤ 160 := by omega
          simp only [s146_9, s146_10, s146_11, s146_12, s146_13, s146_14, s146_48, s146_49, s146_50, s146_51, s146_78, s146_79, s146_80, s146_81, s146_82, s146_83, s146_84, s146_85, s146_86, s146_87, Option.toList_some, Option.toList_none, List.cons_append, List.nil_append, Nat.le_refl, true_and, and_true, true_or, or_true, false_or, or_false, true_implies, false_implies, implies_true, not_true_eq_false, not_false_eq_true, eq_self, Nat.reduceLT, Nat.reduceLeDiff, Nat.reduceEqDiff, Nat.reduceAdd, Nat.reduceSub, Int.reduceLT, Int.reduceLE, Int.reduceEq, Int.reduceNeg, Int.reduceNe, Int.reduceAdd, Int.reduceSub, Int.reduceMul, Int.reduceToNat, Int.toNat_zero, Int.toNat_one, Int.toNat_natCast, am_cats, am_cat, am_st1, am_st2, am_clr, up2_na, up2_nj, up2_same, List.getElem?_cons_zero, List.getElem?_cons_succ, List.set_cons_zero, List.set_cons_succ, ne_eq, tk_152 hh, kh2, h93, m153, esf, m156y hh f3 w160 ⟨w, hbw, by omega, c14⟩, pI_18, m145 hh (by decide : (1 : Int) ≤ 1 ∧ (1 : Int) ≤ 9) p3]
          exact fin
  rw [if_neg h91] at e0
  by_cases hk : 0 ≤ tkF (hr I L p)
  · rw [if_pos hk] at e0
    obtain ⟨t1, t2, t3⟩ := tkF_rg hk
    have hpL : p < L := hr_w (I := I) (by omega)
    have nd : ¬ (48 ≤ hr I L p ∧ hr I L p ≤ 57) := by omega
    have nk : ¬ tkF (hr I L p) = -1 := by omega
    rw [e0] at hO
    have fin := hO rfl 0 0 (n + 1) w (sx X n (1048576 * 1 + tkF (hr I L p))) W nm (fun _ => ⟨rfl, rfl⟩) (fun _ => rfl) ⟨by show w ≤ p + 1; omega, fun j hj => sx_n (by omega), fun j hj => rfl, hW, pnd_0, [(1, tkF (hr I L p))], rfl, rfl, RB_one⟩
    simp only [s147_1, s147_2, s147_3, s147_10, s147_11, s147_12, s147_25, s147_26, s147_27, s147_28, s147_29, s147_30, s147_31, s147_38, s147_39, s147_40, s147_41, s147_42, s147_43, s147_44, s147_45, s147_46, s147_47, s147_48, s147_49, Option.toList_some, Option.toList_none, List.cons_append, List.nil_append, Nat.le_refl, true_and, and_true, true_or, or_true, false_or, or_false, true_implies, false_implies, implies_true, not_true_eq_false, not_false_eq_true, eq_self, Nat.reduceLT, Nat.reduceLeDiff, Nat.reduceEqDiff, Nat.reduceAdd, Nat.reduceSub, Int.reduceLT, Int.reduceLE, Int.reduceEq, Int.reduceNeg, Int.reduceNe, Int.reduceAdd, Int.reduceSub, Int.reduceMul, Int.reduceToNat, Int.toNat_zero, Int.toNat_one, Int.toNat_natCast, am_cats, am_cat, am_st1, am_st2, am_clr, up2_na, up2_nj, up2_same, List.getElem?_cons_zero, List.getElem?_cons_succ, List.set_cons_zero, List.set_cons_succ, ne_eq, tk_152 hh, kh, h91, m149 hh hL hL2 hp, i10, nd, m152, nk, m151 hh (by decide : (0 : Int) ≤ 1 ∧ (1 : Int) ≤ 14) (show 0 ≤ tkF (hr I L p) ∧ tkF (hr I L p) < 1048576 by omega) (show n < 180 by omega), pI_18, pu_18, w32_s (show p ≤ 1080 by omega)]
    exact ⟨⟨Nat.le_refl _, Nat.le_refl _⟩, Or.inr ⟨rfl, fin⟩⟩
  rw [if_neg hk] at e0
  by_cases hd2 : 48 ≤ hr I L p ∧ hr I L p ≤ 57
  · rw [if_pos hd2] at e0
    have hpL : p < L := hr_w (I := I) (by omega)
    have na := nm_adv (sg := hr I L) (L := L) hr_hs 5 p 0 hp
    have nb := nm_bd (sg := hr I L) (fun p => by have := hr_bd hy p; omega) 5 p 0 1 (by decide) (by decide) (by decide) (by decide)
    have nb2 : (nmS (hr I L) 5 p 0).2.2 < 100000 := nb.2
    have nb1 := nb.1
    rw [e0] at hO hB
    simp only [s147_1, s147_2, s147_3, s147_10, s147_11, s147_12, s147_13, s147_14, Option.toList_some, Option.toList_none, List.cons_append, List.nil_append, Nat.le_refl, true_and, and_true, true_or, or_true, false_or, or_false, true_implies, false_implies, implies_true, not_true_eq_false, not_false_eq_true, eq_self, Nat.reduceLT, Nat.reduceLeDiff, Nat.reduceEqDiff, Nat.reduceAdd, Nat.reduceSub, Int.reduceLT, Int.reduceLE, Int.reduceEq, Int.reduceNeg, Int.reduceNe, Int.reduceAdd, Int.reduceSub, Int.reduceMul, Int.reduceToNat, Int.toNat_zero, Int.toNat_one, Int.toNat_natCast, am_cats, am_cat, am_st1, am_st2, am_clr, up2_na, up2_nj, up2_same, List.getElem?_cons_zero, List.getElem?_cons_succ, List.set_cons_zero, List.set_cons_succ, ne_eq, tk_152 hh, kh, h91, m149 hh hL hL2 hp, i10, hd2, e150, s150_0, s150_1, s150_2, s150_3, s150_4, s150_5, pI_18, pu_25]
    refine m150_loop (d := e) hy 5 p 0 0 p rfl rfl hp (by decide) (by decide) (fun hf => ⟨⟨Nat.le_refl _, Nat.le_refl _⟩, ?_⟩) (fun hf => ⟨⟨Nat.le_refl _, Nat.le_refl _⟩, ?_⟩)
    · have fin := hB _ rfl hf (nmS (hr I L) 5 p 0).2.1 o n w (nmS (hr I L) 5 p 0).2.2 X W
      simp only [s147_15, s147_16, s147_17, Option.toList_some, Option.toList_none, List.cons_append, List.nil_append, Nat.le_refl, true_and, and_true, true_or, or_true, false_or, or_false, true_implies, false_implies, implies_true, not_true_eq_false, not_false_eq_true, eq_self, Nat.reduceLT, Nat.reduceLeDiff, Nat.reduceEqDiff, Nat.reduceAdd, Nat.reduceSub, Int.reduceLT, Int.reduceLE, Int.reduceEq, Int.reduceNeg, Int.reduceNe, Int.reduceAdd, Int.reduceSub, Int.reduceMul, Int.reduceToNat, Int.toNat_zero, Int.toNat_one, Int.toNat_natCast, am_cats, am_cat, am_st1, am_st2, am_clr, up2_na, up2_nj, up2_same, List.getElem?_cons_zero, List.getElem?_cons_succ, List.set_cons_zero, List.set_cons_succ, ne_eq]
      exact ⟨⟨Nat.le_refl _, Nat.le_refl _⟩, Or.inl ⟨rfl, fin⟩⟩
    · have fin := hO hf 0 0 (n + 1) w (sx X n (1048576 * 0 + (nmS (hr I L) 5 p 0).2.2)) W (nmS (hr I L) 5 p 0).2.2 (fun _ => ⟨rfl, rfl⟩) (fun _ => rfl) ⟨by show w ≤ (nmS (hr I L) 5 p 0).2.1; omega, fun j hj => sx_n (by omega), fun j hj => rfl, hW, pnd_0, [(0, (nmS (hr I L) 5 p 0).2.2)], rfl, rfl, RB_one⟩
      simp only [s147_15, s147_18, s147_19, s147_20, s147_21, s147_22, s147_23, s147_24, Option.toList_some, Option.toList_none, List.cons_append, List.nil_append, Nat.le_refl, true_and, and_true, true_or, or_true, false_or, or_false, true_implies, false_implies, implies_true, not_true_eq_false, not_false_eq_true, eq_self, Nat.reduceLT, Nat.reduceLeDiff, Nat.reduceEqDiff, Nat.reduceAdd, Nat.reduceSub, Int.reduceLT, Int.reduceLE, Int.reduceEq, Int.reduceNeg, Int.reduceNe, Int.reduceAdd, Int.reduceSub, Int.reduceMul, Int.reduceToNat, Int.toNat_zero, Int.toNat_one, Int.toNat_natCast, am_cats, am_cat, am_st1, am_st2, am_clr, up2_na, up2_nj, up2_same, List.getElem?_cons_zero, List.getElem?_cons_succ, List.set_cons_zero, List.set_cons_succ, ne_eq, tk_152 hh, pI_25, m151 hh (by decide : (0 : Int) ≤ 0 ∧ (0 : Int) ≤ 14) (show 0 ≤ (nmS (hr I L) 5 p 0).2.2 ∧ (nmS (hr I L) 5 p 0).2.2 < 1048576 by omega) (show n < 180 by omega)]
      exact ⟨⟨Nat.le_refl _, Nat.le_refl _⟩, Or.inr ⟨rfl, fin⟩⟩
  · rw [if_neg hd2] at e0
    rw [e0] at hB
    have fin := hB _ rfl (rbad_n (by decide)) p o n w nm X W
    have nk : tkF (hr I L p) = -1 := by
      unfold tkF at hk ⊢
      revert hk
      repeat' split
      all_goals omega
    simp only [s147_1, s147_2, s147_3, s147_10, s147_11, s147_12, s147_25, s147_26, s147_27, s147_28, s147_29, s147_30, s147_31, s147_32, s147_33, s147_34, s147_35, s147_36, s147_37, Option.toList_some, Option.toList_none, List.cons_append, List.nil_append, Nat.le_refl, true_and, and_true, true_or, or_true, false_or, or_false, true_implies, false_implies, implies_true, not_true_eq_false, not_false_eq_true, eq_self, Nat.reduceLT, Nat.reduceLeDiff, Nat.reduceEqDiff, Nat.reduceAdd, Nat.reduceSub, Int.reduceLT, Int.reduceLE, Int.reduceEq, Int.reduceNeg, Int.reduceNe, Int.reduceAdd, Int.reduceSub, Int.reduceMul, Int.reduceToNat, Int.toNat_zero, Int.toNat_one, Int.toNat_natCast, am_cats, am_cat, am_st1, am_st2, am_clr, up2_na, up2_nj, up2_same, List.getElem?_cons_zero, List.getElem?_cons_succ, List.set_cons_zero, List.set_cons_succ, ne_eq, tk_152 hh, kh, h91, m149 hh hL hL2 hp, i10, hd2, m152, nk, pI_18, m145 hh (by decide : (1 : Int) ≤ 1 ∧ (1 : Int) ≤ 9) p2]
    exact ⟨⟨Nat.le_refl _, Nat.le_refl _⟩, Or.inl ⟨rfl, fin⟩⟩
/-- behind readsFactor, where it is called -/
theorem c45 {l2 : Option AV} {h : AH} (w : wp codeT mX (e + 3) 147 0 [some (.inr (.inr (some 152))), none] [] h (cK s b e Q)) : wpc codeT mX (e + 3) 147 [.inr (.inr (some 152))] h (fun v h1 => (185 ≤ h1.1 ∧ s ≤ h1.2.1) ∧ wp codeT mX (e + 3 + 1) 146 45 [some (.inr (.inr (some 152))), some (.inl (b : Int)), l2] (v.toList ++ []) h1 Q) := by
  rw [e147]
  refine wp_mono codeT mX w (fun v g hv => ?_)
  obtain ⟨h1, h2⟩ := hv
  refine ⟨h1, ?_⟩
  rcases h2 with ⟨h2, h3⟩ | ⟨h2, h3⟩
  · subst h2
    simp only [s146_45, s146_46, s146_47, Option.toList_some, Option.toList_none, List.cons_append, List.nil_append, Nat.le_refl, true_and, and_true, true_or, or_true, false_or, or_false, true_implies, false_implies, implies_true, not_true_eq_false, not_false_eq_true, eq_self, Nat.reduceLT, Nat.reduceLeDiff, Nat.reduceEqDiff, Nat.reduceAdd, Nat.reduceSub, Int.reduceLT, Int.reduceLE, Int.reduceEq, Int.reduceNeg, Int.reduceNe, Int.reduceAdd, Int.reduceSub, Int.reduceMul, Int.reduceToNat, Int.toNat_zero, Int.toNat_one, Int.toNat_natCast, am_cats, am_cat, am_st1, am_st2, am_clr, up2_na, up2_nj, up2_same, List.getElem?_cons_zero, List.getElem?_cons_succ, List.set_cons_zero, List.set_cons_succ, ne_eq]
    exact h3
  · subst h2
    simp only [s146_45, s146_93, Option.toList_some, Option.toList_none, List.cons_append, List.nil_append, Nat.le_refl, true_and, and_true, true_or, or_true, false_or, or_false, true_implies, false_implies, implies_true, not_true_eq_false, not_false_eq_true, eq_self, Nat.reduceLT, Nat.reduceLeDiff, Nat.reduceEqDiff, Nat.reduceAdd, Nat.reduceSub, Int.reduceLT, Int.reduceLE, Int.reduceEq, Int.reduceNeg, Int.reduceNe, Int.reduceAdd, Int.reduceSub, Int.reduceMul, Int.reduceToNat, Int.toNat_zero, Int.toNat_one, Int.toNat_natCast, am_cats, am_cat, am_st1, am_st2, am_clr, up2_na, up2_nj, up2_same, List.getElem?_cons_zero, List.getElem?_cons_succ, List.set_cons_zero, List.set_cons_succ, ne_eq]
    exact h3 _
theorem c5 {l2 : Option AV} {h : AH} (w : wp codeT mX (e + 3) 147 0 [some (.inr (.inr (some 152))), none] [] h (cK s b e Q)) : wpc codeT mX (e + 3) 147 [.inr (.inr (some 152))] h (fun v h1 => (185 ≤ h1.1 ∧ s ≤ h1.2.1) ∧ wp codeT mX (e + 3 + 1) 146 5 [some (.inr (.inr (some 152))), some (.inl (b : Int)), l2] (v.toList ++ []) h1 Q) := by
  rw [e147]
  refine wp_mono codeT mX w (fun v g hv => ?_)
  obtain ⟨h1, h2⟩ := hv
  refine ⟨h1, ?_⟩
  rcases h2 with ⟨h2, h3⟩ | ⟨h2, h3⟩
  · subst h2
    simp only [s146_5, s146_6, s146_7, Option.toList_some, Option.toList_none, List.cons_append, List.nil_append, Nat.le_refl, true_and, and_true, true_or, or_true, false_or, or_false, true_implies, false_implies, implies_true, not_true_eq_false, not_false_eq_true, eq_self, Nat.reduceLT, Nat.reduceLeDiff, Nat.reduceEqDiff, Nat.reduceAdd, Nat.reduceSub, Int.reduceLT, Int.reduceLE, Int.reduceEq, Int.reduceNeg, Int.reduceNe, Int.reduceAdd, Int.reduceSub, Int.reduceMul, Int.reduceToNat, Int.toNat_zero, Int.toNat_one, Int.toNat_natCast, am_cats, am_cat, am_st1, am_st2, am_clr, up2_na, up2_nj, up2_same, List.getElem?_cons_zero, List.getElem?_cons_succ, List.set_cons_zero, List.set_cons_succ, ne_eq]
    exact h3
  · subst h2
    simp only [s146_5, Option.toList_some, Option.toList_none, List.cons_append, List.nil_append, Nat.le_refl, true_and, and_true, true_or, or_true, false_or, or_false, true_implies, false_implies, implies_true, not_true_eq_false, not_false_eq_true, eq_self, Nat.reduceLT, Nat.reduceLeDiff, Nat.reduceEqDiff, Nat.reduceAdd, Nat.reduceSub, Int.reduceLT, Int.reduceLE, Int.reduceEq, Int.reduceNeg, Int.reduceNe, Int.reduceAdd, Int.reduceSub, Int.reduceMul, Int.reduceToNat, Int.toNat_zero, Int.toNat_one, Int.toNat_natCast, am_cats, am_cat, am_st1, am_st2, am_clr, up2_na, up2_nj, up2_same, List.getElem?_cons_zero, List.getElem?_cons_succ, List.set_cons_zero, List.set_cons_succ, ne_eq]
    exact h3 _
theorem mf1 (hy : yHyp T R I L) (h0 : mF s L T I J R fa sm F H G b e Q r 0) (h7 : mPl s L T I J R fa sm F H G b e Q r) : mF s L T I J R fa sm F H G b e Q (r + 1) 1 := by
  intro o p n w X W nm ho hr0 hp hn hw hbw hW ht hB hO
  refine h0 o p n w X W nm ho (by omega) hp hn hw hbw hW (Or.inr (Or.inl rfl)) (fun f hf hz => ?_) (fun hz a m n1 w1 X1 W1 nm1 hk0 hk1 haf l2 => ?_)
  · have hne : ¬ (prsS (hr I L) r 0 o p n).1 = 0 := by rw [hf]; exact hz
    have e1 : prsS (hr I L) (r + 1) 1 o p n = prsS (hr I L) r 0 o p n := rsq_n (k := fun p' m => prsS (hr I L) r 7 o p' (n + m)) hne
    exact hB f (by rw [e1]; exact hf) hz
  · obtain ⟨rfl, rfl⟩ := hk0 rfl
    obtain ⟨ad1, ad2, ad3⟩ := rd_adv (sg := hr I L) (L := L) hr_hs r 0 o p n hp hz
    have ad3 := ad3 (by decide)
    have e1 : prsS (hr I L) (r + 1) 1 o p n = rcat (prsS (hr I L) r 0 o p n).2.2 (prsS (hr I L) r 7 o (prsS (hr I L) r 0 o p n).2.1 (n + (prsS (hr I L) r 0 o p n).2.2.length)) := rsq_y (k := fun p' m => prsS (hr I L) r 7 o p' (n + m)) hz
    rw [e1] at hB hO
    obtain ⟨f0, f1, f2, f3, f4, l', f5, f6, f7⟩ := id haf
    have hw1 := pnd_w f4
    rw [List.nil_append, pcd_0, List.append_nil] at f5
    have en : n + (prsS (hr I L) r 0 o p n).2.2.length = n1 := by rw [f5]; omega
    rw [en] at hB hO
    subst hw1
    have ht2 : w1 = 0 ∨ 10 ≤ cOp (W1 (w1 - 1)) ∨ cOp (W1 (w1 - 1)) ≤ 3 := by
      by_cases e0 : w1 = 0
      · exact Or.inl e0
      · rw [f2 (w1 - 1) (by omega)]
        rcases ht with h | h | h | h
        · exact Or.inl h
        · exact absurd h (by decide)
        · exact Or.inr (Or.inl h)
        · exact Or.inr (Or.inr h.2)
    refine h7 o (prsS (hr I L) r 0 o p n).2.1 n1 w1 w1 0 X1 W1 nm1 ho (by omega) ad1 (by show n1 + 0 ≤ _; omega) f0 hbw f3 f4 ht2 hB (fun hz2 m2 n2 w2 X2 W2 nm2 haf2 l2' => ?_) l2
    exact hO hz2 0 m2 n2 w2 X2 W2 nm2 (fun z => absurd z (by decide)) (fun _ => rfl) (aft_cat haf haf2) l2'
theorem mpl (hy : yHyp T R I L) (h0 : mF s L T I J R fa sm F H G b e Q r 0) (h7 : mPl s L T I J R fa sm F H G b e Q r) : mPl s L T I J R fa sm F H G b e Q (r + 1) := by
  intro o p n w w1 m X W nm ho hr0 hp hn hw hbw hW hpn ht hB hO l2
  obtain ⟨hh, hL, hL2, -⟩ := id hy
  have kh := k_here (J := J) (s := s) (mdl_hp hh) hL hL2 hp
  have w1w := pnd_le hpn
  by_cases hm : muS (hr I L p) = 0
  · have e1 : prsS (hr I L) (r + 1) 7 o p (n + (pcd 0 m).length) = (0, p, []) := if_pos hm
    rw [e1] at hO
    exact hO rfl m n w1 X W nm ⟨hw, fun _ _ => rfl, fun _ _ => rfl, hW, hpn, [], by rw [List.append_nil, List.nil_append], rfl, RB_nil⟩ l2
  · obtain ⟨hs, hcc⟩ := muS_n hm
    have hpL : p < L := hr_w (I := I) (by omega)
    have e0 : prsS (hr I L) (r + 1) 7 o p (n + (pcd 0 m).length) = rsq (prsS (hr I L) r 0 o (p + 1) (n + (pcd 0 m).length)) (fun p' k => rcat [(muS (hr I L p), 0)] (prsS (hr I L) r 7 o p' (n + (pcd 0 m).length + k + 1))) := if_neg hm
    have hms : 4 ≤ muS (hr I L p) ∧ muS (hr I L p) ≤ 6 := by
      rcases hcc with h | h | h <;> rw [h] <;> decide
    have esf : ssF (hr I L p) = muS (hr I L p) := by
      unfold ssF
      rw [if_pos (by rcases hcc with h | h | h <;> rw [h] <;> rfl), if_neg hm]
    have ns1 : ¬ muS (hr I L p) = -1 := by omega
    have ns4 : ¬ muS (hr I L p) < 4 := by omega
    generalize hS : muS (hr I L p) = S at *
    refine s146_8.mpr ?_
    simp only [s146_9, s146_10, s146_11, s146_12, s146_13, s146_14, s146_15, s146_16, s146_17, s146_18, s146_21, s146_22, Option.toList_some, Option.toList_none, List.cons_append, List.nil_append, Nat.le_refl, true_and, and_true, true_or, or_true, false_or, or_false, true_implies, false_implies, implies_true, not_true_eq_false, not_false_eq_true, eq_self, Nat.reduceLT, Nat.reduceLeDiff, Nat.reduceEqDiff, Nat.reduceAdd, Nat.reduceSub, Int.reduceLT, Int.reduceLE, Int.reduceEq, Int.reduceNeg, Int.reduceNe, Int.reduceAdd, Int.reduceSub, Int.reduceMul, Int.reduceToNat, Int.toNat_zero, Int.toNat_one, Int.toNat_natCast, am_cats, am_cat, am_st1, am_st2, am_clr, up2_na, up2_nj, up2_same, List.getElem?_cons_zero, List.getElem?_cons_succ, List.set_cons_zero, List.set_cons_succ, ne_eq, tk_152 hh, kh, m153, esf, ns1, ns4]
    refine mc_mul (n := n) (w := w) (m := m) hh hW hpn (by omega) (by omega) (by rcases ht with h | h | h; exact Or.inl h; exact Or.inr (Or.inl h); exact Or.inr (Or.inr h)) (fun X2 g1 g2 => ⟨⟨Nat.le_refl _, Nat.le_refl _⟩, ?_⟩)
    have u2 : 0 ≤ (w : Int) ∧ (w : Int) < ((180 : Nat) : Int) := by omega
    simp only [s146_23, s146_24, s146_25, s146_26, s146_27, s146_28, s146_29, s146_30, s146_31, s146_32, s146_33, s146_34, s146_35, s146_36, s146_37, s146_38, s146_39, s146_40, s146_41, s146_42, s146_43, s146_44, Option.toList_some, Option.toList_none, List.cons_append, List.nil_append, Nat.le_refl, true_and, and_true, true_or, or_true, false_or, or_false, true_implies, false_implies, implies_true, not_true_eq_false, not_false_eq_true, eq_self, Nat.reduceLT, Nat.reduceLeDiff, Nat.reduceEqDiff, Nat.reduceAdd, Nat.reduceSub, Int.reduceLT, Int.reduceLE, Int.reduceEq, Int.reduceNeg, Int.reduceNe, Int.reduceAdd, Int.reduceSub, Int.reduceMul, Int.reduceToNat, Int.toNat_zero, Int.toNat_one, Int.toNat_natCast, am_cats, am_cat, am_st1, am_st2, am_clr, up2_na, up2_nj, up2_same, List.getElem?_cons_zero, List.getElem?_cons_succ, List.set_cons_zero, List.set_cons_succ, ne_eq, tk_152 hh, tk_164 hh, rk_152_27 hh, pI_18, pI_23, pu_18, pu_23, pu_164, u2, (w32_eq (by omega) (by omega) : w32 (1048576 * S) = 1048576 * S), w32_s (show w ≤ 1080 by omega), w32_s (show p ≤ 1080 by omega)]
    refine c45 (h0 o (p + 1) (n + (pcd 0 m).length) (w + 1) X2 (sx W w (1048576 * S)) nm ho (by omega) (by omega) (by omega) (by omega) (by omega) (XB_sx hW ⟨by omega, by omega⟩) (Or.inr (Or.inl rfl)) (fun f hf hz => ?_) (fun hz a3 m3 n3 w3 X3 W3 nm3 hk0 hk1 haf l3 => ?_))
    · have hne : ¬ (prsS (hr I L) r 0 o (p + 1) (n + (pcd 0 m).length)).1 = 0 := by rw [hf]; exact hz
      exact hB f (by rw [e0, rsq_n hne]; exact hf) hz
    · obtain ⟨rfl, rfl⟩ := hk0 rfl
      obtain ⟨ad1, ad2, ad3⟩ := rd_adv (sg := hr I L) (L := L) hr_hs r 0 o (p + 1) (n + (pcd 0 m).length) (by omega) hz
      have ad3 := ad3 (by decide)
      obtain ⟨f0, f1, f2, f3, f4, l', f5, f6, f7⟩ := haf
      have hw3 := pnd_w f4
      subst hw3
      rw [List.nil_append, pcd_0, List.append_nil] at f5
      have eP : pcd 0 S = [(S, 0)] := by unfold pcd; rw [if_neg (by omega), if_pos rfl]; rfl
      have wS : W3 w = 1048576 * S := by rw [f2 w (by omega)]; exact sx_s
      have e1 : prsS (hr I L) (r + 1) 7 o p (n + (pcd 0 m).length) = rcat (prsS (hr I L) r 0 o (p + 1) (n + (pcd 0 m).length)).2.2 (rcat [(S, 0)] (prsS (hr I L) r 7 o (prsS (hr I L) r 0 o (p + 1) (n + (pcd 0 m).length)).2.1 (n3 + (pcd 0 S).length))) := by
        rw [e0, rsq_y hz, eP, f6, ← f5]
        rfl
      rw [e1] at hB hO
      have ht3 : w = 0 ∨ 10 ≤ cOp (W3 (w - 1)) ∨ cOp (W3 (w - 1)) ≤ 3 := by
        by_cases e0 : w = 0
        · exact Or.inl e0
        · rw [f2 (w - 1) (by omega), sx_n (by omega)]
          exact ht
      refine h7 o _ n3 w (w + 1) S X3 W3 nm3 ho (by omega) ad1 (by rw [eP]; show n3 + 1 ≤ _; rw [f6, ← f5]; omega) f0 hbw f3 ⟨Or.inl rfl, Or.inr hms, Or.inr (Or.inr (Or.inl ⟨rfl, by omega, rfl, wS⟩))⟩ ht3 hB (fun hz2 m2 n2 w2 X4 W4 nm2 haf2 l2' => ?_) l3
      exact hO hz2 m2 n2 w2 X4 W4 nm2 (aft_step g1 g2 rfl f1 f7 f6 (fun j hj => (f2 j (by omega)).trans (sx_n (by omega))) haf2 (by rw [eP, ← f5]; rfl)) l2'
theorem mf2 (hy : yHyp T R I L) (h1 : mF s L T I J R fa sm F H G b e Q r 1) (h8 : mSl s L T I J R fa sm F H G b e Q r) : mF s L T I J R fa sm F H G b e Q (r + 1) 2 := by
  intro o p n w X W nm ho hr0 hp hn hw hbw hW ht hB hO
  have hts : w = 0 ∨ 10 ≤ cOp (W (w - 1)) := by
    rcases ht with h | h | h | h
    · exact Or.inl h
    · exact absurd h (by decide)
    · exact Or.inr h
    · exact absurd h.1 (by decide)
  refine h1 o p n w X W nm ho (by omega) hp hn hw hbw hW (by rcases hts with h | h; exact Or.inl h; exact Or.inr (Or.inr (Or.inl h))) (fun f hf hz => ?_) (fun hz a m n1 w1 X1 W1 nm1 hk0 hk1 haf l2 => ?_)
  · have hne : ¬ (prsS (hr I L) r 1 o p n).1 = 0 := by rw [hf]; exact hz
    have e1 : prsS (hr I L) (r + 1) 2 o p n = prsS (hr I L) r 1 o p n := rsq_n (k := fun p' m => prsS (hr I L) r 8 o p' (n + m)) hne
    exact hB f (by rw [e1]; exact hf) hz
  · have ha0 := hk1 rfl
    subst ha0
    obtain ⟨ad1, ad2, ad3⟩ := rd_adv (sg := hr I L) (L := L) hr_hs r 1 o p n hp hz
    have ad3 := ad3 (by decide)
    have e1 : prsS (hr I L) (r + 1) 2 o p n = rcat (prsS (hr I L) r 1 o p n).2.2 (prsS (hr I L) r 8 o (prsS (hr I L) r 1 o p n).2.1 (n + (prsS (hr I L) r 1 o p n).2.2.length)) := rsq_y (k := fun p' m => prsS (hr I L) r 8 o p' (n + m)) hz
    rw [e1] at hB hO
    obtain ⟨f0, f1, f2, f3, f4, l', f5, f6, f7⟩ := id haf
    rw [List.nil_append] at f5
    have en : n + (prsS (hr I L) r 1 o p n).2.2.length = n1 + (pcd 0 m).length := by rw [f5, List.length_append]; omega
    rw [en] at hB hO
    have ht2 : w = 0 ∨ 10 ≤ cOp (W1 (w - 1)) := by
      by_cases e0 : w = 0
      · exact Or.inl e0
      · rw [f2 (w - 1) (by omega)]
        exact hts
    refine h8 o (prsS (hr I L) r 1 o p n).2.1 n1 w w1 0 m X1 W1 nm1 ho (by omega) ad1 (by omega) f0 hbw f3 f4 ht2 (end_p r o p n hz) hB (fun hz2 a2 m2 n2 w2 X2 W2 nm2 haf2 l2' => ?_) l2
    exact hO hz2 a2 m2 n2 w2 X2 W2 nm2 (fun z => absurd z (by decide)) (fun z => absurd z (by decide)) (aft_cat haf haf2) l2'
theorem msl (hy : yHyp T R I L) (h1 : mF s L T I J R fa sm F H G b e Q r 1) (h8 : mSl s L T I J R fa sm F H G b e Q r) : mSl s L T I J R fa sm F H G b e Q (r + 1) := by
  intro o p n w w1 a m X W nm ho hr0 hp hn hw hbw hW hpn ht hmu hB hO l2
  obtain ⟨hh, hL, hL2, -⟩ := id hy
  have kh := k_here (J := J) (s := s) (mdl_hp hh) hL hL2 hp
  have w1w := pnd_le hpn
  by_cases hm : adS (hr I L p) = 0
  · have e1 : prsS (hr I L) (r + 1) 8 o p (n + (pcd a m).length) = (0, p, []) := if_pos hm
    rw [e1] at hO
    exact hO rfl a m n w1 X W nm ⟨hw, fun _ _ => rfl, fun _ _ => rfl, hW, hpn, [], by rw [List.append_nil, List.nil_append], rfl, RB_nil⟩ l2
  · obtain ⟨hs, hcc⟩ := adS_n hm
    have hpL : p < L := hr_w (I := I) (by omega)
    have e0 : prsS (hr I L) (r + 1) 8 o p (n + (pcd a m).length) = rsq (prsS (hr I L) r 1 o (p + 1) (n + (pcd a m).length)) (fun p' k => rcat [(adS (hr I L p), 0)] (prsS (hr I L) r 8 o p' (n + (pcd a m).length + k + 1))) := if_neg hm
    have hms : 2 ≤ adS (hr I L p) ∧ adS (hr I L p) ≤ 3 := by
      rcases hcc with h | h <;> rw [h] <;> decide
    have esf : ssF (hr I L p) = adS (hr I L p) := by
      unfold ssF
      rw [if_neg hm]
    have ns1 : ¬ adS (hr I L p) = -1 := by omega
    have ns4 : adS (hr I L p) < 4 := by omega
    generalize hS : adS (hr I L p) = S at *
    refine s146_8.mpr ?_
    simp only [s146_9, s146_10, s146_11, s146_12, s146_13, s146_14, s146_15, s146_16, s146_17, s146_18, s146_19, s146_20, s146_22, Option.toList_some, Option.toList_none, List.cons_append, List.nil_append, Nat.le_refl, true_and, and_true, true_or, or_true, false_or, or_false, true_implies, false_implies, implies_true, not_true_eq_false, not_false_eq_true, eq_self, Nat.reduceLT, Nat.reduceLeDiff, Nat.reduceEqDiff, Nat.reduceAdd, Nat.reduceSub, Int.reduceLT, Int.reduceLE, Int.reduceEq, Int.reduceNeg, Int.reduceNe, Int.reduceAdd, Int.reduceSub, Int.reduceMul, Int.reduceToNat, Int.toNat_zero, Int.toNat_one, Int.toNat_natCast, am_cats, am_cat, am_st1, am_st2, am_clr, up2_na, up2_nj, up2_same, List.getElem?_cons_zero, List.getElem?_cons_succ, List.set_cons_zero, List.set_cons_succ, ne_eq, tk_152 hh, kh, m153, esf, ns1, ns4]
    refine mc_all (n := n) (w := w) (m := m) (a := a) hh hW hpn (by omega) (by omega) ht (fun X2 g1 g2 => ⟨⟨Nat.le_refl _, Nat.le_refl _⟩, ?_⟩)
    have u2 : 0 ≤ (w : Int) ∧ (w : Int) < ((180 : Nat) : Int) := by omega
    simp only [s146_23, s146_24, s146_25, s146_26, s146_27, s146_28, s146_29, s146_30, s146_31, s146_32, s146_33, s146_34, s146_35, s146_36, s146_37, s146_38, s146_39, s146_40, s146_41, s146_42, s146_43, s146_44, Option.toList_some, Option.toList_none, List.cons_append, List.nil_append, Nat.le_refl, true_and, and_true, true_or, or_true, false_or, or_false, true_implies, false_implies, implies_true, not_true_eq_false, not_false_eq_true, eq_self, Nat.reduceLT, Nat.reduceLeDiff, Nat.reduceEqDiff, Nat.reduceAdd, Nat.reduceSub, Int.reduceLT, Int.reduceLE, Int.reduceEq, Int.reduceNeg, Int.reduceNe, Int.reduceAdd, Int.reduceSub, Int.reduceMul, Int.reduceToNat, Int.toNat_zero, Int.toNat_one, Int.toNat_natCast, am_cats, am_cat, am_st1, am_st2, am_clr, up2_na, up2_nj, up2_same, List.getElem?_cons_zero, List.getElem?_cons_succ, List.set_cons_zero, List.set_cons_succ, ne_eq, tk_152 hh, tk_164 hh, rk_152_27 hh, pI_18, pI_23, pu_18, pu_23, pu_164, u2, (w32_eq (by omega) (by omega) : w32 (1048576 * S) = 1048576 * S), w32_s (show w ≤ 1080 by omega), w32_s (show p ≤ 1080 by omega)]
    refine c45 (h1 o (p + 1) (n + (pcd a m).length) (w + 1) X2 (sx W w (1048576 * S)) nm ho (by omega) (by omega) (by omega) (by omega) (by omega) (XB_sx hW ⟨by omega, by omega⟩) (Or.inr (Or.inr (Or.inr ⟨rfl, by show cOp (sx W w (1048576 * S) w) ≤ 3; rw [sx_s, cOp_m (by omega)]; omega⟩))) (fun f hf hz => ?_) (fun hz a3 m3 n3 w3 X3 W3 nm3 hk0 hk1 haf l3 => ?_))
    · have hne : ¬ (prsS (hr I L) r 1 o (p + 1) (n + (pcd a m).length)).1 = 0 := by rw [hf]; exact hz
      exact hB f (by rw [e0, rsq_n hne]; exact hf) hz
    · have ha0 := hk1 rfl
      subst ha0
      obtain ⟨ad1, ad2, ad3⟩ := rd_adv (sg := hr I L) (L := L) hr_hs r 1 o (p + 1) (n + (pcd a m).length) (by omega) hz
      have ad3 := ad3 (by decide)
      obtain ⟨f0, f1, f2, f3, f4, l', f5, f6, f7⟩ := haf
      rw [List.nil_append] at f5
      have eP := pcd_s (m := m3) (show ¬ S = 0 by omega)
      have wS : W3 w = 1048576 * S := by rw [f2 w (by omega)]; exact sx_s
      have flen : (prsS (hr I L) r 1 o (p + 1) (n + (pcd a m).length)).2.2.length = l'.length + (pcd 0 m3).length := by rw [f5, List.length_append]
      have e1 : prsS (hr I L) (r + 1) 8 o p (n + (pcd a m).length) = rcat (prsS (hr I L) r 1 o (p + 1) (n + (pcd a m).length)).2.2 (rcat [(S, 0)] (prsS (hr I L) r 8 o (prsS (hr I L) r 1 o (p + 1) (n + (pcd a m).length)).2.1 (n3 + (pcd S m3).length))) := by
        rw [e0, rsq_y hz]
        have : n + (pcd a m).length + (prsS (hr I L) r 1 o (p + 1) (n + (pcd a m).length)).2.2.length + 1 = n3 + (pcd S m3).length := by rw [eP, flen, f6, List.length_append]; show _ = _ + (_ + 1); omega
        rw [this]
      rw [e1] at hB hO
      have ht3 : w = 0 ∨ 10 ≤ cOp (W3 (w - 1)) := by
        by_cases e0 : w = 0
        · exact Or.inl e0
        · rw [f2 (w - 1) (by omega), sx_n (by omega)]
          exact ht
      have hpn3 : pnd W3 w w3 S m3 := by
        obtain ⟨-, z2, z3⟩ := f4
        refine ⟨Or.inr (by omega), z2, ?_⟩
        rcases z3 with ⟨c1, c2, c3⟩ | ⟨c1, c2, c3, c4⟩ | ⟨c1, c2, c3, c4⟩ | ⟨c1, c2, c3, c4, c5⟩
        · exact Or.inr (Or.inl ⟨by omega, c2, c3, wS⟩)
        · exact absurd rfl c1
        · exact Or.inr (Or.inr (Or.inr ⟨by omega, c2, c3, wS, c4⟩))
        · exact absurd rfl c1
      refine h8 o _ n3 w w3 S m3 X3 W3 nm3 ho (by omega) ad1 (by rw [eP, List.length_append]; show n3 + (_ + 1) ≤ _; omega) f0 hbw f3 hpn3 ht3 (end_p r o _ _ hz) hB (fun hz2 a2 m2 n2 w2 X4 W4 nm2 haf2 l2' => ?_) l3
      refine hO hz2 a2 m2 n2 w2 X4 W4 nm2 (aft_step g1 g2 rfl f1 f7 f6 (fun j hj => (f2 j (by omega)).trans (sx_n (by omega))) haf2 ?_) l2'
      show (prsS (hr I L) r 1 o (p + 1) (n + (pcd a m).length)).2.2 ++ ([(S, 0)] ++ _) = _
      rw [f5, eP]
      simp only [List.append_assoc]
theorem mf_all (hy : yHyp T R I L) : ∀ r, (∀ k, k ≤ 2 → mF s L T I J R fa sm F H G b e Q r k) ∧ mPl s L T I J R fa sm F H G b e Q r ∧ mSl s L T I J R fa sm F H G b e Q r := by
  intro r
  induction r with
  | zero =>
    refine ⟨fun k hk o p n w X W nm ho hr0 hp => ?_, fun o p n w w1 m X W nm ho hr0 hp => ?_, fun o p n w w1 a m X W nm ho hr0 hp => ?_⟩ <;> omega
  | succ r ih =>
    obtain ⟨h, h7, h8⟩ := ih
    refine ⟨fun k hk => ?_, mpl hy (h 0 (by decide)) h7, msl hy (h 1 (by decide)) h8⟩
    match k, hk with
    | 0, _ => exact mf0 hy (h 2 (by decide))
    | 1, _ => exact mf1 hy (h 0 (by decide)) h7
    | 2, _ => exact mf2 hy (h 1 (by decide)) h8
    | k + 3, hk => exact absurd hk (by omega)
end
