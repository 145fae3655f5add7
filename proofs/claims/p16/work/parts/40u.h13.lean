/-! by hand, 13: the law's reader: readsSum; what holds within a condition -/
section
variable {d s : Nat} {T : Nat → Nat × Nat} {I J : Nat → Nat → Int} {R : Nat → Nat → Option Nat} {Q : Option AV → AH → Prop} {L : Nat} {fa op sm nm : Int} {X W F H G X0 W0 : Nat → Int} {f n1 w0 n0 e n w p : Nat}
theorem w_sum (hm : mdl T R) (hL : I 152 19 = (L : Int)) (hL2 : L ≤ 160) (hfa : rg fa) (hsm : 0 ≤ sm ∧ sm ≤ 12) (hF : YB F) (hH : YB H) (hG : YB G) (hop : rg op) (hnm : rg nm) (c1 : OK0 X f n) (c2 : dep X f n = (n0 : Int)) (c3 : f + n + nj W w + e ≤ p) (c4 : w ≤ p) (c5 : p ≤ L) (c6 : ∀ i, i < w → 10 ≤ cOp (W i)) (c7 : XB X) (c8 : XB W) (h1 : ∀ (n' p' : Nat) (X' W' : Nat → Int) (op' nm' : Int), SS L X W f n w n0 e X' W' n' w p' 1 → p ≤ p' → rg op' → rg nm' → Q (some (.inl 1)) (185, s, T, pI I (p' : Int) fa op' ((f + n' : Nat) : Int) (w : Int) sm nm' X' W' F H G, J, R)) (h0 : ∀ g, bdH s T I J R (some (.inl 0)) g → Q (some (.inl 0)) g) : wpc codeT mX (d + 4) 146 [.inr (.inr (some 152))] (185, s, T, pI I (p : Int) fa op ((f + n : Nat) : Int) (w : Int) sm nm X W F H G, J, R) Q := by
  have t152 : T 152 = (12, 53) := hm.1 152 (by decide)
  have hS : SS L X W f n w n0 e X W n w p 0 := ⟨c1, by rw [c2, nb_z w c6]; rfl, c3, c4, c5, Nat.le_refl w, fun i hi => ⟨c6 i hi, rfl⟩, fun i z1 z2 => absurd z2 (by omega), Nat.le_refl n, fun i hi => rfl, fun i z1 z2 => absurd z2 (by omega), c7, c8⟩
  simp only [s146_0, s146_1, s146_2, s146_3, s146_4, e146, e147, Option.toList_some, Option.toList_none, List.cons_append, List.nil_append, Nat.le_refl, true_and, and_true, true_or, or_true, false_or, or_false, true_implies, false_implies, implies_true, not_true_eq_false, not_false_eq_true, eq_self, Nat.reduceLT, Nat.reduceLeDiff, Nat.reduceEqDiff, Nat.reduceAdd, Nat.reduceSub, Int.reduceLT, Int.reduceLE, Int.reduceEq, Int.reduceNeg, Int.reduceNe, Int.reduceAdd, Int.reduceSub, Int.reduceMul, Int.reduceToNat, Int.toNat_zero, Int.toNat_one, Int.toNat_natCast, am_cats, am_cat, am_st1, am_st2, am_clr, up2_na, up2_nj, up2_same, List.getElem?_cons_zero, List.getElem?_cons_succ, List.set_cons_zero, List.set_cons_succ, ne_eq, t152, pI_23]
  refine rf_loop (d := d) hm hL hL2 hfa hsm hF hH hG (pb := p) ?_ ?_ (L - p) p w W op nm (by omega) (Nat.le_refl p) hS hop hnm
  · intro n' w' p' X' W' op' nm' s1 s2 s3 s4
    refine ⟨⟨Nat.le_refl _, Nat.le_refl _⟩, ?_⟩
    have hp' : p' ≤ L := s1.2.2.2.2.1
    have go := rs_loop (d := d) (s := s) (T := T) (J := J) (R := R) hm hL hL2 hfa hsm hF hH hG h1 h0 (L - p') p' w' n' X' W' op' nm' none (by omega) s2 s1 s3 s4
    simp only [s146_5, Option.toList_some, Option.toList_none, List.cons_append, List.nil_append, Nat.le_refl, true_and, and_true, true_or, or_true, false_or, or_false, true_implies, false_implies, implies_true, not_true_eq_false, not_false_eq_true, eq_self, Nat.reduceLT, Nat.reduceLeDiff, Nat.reduceEqDiff, Nat.reduceAdd, Nat.reduceSub, Int.reduceLT, Int.reduceLE, Int.reduceEq, Int.reduceNeg, Int.reduceNe, Int.reduceAdd, Int.reduceSub, Int.reduceMul, Int.reduceToNat, Int.toNat_zero, Int.toNat_one, Int.toNat_natCast, am_cats, am_cat, am_st1, am_st2, am_clr, up2_na, up2_nj, up2_same, List.getElem?_cons_zero, List.getElem?_cons_succ, List.set_cons_zero, List.set_cons_succ, ne_eq]
    exact go
  · intro g hg
    have hg2 := hg
    obtain ⟨-, p3, fa3, op3, cm3, w3, sm3, nm3, X3, W3, F3, H3, G3, -, -, -, -, -, -, -, -, -, -, -, -, rfl⟩ := hg2
    have := h0 _ hg
    refine ⟨⟨Nat.le_refl _, Nat.le_refl _⟩, ?_⟩
    simp only [s146_5, s146_6, s146_7, Option.toList_some, Option.toList_none, List.cons_append, List.nil_append, Nat.le_refl, true_and, and_true, true_or, or_true, false_or, or_false, true_implies, false_implies, implies_true, not_true_eq_false, not_false_eq_true, eq_self, Nat.reduceLT, Nat.reduceLeDiff, Nat.reduceEqDiff, Nat.reduceAdd, Nat.reduceSub, Int.reduceLT, Int.reduceLE, Int.reduceEq, Int.reduceNeg, Int.reduceNe, Int.reduceAdd, Int.reduceSub, Int.reduceMul, Int.reduceToNat, Int.toNat_zero, Int.toNat_one, Int.toNat_natCast, am_cats, am_cat, am_st1, am_st2, am_clr, up2_na, up2_nj, up2_same, List.getElem?_cons_zero, List.getElem?_cons_succ, List.set_cons_zero, List.set_cons_succ, ne_eq]
    exact this
end
/-- within a condition -/
def CS (L : Nat) (X0 : Nat → Int) (f e D : Nat) (X W : Nat → Int) (n w p : Nat) : Prop := OK0 X f n ∧ dep X f n = (D : Int) ∧ f + n + nj W w + e ≤ p ∧ w ≤ p ∧ p ≤ L ∧ (∀ i, i < w → 10 ≤ cOp (W i) ∧ cOp (W i) ≤ 13) ∧ (1 ≤ w → cOp (W 0) = 13) ∧ (∀ i, i < w → cOp (W i) = 11 ∨ cOp (W i) = 12 → ∃ q : Nat, q < n ∧ cVl (W i) = ((f + q : Nat) : Int) ∧ 11 ≤ cOp (X (f + q)) ∧ dep X f q = 1) ∧ (∀ q, q < n → 11 ≤ cOp (X (f + q)) → (∃ t : Nat, cVl (X (f + q)) = ((f + t : Nat) : Int) ∧ q < t ∧ t ≤ n ∧ dep X f t = dep X f q) ∨ ∃ i, i < w ∧ (cOp (W i) = 11 ∨ cOp (W i) = 12) ∧ cVl (W i) = ((f + q : Nat) : Int)) ∧ (∀ i, i < f → X i = X0 i) ∧ XB X ∧ XB W
section
variable {L : Nat} {X0 X1 W1 X W : Nat → Int} {f e e2 D n n1 w p p1 p2 : Nat}
theorem CS_mono (h : CS L X0 f e D X W n w p) (h1 : e2 ≤ e) (h2 : p ≤ p2) (h3 : p2 ≤ L) : CS L X0 f e2 D X W n w p2 := by
  obtain ⟨a1, a2, a3, a4, a5, a6⟩ := h
  exact ⟨a1, a2, by omega, by omega, h3, a6⟩
theorem CS_tk (h : CS L X0 f e D X W n w p) (h3 : p < L) : CS L X0 f (e + 1) D X W n w (p + 1) := by
  obtain ⟨a1, a2, a3, a4, a5, a6⟩ := h
  exact ⟨a1, a2, by omega, by omega, by omega, a6⟩
theorem CS_of (h : CS L X0 f e D X1 W1 n1 w p1) (g : SS L X1 W1 f n1 w D e X W n w p 1) : CS L X0 f e (D + 1) X W n w p := by
  obtain ⟨a1, a2, a3, a4, a5, a6, a7, a8, a9, a10, a11, a12⟩ := h
  obtain ⟨b1, b2, b3, b4, b5, b6, b7, b8, b9, b10, b11, b12, b13⟩ := g
  have hd : ∀ q, q ≤ n1 → dep X f q = dep X1 f q := fun q hq => dep_cg q (fun i hi => by rw [b10 (f + i) (by omega)])
  rw [nb_z w (fun i hi => (b7 i hi).1), Nat.add_zero] at b2
  refine ⟨b1, b2, b3, b4, b5, fun i hi => ?_, fun hw => ?_, fun i hi ho => ?_, fun q hq ho => ?_, fun i hi => ?_, b12, b13⟩
  · rw [(b7 i hi).2]
    exact a6 i hi
  · rw [(b7 0 hw).2]
    exact a7 hw
  · rw [(b7 i hi).2] at ho ⊢
    obtain ⟨q, q1, q2, q3, q4⟩ := a8 i hi ho
    refine ⟨q, by omega, q2, ?_, ?_⟩
    · rw [b10 (f + q) (by omega)]
      exact q3
    · rw [hd q (by omega)]
      exact q4
  · by_cases z : q < n1
    · rw [b10 (f + q) (by omega)] at ho ⊢
      rcases a9 q z ho with ⟨t, t1, t2, t3, t4⟩ | ⟨i, i1, i2, i3⟩
      · refine Or.inl ⟨t, t1, t2, by omega, ?_⟩
        rw [hd t t3, hd q (by omega)]
        exact t4
      · refine Or.inr ⟨i, i1, ?_⟩
        rw [(b7 i i1).2]
        exact ⟨i2, i3⟩
    · have := b11 q (by omega) hq
      omega
  · rw [b10 i (by omega)]
    exact a10 i hi
theorem CS_code {c : Int} (h : CS L X0 f (e + 1) D X W n w p) (h1 : 0 ≤ c ∧ c ≤ 2147483647) (h2 : 2 ≤ cOp c ∧ cOp c ≤ 10) {D2 : Nat} (h3 : cNeed c ≤ D) (h4 : (D2 : Int) = D + cEff c) : CS L X0 f e D2 (sx X (f + n) c) W (n + 1) w p := by
  obtain ⟨a1, a2, a3, a4, a5, a6, a7, a8, a9, a10, a11, a12⟩ := h
  have hd : ∀ q, q ≤ n → dep (sx X (f + n) c) f q = dep X f q := fun q hq => dep_cg q (fun i hi => by rw [sx_n (by omega)])
  refine ⟨OK0_sx a1 h1.1 (by omega) (fun z => by omega) (by rw [a2]; exact h3), by rw [dep_sx1, a2, h4], by omega, a4, a5, a6, a7, fun i hi ho => ?_, fun q hq ho => ?_, fun i hi => ?_, XB_sx a11 ⟨by omega, h1.2⟩, a12⟩
  · obtain ⟨q, q1, q2, q3, q4⟩ := a8 i hi ho
    refine ⟨q, by omega, q2, ?_, ?_⟩
    · rw [sx_n (by omega)]
      exact q3
    · rw [hd q (by omega)]
      exact q4
  · by_cases z : q < n
    · rw [sx_n (by omega)] at ho ⊢
      rcases a9 q z ho with ⟨t, t1, t2, t3, t4⟩ | h
      · refine Or.inl ⟨t, t1, t2, by omega, ?_⟩
        rw [hd t t3, hd q (by omega)]
        exact t4
      · exact Or.inr h
    · have : q = n := by omega
      subst this
      rw [sx_s] at ho
      omega
  · rw [sx_n (by omega)]
    exact a10 i hi
theorem CS_pop (h : CS L X0 f e D X W n (w + 1) p) (h1 : cOp (W w) ≠ 11 ∧ cOp (W w) ≠ 12) : CS L X0 f (e + 1) D X W n w p := by
  obtain ⟨a1, a2, a3, a4, a5, a6, a7, a8, a9, a10, a11, a12⟩ := h
  rw [nj, if_neg (by omega)] at a3
  refine ⟨a1, a2, by omega, by omega, a5, fun i hi => a6 i (by omega), fun _ => a7 (by omega), fun i hi => a8 i (by omega), fun q hq ho => ?_, a10, a11, a12⟩
  rcases a9 q hq ho with h | ⟨i, i1, i2, i3⟩
  · exact Or.inl h
  · refine Or.inr ⟨i, ?_, i2, i3⟩
    by_cases z : i = w
    · subst z
      omega
    · omega
theorem CS_push {c : Int} (h : CS L X0 f e D X W n w p) (h1 : cOp c = 10 ∨ cOp c = 13) (h2 : w = 0 → cOp c = 13) (h3 : 0 ≤ c ∧ c ≤ 2147483647) (hp : p < L) : CS L X0 f e D X (sx W w c) n (w + 1) (p + 1) := by
  obtain ⟨a1, a2, a3, a4, a5, a6, a7, a8, a9, a10, a11, a12⟩ := h
  have e1 : nj (sx W w c) (w + 1) = nj W w + 1 := by
    rw [nj, sx_s, nj_cg (V := W) w (fun i hi => sx_n (by omega)), if_neg (by omega)]
  refine ⟨a1, a2, by omega, by omega, by omega, fun i hi => ?_, fun _ => ?_, fun i hi ho => ?_, fun q hq ho => ?_, a10, a11, XB_sx a12 ⟨by omega, h3.2⟩⟩
  · by_cases z : i = w
    · subst z
      rw [sx_s]
      omega
    · rw [sx_n z]
      exact a6 i (by omega)
  · by_cases z : w = 0
    · subst z
      rw [sx_s]
      exact h2 rfl
    · rw [sx_n (by omega)]
      exact a7 (by omega)
  · by_cases z : i = w
    · subst z
      rw [sx_s] at ho
      omega
    · rw [sx_n z] at ho ⊢
      exact a8 i (by omega) ho
  · rcases a9 q hq ho with h | ⟨i, i1, i2, i3⟩
    · exact Or.inl h
    · refine Or.inr ⟨i, by omega, ?_⟩
      rw [sx_n (by omega)]
      exact ⟨i2, i3⟩
/-- a jump begins: it waits for its place, and its code stands without one -/
theorem CS_jump {o c c2 : Int} (h : CS L X0 f 0 1 X W n w p) (ho : o = 11 ∨ o = 12) (h1 : cOp c = o ∧ cVl c = ((f + n : Nat) : Int)) (h2 : cOp c2 = o) (h3 : 0 ≤ c ∧ c ≤ 2147483647) (h4 : 0 ≤ c2 ∧ c2 ≤ 2147483647) (hw : 1 ≤ w) (hp : p < L) : CS L X0 f 0 0 (sx X (f + n) c2) (sx W w c) (n + 1) (w + 1) (p + 1) := by
  obtain ⟨a1, a2, a3, a4, a5, a6, a7, a8, a9, a10, a11, a12⟩ := h
  have hd : ∀ q, q ≤ n → dep (sx X (f + n) c2) f q = dep X f q := fun q hq => dep_cg q (fun i hi => by rw [sx_n (by omega)])
  have e1 : nj (sx W w c) (w + 1) = nj W w := by
    rw [nj, sx_s, nj_cg (V := W) w (fun i hi => sx_n (by omega)), if_pos (by omega), Nat.add_zero]
  have e2 : cEff c2 = -1 := by
    unfold cEff
    rw [if_neg (by omega), if_neg (by omega)]
  have e3 : cNeed c2 = 1 := by
    unfold cNeed
    rw [if_neg (by omega), if_pos (by omega)]
  refine ⟨OK0_sx a1 h4.1 (by omega) (fun z => by omega) (by rw [a2, e3]; decide), by rw [dep_sx1, a2, e2]; rfl, by omega, by omega, by omega, fun i hi => ?_, fun _ => ?_, fun i hi ho2 => ?_, fun q hq ho2 => ?_, fun i hi => ?_, XB_sx a11 ⟨by omega, h4.2⟩, XB_sx a12 ⟨by omega, h3.2⟩⟩
  · by_cases z : i = w
    · subst z
      rw [sx_s]
      omega
    · rw [sx_n z]
      exact a6 i (by omega)
  · rw [sx_n (by omega)]
    exact a7 hw
  · by_cases z : i = w
    · subst z
      rw [sx_s]
      refine ⟨n, by omega, h1.2, ?_, ?_⟩
      · rw [sx_s]
        omega
      · rw [hd n (Nat.le_refl n), a2]
        rfl
    · rw [sx_n z] at ho2 ⊢
      obtain ⟨q, q1, q2, q3, q4⟩ := a8 i (by omega) ho2
      refine ⟨q, by omega, q2, ?_, ?_⟩
      · rw [sx_n (by omega)]
        exact q3
      · rw [hd q (by omega)]
        exact q4
  · by_cases z : q = n
    · subst z
      refine Or.inr ⟨w, by omega, ?_⟩
      rw [sx_s]
      exact ⟨by omega, h1.2⟩
    · rw [sx_n (by omega)] at ho2 ⊢
      rcases a9 q (by omega) ho2 with ⟨t, t1, t2, t3, t4⟩ | ⟨i, i1, i2, i3⟩
      · refine Or.inl ⟨t, t1, t2, by omega, ?_⟩
        rw [hd t t3, hd q (by omega)]
        exact t4
      · refine Or.inr ⟨i, by omega, ?_⟩
        rw [sx_n (by omega)]
        exact ⟨i2, i3⟩
  · rw [sx_n (by omega)]
    exact a10 i hi
/-- a jump lands -/
theorem CS_land {q : Nat} {c : Int} (h : CS L X0 f 0 1 X W n (w + 1) p) (hq : q < n) (h0 : 11 ≤ cOp (X (f + q))) (h1 : cVl (W w) = ((f + q : Nat) : Int)) (h2 : dep X f q = 1) (h3 : cOp (W w) = 11 ∨ cOp (W w) = 12) (h4 : cOp c = cOp (X (f + q)) ∧ cVl c = ((f + n : Nat) : Int)) (h5 : 0 ≤ c ∧ c ≤ 2147483647) : CS L X0 f 0 1 (sx X (f + q) c) W n w p := by
  obtain ⟨a1, a2, a3, a4, a5, a6, a7, a8, a9, a10, a11, a12⟩ := h
  have ho : ∀ i, cOp (sx X (f + q) c (f + i)) = cOp (X (f + i)) := by
    intro i
    by_cases z : i = q
    · subst z
      rw [sx_s]
      exact h4.1
    · rw [sx_n (by omega)]
  have hd : ∀ k, dep (sx X (f + q) c) f k = dep X f k := fun k => dep_cg k (fun i hi => ho i)
  have e1 : nj W (w + 1) = nj W w := by rw [nj, if_pos h3, Nat.add_zero]
  refine ⟨fun i hi => ?_, by rw [hd, a2], by omega, by omega, a5, fun i hi => a6 i (by omega), fun _ => a7 (by omega), fun i hi ho2 => ?_, fun k hk ho2 => ?_, fun i hi => ?_, XB_sx a11 ⟨by omega, h5.2⟩, a12⟩
  · obtain ⟨b1, b2, b3, b4⟩ := a1 i hi
    by_cases z : i = q
    · subst z
      refine ⟨by rw [sx_s]; exact h5.1, by rw [ho]; exact b2, fun y => ?_, ?_⟩
      · rw [ho] at y
        omega
      · rw [hd]
        unfold cNeed at b4 ⊢
        rw [ho]
        exact b4
    · unfold ok0
      rw [hd, sx_n (by omega)]
      exact ⟨b1, b2, b3, b4⟩
  · obtain ⟨k, q1, q2, q3, q4⟩ := a8 i (by omega) ho2
    exact ⟨k, q1, q2, by rw [ho]; exact q3, by rw [hd]; exact q4⟩
  · by_cases z : k = q
    · subst z
      refine Or.inl ⟨n, ?_, hk, Nat.le_refl n, ?_⟩
      · rw [sx_s]
        exact h4.2
      · rw [hd, hd, a2, h2]
        rfl
    · rw [ho] at ho2
      rcases a9 k hk ho2 with ⟨t, t1, t2, t3, t4⟩ | ⟨i, i1, i2, i3⟩
      · refine Or.inl ⟨t, ?_, t2, t3, ?_⟩
        · rw [sx_n (by omega)]
          exact t1
        · rw [hd, hd]
          exact t4
      · refine Or.inr ⟨i, ?_, i2, i3⟩
        by_cases y : i = w
        · subst y
          omega
        · omega
  · rw [sx_n (by omega)]
    exact a10 i hi
end
