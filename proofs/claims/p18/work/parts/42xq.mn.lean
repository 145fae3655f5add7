/-! the law's two readers, 23: tasks of answers are there; again answers alike -/
def lkV (I : Nat → Nat → Int) : Prop := ∀ i : Nat, (i : Int) < I 17 3 → I 158 i < I 152 3
def sV : MO := [(17, some 3), (158, none), (152, some 3)]
theorem lkV_S : rdS sV lkV := by
  intro I I' h e i hi
  rw [h 17 3 rfl] at hi
  rw [h 158 i rfl, h 152 3 rfl]
  exact e i hi
def LAV (g : AH) : Prop := LAL g ∧ lkV g.2.2.2.1
theorem lkV_ad {I Y : Nat → Nat → Int} {h t n : Nat} {day right had : Int} (hn : I 17 3 = n) (t3 : (t : Int) < I 152 3) (hY : ∀ j, Y 158 j = I 158 j) (hY3 : Y 152 3 = I 152 3) (hX : Y 17 3 = ((n + 1 : Nat) : Int)) (hb : lkV I) : lkV (adR Y h t n day right had) := by
  intro i hi
  have e1 : adR Y h t n day right had 17 3 = ((n + 1 : Nat) : Int) := by rw [adR_o (by omega), hX]
  have e2 : adR Y h t n day right had 152 3 = I 152 3 := by rw [adR_o (by omega), hY3]
  rw [e1] at hi
  rw [e2]
  by_cases z : i = n
  · subst z
    rw [adR_t]
    exact t3
  · rw [adR_o (by omega), hY]
    exact hb i (by omega)
section
variable {L s d mx mm k nx nm : Nat} {X : Nat → Int} {lg cmp : Bool} {cx cm : CON}
theorem pv_fr (hL : L ≤ 3072) (hX : ∀ j, rg32 (X j)) (hx : conS cx) (hm : conS cm) (hb : pairB cx cm mx mm k nx nm = true) (ha : (ansB lg cx && ansB lg cm) = true) (hd : 40 ≤ d) (hS : (disj cx.2.2.2.1 sV && disj cm.2.2.2.1 sV) = true) : prx L X s LAV (fun g => lkV g.2.2.2.1) d mx mm k lg false := prx_fr hL hX hx hm hb ha hd lkV_S hS (fun _ h => h.2)
theorem pv_all (h : pr L X s LAL d mx mm k lg false) (hv : prx L X s LAV (fun g => lkV g.2.2.2.1) d mx mm k lg cmp) : pr L X s LAV d mx mm k lg cmp := by
  have := prx_and (prx_pre (prx_of h) (fun _ (h : LAV _) => h.1)) hv
  rw [Bool.false_or] at this
  exact this
theorem pv_told (hL : L ≤ 3072) (hX : ∀ j, rg32 (X j)) (hd : 40 ≤ d) : prx L X s LAV (fun g => lkV g.2.2.2.1) d 73 174 4 false false := by
  refine prx_mk (cx := cn83) (cm := cn146) (nx := 0) (nm := 0) hL hX (cn_all 83 (by decide) cn83 rfl) (cn_all 146 (by decide) cn146 rfl) rfl hd (fun as g hl hr hH hs hP => ?_)
  obtain ⟨a, b, y, z, rfl⟩ := len4 hl
  obtain ⟨c, s, T, I, J, R⟩ := g
  have hc : c = 185 := hH.1
  subst hc
  have hK : LK I := hP.1.1
  have hV : lkV I := hP.2
  have e3 : I 3 3 = I 152 3 := hK.2.2.2.2.2.1
  exact told_two (P' := fun g => lkV g.2.2.2.1) hd hH hK hV (fun h t n y z h6 t8 t3 n2 hn hz => lkV_ad hn (by rw [← e3]; exact t3) (fun j => adX_o (by omega) h6) (adX_o (by omega) h6) adX_3 hV)
theorem pv_does (hL : L ≤ 3072) (hX : ∀ j, rg32 (X j)) (hd : 40 ≤ d) : prx L X s LAV (fun g => lkV g.2.2.2.1) d 66 170 2 false true := by
  refine px_doesG hL hX hd (fun g h => h.1) (fun g h => h.2) (fun s T I Y J R h t n day right had hP hH h6 t8 t3 n2 hn hz fY fX => ?_)
  have hK : LK I := hP.1.1
  have e3 : I 3 3 = I 152 3 := hK.2.2.2.2.2.1
  exact lkV_ad hn (by rw [← e3]; exact t3) (fun j => fY 158 j (by decide) (by decide) (by decide) (fun z => absurd z (by decide))) (fY 152 3 (by decide) (by decide) (by decide) (fun _ => by decide)) ((fX 17 3 (Or.inl ⟨rfl, rfl⟩)).trans adX_3) hP.2
theorem pv_task (hL : L ≤ 3072) (hX : ∀ j, rg32 (X j)) (hd : 40 ≤ d) : prx L X s LAV (fun g => lkV g.2.2.2.1) d 19 137 3 false false := by
  have hx := cn_all 4 (by decide) cn4 rfl
  have hm := cn_all 137 (by decide) cn137 rfl
  refine prx_mk (cx := cn4) (cm := cn137) (nx := 0) (nm := 2) hL hX hx hm rfl hd (fun as g hl hr hH hs hP => ?_)
  refine con_only (n := 0) (k := 3) (r := 0) hx rfl (Nat.le_trans (by decide) hd) hl hr hH hs (fun v g1 r1 r2 r3 _ _ _ sc => ?_)
  obtain ⟨a', e⟩ := ansB_r (lg := false) (c := cn4) rfl r1
  refine ⟨a', e, ?_⟩
  have hV1 : lkV g1.2.2.2.1 := rdS_M lkV_S (by decide +kernel) r3 hP.2
  obtain ⟨a, b, y, rfl⟩ := len3 hl
  obtain ⟨c, s, T, I, J, R⟩ := g1
  obtain ⟨d, rfl⟩ : ∃ e, d = e + 1 := ⟨d - 1, by omega⟩
  have hc : c = 185 := r2.1
  subst hc
  have hh := hp_of (eH5_of r2)
  have hV1 : lkV I := hV1
  have hra := hr a (List.mem_cons_self ..)
  unfold rg32 at hra
  have b1 : 0 ≤ I 152 1 ∧ I 152 1 ≤ 6 := ebd r2 (by decide) (by decide) (by decide)
  have b3 : 0 ≤ I 152 3 ∧ I 152 3 ≤ 8 := ebd r2 (by decide) (by decide) (by decide)
  obtain ⟨z, hz⟩ : ∃ n : Nat, I 152 3 = n := ⟨(I 152 3).toNat, by omega⟩
  obtain ⟨S, hS⟩ : ∃ n : Nat, I 152 1 = n := ⟨(I 152 1).toNat, by omega⟩
  have fin : ∀ b : Int, retP cn137.2.2.1 (some (.inl b)) → eH (185, s, T, I, J, R) → eM cn137.2.2.2.1 (185, s, T, I, J, R) (185, s, T, I, J, R) → ∃ b' : Int, some (Sum.inl b : AV) = some (ansV false b') ∧ ((false : Bool) = true → a' = b') ∧ lkV I := fun b _ _ _ => ⟨b, rfl, fun z => (by cases z), hV1⟩
  show wpc codeT mX (d + 1) 137 [.inr (.inr (some 152)), .inl a, .inl b, .inl y] (185, s, T, I, J, R) _
  by_cases hg : (0 ≤ b ∧ b ≤ 1) ∧ (0 ≤ y ∧ y ≤ 100)
  · obtain ⟨g1, g2⟩ := hg
    by_cases hg2 : 0 < a ∧ z < 8
    · obtain ⟨g3, g4⟩ := hg2
      obtain ⟨D, rfl⟩ : ∃ n : Nat, a = n := ⟨a.toNat, by omega⟩
      refine x137 hh g4 hz (by omega) (by omega) (by omega) hS g1 g2 (fun _ => fin (-1)) (fun _ _ _ _ => ⟨_, rfl, fun z => (by cases z), ?_⟩)
      intro i hi
      have hi : (i : Int) < up2 (up2 (up2 (tkM I z D 6) 155 z b) 156 z y) 152 3 ((z + 1 : Nat) : Int) 17 3 := hi
      show up2 (up2 (up2 (tkM I z D 6) 155 z b) 156 z y) 152 3 ((z + 1 : Nat) : Int) 158 i < up2 (up2 (up2 (tkM I z D 6) 155 z b) 156 z y) 152 3 ((z + 1 : Nat) : Int) 152 3
      rw [up2_na (by decide), up2_na (by decide), up2_na (by decide), tkM_o (by decide)] at hi ⊢
      rw [up2_same]
      have := hV1 i hi
      omega
    · have fin : ∀ Q : Option AV → AH → Prop, Q (some (.inl (-1))) (185, s, T, I, J, R) → wpc codeT mX (d + 1) 137 [.inr (.inr (some 152)), .inl a, .inl b, .inl y] (185, s, T, I, J, R) Q := by
        intro Q hQ
        simp only [s137_0, s137_1, s137_2, s137_3, s137_4, s137_5, s137_6, s137_7, s137_8, s137_9, s137_10, s137_11, s137_12, s137_13, s137_14, s137_15, s137_16, s137_17, e137, Option.toList_some, Option.toList_none, List.cons_append, List.nil_append, Nat.le_refl, true_and, and_true, true_or, or_true, false_or, or_false, true_implies, false_implies, implies_true, not_true_eq_false, not_false_eq_true, eq_self, Nat.reduceLT, Nat.reduceLeDiff, Nat.reduceEqDiff, Nat.reduceAdd, Nat.reduceSub, Int.reduceLT, Int.reduceLE, Int.reduceEq, Int.reduceNeg, Int.reduceNe, Int.reduceAdd, Int.reduceSub, Int.reduceMul, Int.reduceToNat, Int.toNat_zero, Int.toNat_one, Int.toNat_natCast, am_cats, am_cat, am_st1, am_st2, am_clr, up2_na, up2_nj, up2_same, List.getElem?_cons_zero, List.getElem?_cons_succ, List.set_cons_zero, List.set_cons_succ, ne_eq, tk_152 hh, k136, i10, g1, g2]
        exact ⟨fun h1 => ⟨fun _ => hQ, fun h2 => absurd hg2 (by omega)⟩, fun _ => hQ⟩
      exact fin _ (fun _ _ _ => ⟨-1, rfl, fun z => (by cases z), hV1⟩)
  · have fin : ∀ Q : Option AV → AH → Prop, Q (some (.inl (-1))) (185, s, T, I, J, R) → wpc codeT mX (d + 1) 137 [.inr (.inr (some 152)), .inl a, .inl b, .inl y] (185, s, T, I, J, R) Q := by
      intro Q hQ
      simp only [s137_0, s137_1, s137_2, s137_3, s137_4, s137_5, s137_6, s137_7, s137_8, s137_9, s137_10, s137_11, s137_16, s137_17, e137, Option.toList_some, Option.toList_none, List.cons_append, List.nil_append, Nat.le_refl, true_and, and_true, true_or, or_true, false_or, or_false, true_implies, false_implies, implies_true, not_true_eq_false, not_false_eq_true, eq_self, Nat.reduceLT, Nat.reduceLeDiff, Nat.reduceEqDiff, Nat.reduceAdd, Nat.reduceSub, Int.reduceLT, Int.reduceLE, Int.reduceEq, Int.reduceNeg, Int.reduceNe, Int.reduceAdd, Int.reduceSub, Int.reduceMul, Int.reduceToNat, Int.toNat_zero, Int.toNat_one, Int.toNat_natCast, am_cats, am_cat, am_st1, am_st2, am_clr, up2_na, up2_nj, up2_same, List.getElem?_cons_zero, List.getElem?_cons_succ, List.set_cons_zero, List.set_cons_succ, ne_eq, tk_152 hh, k136, i10, Classical.not_not]
      exact ⟨fun _ => ⟨fun _ => hQ, fun q2 => ⟨fun _ => hQ, fun q3 => absurd ⟨q2, q3⟩ hg⟩⟩, fun _ => hQ⟩
    exact fin _ (fun _ _ _ => ⟨-1, rfl, fun z => (by cases z), hV1⟩)
/-- the answers alone -/
theorem px_eq {P : AH → Prop} (hL : L ≤ 3072) (hX : ∀ j, rg32 (X j)) (hx : conS cx) (hm : conS cm) (hb : pairB cx cm mx mm k nx nm = true) (hd : 40 ≤ d) (w : ∀ (as : List Int) (s : Nat) (T : Nat → Nat × Nat) (I J : Nat → Nat → Int) (R : Nat → Nat → Option Nat), as.length = k → (∀ z ∈ as, rg32 z) → eH (185, s, T, I, J, R) → P (185, s, T, I, J, R) → ∃ a : Int, wpc codeT mX d mx (.inr (.inr (some 0)) :: as.map (fun z => (Sum.inl z : AV))) (185, s, T, I, J, R) (fun v g1 => v = some (ansV lg a) ∧ (eH g1 → eM cx.2.2.2.1 (185, s, T, I, J, R) g1 → wpc codeT mX d mm (.inr (.inr (some 152)) :: as.map (fun z => (Sum.inl z : AV))) g1 (fun v2 _ => v2 = some (ansV lg a))))) : prx L X s P (fun _ => True) d mx mm k lg true := by
  refine prx_mk hL hX hx hm hb hd (fun as g hl hr hH hs hP => ?_)
  obtain ⟨c, s, T, I, J, R⟩ := g
  have hc : c = 185 := hH.1
  subst hc
  obtain ⟨a, w1⟩ := w as s T I J R hl hr hH hP
  refine wpc_mono w1 (fun v g1 q r1 r2 r3 sc => ?_)
  obtain ⟨e, w2⟩ := q
  exact ⟨a, e, wpc_mono (w2 r2 r3) (fun v2 g2 e2 t1 t2 t3 => ⟨a, e2, fun _ => rfl, trivial⟩)⟩
theorem px_true {P P1 : AH → Prop} (h : prx L X s P P1 d mx mm k lg false) (h2 : prx L X s P (fun _ => True) d mx mm k lg true) : prx L X s P P1 d mx mm k lg true := prx_post (prx_and h h2) (fun _ h => h.1)
end
/-! Arrays.fill, the past made empty -/
section
variable {s d : Nat} {T : Nat → Nat × Nat} {I J : Nat → Nat → Int} {R : Nat → Nat → Option Nat} {Q : Option AV → AH → Prop}
theorem fill_l {a n : Nat} (ha : a < 185) (ht : T a = (100, n)) (n2 : n ≤ 1000) {v : Int} (hQ : ∀ I1, (∀ x j, x ≠ a → I1 x j = I x j) → (∀ j, j < n → I1 a j = v) → Q none (185, s, T, I1, J, R)) : ∀ (r i : Nat), i + r = n → ∀ I1 : Nat → Nat → Int, (∀ x j, x ≠ a → I1 x j = I x j) → (∀ j, j < i → I1 a j = v) → wp codeT mX d 216 5 [some (.inr (.inr (some a))), some (.inl v), some (.inl (i : Int)), some (.inl (n : Int))] [] (185, s, T, I1, J, R) Q := by
  intro r
  induction r with
  | zero =>
    intro i hi I1 h1 h2
    have hi : i = n := by omega
    subst hi
    refine s216_5.mpr ?_
    simp only [s216_6, s216_7, s216_14, Option.toList_some, Option.toList_none, List.cons_append, List.nil_append, Nat.le_refl, true_and, and_true, true_or, or_true, false_or, or_false, true_implies, false_implies, implies_true, not_true_eq_false, not_false_eq_true, eq_self, Nat.reduceLT, Nat.reduceLeDiff, Nat.reduceEqDiff, Nat.reduceAdd, Nat.reduceSub, Int.reduceLT, Int.reduceLE, Int.reduceEq, Int.reduceNeg, Int.reduceNe, Int.reduceAdd, Int.reduceSub, Int.reduceMul, Int.reduceToNat, Int.toNat_zero, Int.toNat_one, Int.toNat_natCast, am_cats, am_cat, am_st1, am_st2, am_clr, up2_na, up2_nj, up2_same, List.getElem?_cons_zero, List.getElem?_cons_succ, List.set_cons_zero, List.set_cons_succ, ne_eq, Int.lt_irrefl]
    exact hQ I1 h1 h2
  | succ r ih =>
    intro i hi I1 h1 h2
    have u1 : (i : Int) < (n : Int) := by omega
    have u2 : 0 ≤ (i : Int) := by omega
    have i2 : i ≤ 1080 := by omega
    have nx := ih (i + 1) (by omega) (up2 I1 a i v) (fun x j hx => (up2_na hx).trans (h1 x j hx)) (fun j hj => by
      by_cases z : j = i
      · rw [z, up2_v]
      · rw [up2_nj z]
        exact h2 j (by omega))
    refine s216_5.mpr ?_
    simp only [s216_6, s216_7, s216_8, s216_9, s216_10, s216_11, s216_12, s216_13, Option.toList_some, Option.toList_none, List.cons_append, List.nil_append, Nat.le_refl, true_and, and_true, true_or, or_true, false_or, or_false, true_implies, false_implies, implies_true, not_true_eq_false, not_false_eq_true, eq_self, Nat.reduceLT, Nat.reduceLeDiff, Nat.reduceEqDiff, Nat.reduceAdd, Nat.reduceSub, Int.reduceLT, Int.reduceLE, Int.reduceEq, Int.reduceNeg, Int.reduceNe, Int.reduceAdd, Int.reduceSub, Int.reduceMul, Int.reduceToNat, Int.toNat_zero, Int.toNat_one, Int.toNat_natCast, am_cats, am_cat, am_st1, am_st2, am_clr, up2_na, up2_nj, up2_same, List.getElem?_cons_zero, List.getElem?_cons_succ, List.set_cons_zero, List.set_cons_succ, ne_eq, ht, ha, u1, u2, w32_s i2]
    exact nx
theorem k216 {a n : Nat} (ha : a < 185) (ht : T a = (100, n)) (n2 : n ≤ 1000) {v : Int} (hQ : ∀ I1, (∀ x j, x ≠ a → I1 x j = I x j) → (∀ j, j < n → I1 a j = v) → Q none (185, s, T, I1, J, R)) : wpc codeT mX d 216 [.inr (.inr (some a)), .inl v] (185, s, T, I, J, R) Q := by
  have go := fill_l (d := d) (s := s) (J := J) ha ht n2 hQ n 0 (Nat.zero_add _) I (fun _ _ _ => rfl) (fun j hj => absurd hj (Nat.not_lt_zero _))
  simp only [s216_0, s216_1, s216_2, s216_3, s216_4, e216, Option.toList_some, Option.toList_none, List.cons_append, List.nil_append, Nat.le_refl, true_and, and_true, true_or, or_true, false_or, or_false, true_implies, false_implies, implies_true, not_true_eq_false, not_false_eq_true, eq_self, Nat.reduceLT, Nat.reduceLeDiff, Nat.reduceEqDiff, Nat.reduceAdd, Nat.reduceSub, Int.reduceLT, Int.reduceLE, Int.reduceEq, Int.reduceNeg, Int.reduceNe, Int.reduceAdd, Int.reduceSub, Int.reduceMul, Int.reduceToNat, Int.toNat_zero, Int.toNat_one, Int.toNat_natCast, am_cats, am_cat, am_st1, am_st2, am_clr, up2_na, up2_nj, up2_same, List.getElem?_cons_zero, List.getElem?_cons_succ, List.set_cons_zero, List.set_cons_succ, ne_eq, ht, ha]
  exact ⟨by omega, go⟩
theorem clr_l (hh : hp T R) (hQ : ∀ I1, (∀ a j, (a < 56 ∨ 62 < a) → I1 a j = I a j) → (∀ j, j < 6 → I1 62 j = 0) → (∀ h t, h < 6 → t < 8 → I1 (56 + h) t = 0) → Q none (185, s, T, I1, J, R)) : ∀ (r i : Nat), i + r = 6 → ∀ I1 : Nat → Nat → Int, (∀ a j, (a < 56 ∨ 62 < a) → I1 a j = I a j) → (∀ j, j < 6 → I1 62 j = 0) → (∀ h t, h < i → t < 8 → I1 (56 + h) t = 0) → wp codeT mX (d + 1) 126 6 [some (.inr (.inr (some 54))), some (.inl (i : Int))] [] (185, s, T, I1, J, R) Q := by
  intro r
  induction r with
  | zero =>
    intro i hi I1 h1 h2 h3
    have hi : i = 6 := by omega
    subst hi
    have u0 : ¬ ((6 : Nat) : Int) < 6 := by decide
    refine s126_6.mpr ?_
    simp only [s126_7, s126_8, s126_17, Option.toList_some, Option.toList_none, List.cons_append, List.nil_append, Nat.le_refl, true_and, and_true, true_or, or_true, false_or, or_false, true_implies, false_implies, implies_true, not_true_eq_false, not_false_eq_true, eq_self, Nat.reduceLT, Nat.reduceLeDiff, Nat.reduceEqDiff, Nat.reduceAdd, Nat.reduceSub, Int.reduceLT, Int.reduceLE, Int.reduceEq, Int.reduceNeg, Int.reduceNe, Int.reduceAdd, Int.reduceSub, Int.reduceMul, Int.reduceToNat, Int.toNat_zero, Int.toNat_one, Int.toNat_natCast, am_cats, am_cat, am_st1, am_st2, am_clr, up2_na, up2_nj, up2_same, List.getElem?_cons_zero, List.getElem?_cons_succ, List.set_cons_zero, List.set_cons_succ, ne_eq, u0]
    exact hQ I1 h1 h2 h3
  | succ r ih =>
    intro i hi I1 h1 h2 h3
    have i6 : i < 6 := by omega
    have u1 : (i : Int) < 6 := by omega
    have u2 : 0 ≤ (i : Int) ∧ (i : Int) < ((6 : Nat) : Int) := by omega
    have u3 : 56 + i < 185 := by omega
    have i2 : i ≤ 1080 := by omega
    have go : wpc codeT mX d 216 [.inr (.inr (some (56 + i))), .inl 0] (185, s, T, I1, J, R) (fun v h1 => (185 ≤ h1.1 ∧ s ≤ h1.2.1) ∧ wp codeT mX (d + 1) 126 15 [some (.inr (.inr (some 54))), some (.inl (i : Int))] (v.toList ++ []) h1 Q) := by
      refine k216 u3 (tg_56 hh i6) (by decide) (fun I2 f1 f2 => ⟨⟨Nat.le_refl _, Nat.le_refl _⟩, ?_⟩)
      have nx := ih (i + 1) (by omega) I2 (fun a j ha => (f1 a j (by omega)).trans (h1 a j ha)) (fun j hj => (f1 62 j (by omega)).trans (h2 j hj)) (fun h t hh' ht => by
        by_cases z : h = i
        · rw [z]
          exact f2 t ht
        · exact (f1 _ t (by omega)).trans (h3 h t (by omega) ht))
      simp only [s126_15, s126_16, Option.toList_some, Option.toList_none, List.cons_append, List.nil_append, Nat.le_refl, true_and, and_true, true_or, or_true, false_or, or_false, true_implies, false_implies, implies_true, not_true_eq_false, not_false_eq_true, eq_self, Nat.reduceLT, Nat.reduceLeDiff, Nat.reduceEqDiff, Nat.reduceAdd, Nat.reduceSub, Int.reduceLT, Int.reduceLE, Int.reduceEq, Int.reduceNeg, Int.reduceNe, Int.reduceAdd, Int.reduceSub, Int.reduceMul, Int.reduceToNat, Int.toNat_zero, Int.toNat_one, Int.toNat_natCast, am_cats, am_cat, am_st1, am_st2, am_clr, up2_na, up2_nj, up2_same, List.getElem?_cons_zero, List.getElem?_cons_succ, List.set_cons_zero, List.set_cons_succ, ne_eq, w32_s i2]
      exact nx
    refine s126_6.mpr ?_
    simp only [s126_7, s126_8, s126_9, s126_10, s126_11, s126_12, s126_13, s126_14, Option.toList_some, Option.toList_none, List.cons_append, List.nil_append, Nat.le_refl, true_and, and_true, true_or, or_true, false_or, or_false, true_implies, false_implies, implies_true, not_true_eq_false, not_false_eq_true, eq_self, Nat.reduceLT, Nat.reduceLeDiff, Nat.reduceEqDiff, Nat.reduceAdd, Nat.reduceSub, Int.reduceLT, Int.reduceLE, Int.reduceEq, Int.reduceNeg, Int.reduceNe, Int.reduceAdd, Int.reduceSub, Int.reduceMul, Int.reduceToNat, Int.toNat_zero, Int.toNat_one, Int.toNat_natCast, am_cats, am_cat, am_st1, am_st2, am_clr, up2_na, up2_nj, up2_same, List.getElem?_cons_zero, List.getElem?_cons_succ, List.set_cons_zero, List.set_cons_succ, ne_eq, tk_54 hh, tk_55 hh, rk_54_0 hh, gk_55 hh i6, u1, u2]
    exact go
theorem x126 (hh : hp T R) (hQ : ∀ I1, (∀ a j, (a < 56 ∨ 62 < a) → I1 a j = I a j) → (∀ j, j < 6 → I1 62 j = 0) → (∀ h t, h < 6 → t < 8 → I1 (56 + h) t = 0) → Q none (185, s, T, I1, J, R)) : wpc codeT mX (d + 1) 126 [.inr (.inr (some 54))] (185, s, T, I, J, R) Q := by
  have go : wpc codeT mX d 216 [.inr (.inr (some 62)), .inl 0] (185, s, T, I, J, R) (fun v h1 => (185 ≤ h1.1 ∧ s ≤ h1.2.1) ∧ wp codeT mX (d + 1) 126 4 [some (.inr (.inr (some 54))), none] (v.toList ++ []) h1 Q) := by
    refine k216 (by decide) (tk_62 hh) (by decide) (fun I2 f1 f2 => ⟨⟨Nat.le_refl _, Nat.le_refl _⟩, ?_⟩)
    have nx := clr_l (d := d) (s := s) (J := J) hh hQ 6 0 rfl I2 (fun a j ha => f1 a j (by omega)) f2 (fun h t h0 _ => absurd h0 (Nat.not_lt_zero _))
    simp only [s126_4, s126_5, Option.toList_some, Option.toList_none, List.cons_append, List.nil_append, Nat.le_refl, true_and, and_true, true_or, or_true, false_or, or_false, true_implies, false_implies, implies_true, not_true_eq_false, not_false_eq_true, eq_self, Nat.reduceLT, Nat.reduceLeDiff, Nat.reduceEqDiff, Nat.reduceAdd, Nat.reduceSub, Int.reduceLT, Int.reduceLE, Int.reduceEq, Int.reduceNeg, Int.reduceNe, Int.reduceAdd, Int.reduceSub, Int.reduceMul, Int.reduceToNat, Int.toNat_zero, Int.toNat_one, Int.toNat_natCast, am_cats, am_cat, am_st1, am_st2, am_clr, up2_na, up2_nj, up2_same, List.getElem?_cons_zero, List.getElem?_cons_succ, List.set_cons_zero, List.set_cons_succ, ne_eq]
    exact nx
  simp only [s126_0, s126_1, s126_2, s126_3, e126, Option.toList_some, Option.toList_none, List.cons_append, List.nil_append, Nat.le_refl, true_and, and_true, true_or, or_true, false_or, or_false, true_implies, false_implies, implies_true, not_true_eq_false, not_false_eq_true, eq_self, Nat.reduceLT, Nat.reduceLeDiff, Nat.reduceEqDiff, Nat.reduceAdd, Nat.reduceSub, Int.reduceLT, Int.reduceLE, Int.reduceEq, Int.reduceNeg, Int.reduceNe, Int.reduceAdd, Int.reduceSub, Int.reduceMul, Int.reduceToNat, Int.toNat_zero, Int.toNat_one, Int.toNat_natCast, am_cats, am_cat, am_st1, am_st2, am_clr, up2_na, up2_nj, up2_same, List.getElem?_cons_zero, List.getElem?_cons_succ, List.set_cons_zero, List.set_cons_succ, ne_eq, tk_54 hh, rk_54_1 hh]
  exact go
end
