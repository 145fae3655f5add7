/-! the law by hand, 3: the likeness of class and reference (what needs no law of a store) -/
/-- one number of the class, one of the reference -/
def twn (a j b k : Nat) (I : Nat → Nat → Int) : Prop := I a j = I b k
theorem twn_S (a j b k : Nat) : rdS [(a, some j), (b, some k)] (twn a j b k) := by
  intro I I' h e
  unfold twn at e ⊢
  rw [h a j (by unfold inM; simp), h b k (by unfold inM; simp)]
  exact e
/-- the tape -/
def lkY (I : Nat → Nat → Int) : Prop := ∀ j : Nat, (j : Int) < I 1 1 → I 2 j = I 162 j % 256
def sY : MO := [(1, some 1), (2, none), (162, none)]
theorem lkY_S : rdS sY lkY := by
  intro I I' h e j hj
  rw [h 1 1 rfl] at hj
  rw [h 2 j rfl, h 162 j rfl]
  exact e j hj
/-- shares -/
def lkS (I : Nat → Nat → Int) : Prop := ∀ h k : Nat, h < 6 → k < 6 → I (88 + h) k = I 153 (6 * h + k)
def sS : MO := [(88, none), (89, none), (90, none), (91, none), (92, none), (93, none), (153, none)]
theorem in6 {M : MO} {b : Nat} (h : ∀ q, q < 6 → M.any (fun e => decide (e.1 = b + q) && e.2.isNone) = true) {q j : Nat} (hq : q < 6) : inM M (b + q) j = true := by
  obtain ⟨e, me, he⟩ := List.any_eq_true.mp (h q hq)
  unfold inM
  refine List.any_eq_true.mpr ⟨e, me, ?_⟩
  rw [Bool.and_eq_true] at he ⊢
  refine ⟨he.1, ?_⟩
  cases h2 : e.2 with
  | none => rfl
  | some z => rw [h2] at he; cases he.2
theorem in8 {M : MO} {b : Nat} (h : ∀ q, q < 8 → M.any (fun e => decide (e.1 = b + q) && e.2.isNone) = true) {q j : Nat} (hq : q < 8) : inM M (b + q) j = true := by
  obtain ⟨e, me, he⟩ := List.any_eq_true.mp (h q hq)
  unfold inM
  refine List.any_eq_true.mpr ⟨e, me, ?_⟩
  rw [Bool.and_eq_true] at he ⊢
  refine ⟨he.1, ?_⟩
  cases h2 : e.2 with
  | none => rfl
  | some z => rw [h2] at he; cases he.2
theorem lkS_S : rdS sS lkS := by
  intro I I' h e a k ha hk
  rw [h (88 + a) k (in6 (by decide) ha), h 153 _ rfl]
  exact e a k ha hk
/-- what a task uses in all, and of which stores (reference's numbers) -/
def useA (I : Nat → Nat → Int) (t : Nat) : Int := I 154 (6 * t) + I 154 (6 * t + 1) + I 154 (6 * t + 2) + I 154 (6 * t + 3) + I 154 (6 * t + 4) + I 154 (6 * t + 5)
def bit1 (x : Int) (k : Int) : Int := if 0 < x then k else 0
def useB (I : Nat → Nat → Int) (t : Nat) : Int := bit1 (I 154 (6 * t)) 1 + bit1 (I 154 (6 * t + 1)) 2 + bit1 (I 154 (6 * t + 2)) 4 + bit1 (I 154 (6 * t + 3)) 8 + bit1 (I 154 (6 * t + 4)) 16 + bit1 (I 154 (6 * t + 5)) 32
/-- tasks -/
def lkT (I : Nat → Nat → Int) : Prop := (∀ t : Nat, t < 8 → (t : Int) < I 3 3 → I 13 t = I 155 t ∧ I 14 t = I 156 t ∧ 0 ≤ I 13 t ∧ I 13 t ≤ 1 ∧ 0 ≤ I 14 t ∧ I 14 t ≤ 100 ∧ I 15 t = useB I t ∧ I 16 t = useA I t ∧ 0 < useA I t ∧ ∀ k : Nat, k < 6 → I (5 + t) k = I 154 (6 * t + k) ∧ 0 ≤ I (5 + t) k ∧ I (5 + t) k ≤ 9 ∧ (0 < I (5 + t) k → (k : Int) < I 0 1)) ∧ ∀ t k : Nat, t < 8 → k < 6 → I 3 3 ≤ (t : Int) → I 0 1 ≤ (k : Int) → I (5 + t) k = 0
def sT : MO := [(0, some 1), (3, some 3), (5, none), (6, none), (7, none), (8, none), (9, none), (10, none), (11, none), (12, none), (13, none), (14, none), (15, none), (16, none), (154, none), (155, none), (156, none)]
/-- answers: who, what, when -/
def lkB (I : Nat → Nat → Int) : Prop := ∀ i : Nat, (i : Int) < I 17 3 → I 19 i = I 157 i ∧ I 20 i = I 158 i ∧ I 21 i = I 159 i
def sB : MO := [(17, some 3), (19, none), (20, none), (21, none), (157, none), (158, none), (159, none)]
theorem lkB_S : rdS sB lkB := by
  intro I I' h e i hi
  rw [h 17 3 rfl] at hi
  rw [h 19 i rfl, h 157 i rfl, h 20 i rfl, h 158 i rfl, h 21 i rfl, h 159 i rfl]
  exact e i hi
/-- old things -/
def lkO (I : Nat → Nat → Int) : Prop := ∀ i : Nat, (i : Int) < I 102 3 → I 103 i = I 179 i ∧ I 104 i = I 180 i ∧ I 105 i = I 181 i ∧ 0 ≤ I 103 i ∧ I 103 i ≤ 99 ∧ 0 ≤ I 105 i ∧ I 105 i ≤ 1
def sO : MO := [(102, some 3), (103, none), (104, none), (105, none), (179, none), (180, none), (181, none)]
theorem lkO_S : rdS sO lkO := by
  intro I I' h e i hi
  rw [h 102 3 rfl] at hi
  rw [h 103 i rfl, h 104 i rfl, h 105 i rfl, h 179 i rfl, h 180 i rfl, h 181 i rfl]
  exact e i hi
/-- mistakes -/
def lkC (I : Nat → Nat → Int) : Prop := (∀ h t : Nat, h < 6 → t < 8 → I (109 + h) t = I 182 (8 * h + t)) ∧ ∀ j : Nat, j < 576 → I 107 j = I 183 j ∧ 0 ≤ I 107 j ∧ I 107 j ≤ 1000
def sC : MO := [(107, none), (109, none), (110, none), (111, none), (112, none), (113, none), (114, none), (182, none), (183, none)]
theorem lkC_S : rdS sC lkC := by
  intro I I' h e
  refine ⟨fun a t ha ht => ?_, fun j hj => ?_⟩
  · rw [h (109 + a) t (in6 (by decide) ha), h 182 _ rfl]
    exact e.1 a t ha ht
  · rw [h 107 j rfl, h 183 j rfl]
    exact e.2 j hj
/-- days on which one was asked -/
def lkQ (I : Nat → Nat → Int) : Prop := ∀ j : Nat, j < 1800 → I 115 j = I 184 j
def sQ : MO := [(115, none), (184, none)]
theorem lkQ_S : rdS sQ lkQ := by
  intro I I' h e j hj
  rw [h 115 j rfl, h 184 j rfl]
  exact e j hj
theorem lkT_S : rdS sT lkT := by
  intro I I' h e
  have h5 : ∀ t k : Nat, t < 8 → I' (5 + t) k = I (5 + t) k := fun t k ht => h _ _ (in8 (by decide) ht)
  have hA : ∀ t, useA I' t = useA I t := fun t => by
    unfold useA
    rw [h 154 _ rfl, h 154 _ rfl, h 154 _ rfl, h 154 _ rfl, h 154 _ rfl, h 154 _ rfl]
  have hB : ∀ t, useB I' t = useB I t := fun t => by
    unfold useB
    rw [h 154 _ rfl, h 154 _ rfl, h 154 _ rfl, h 154 _ rfl, h 154 _ rfl, h 154 _ rfl]
  unfold lkT at e ⊢
  rw [h 3 3 rfl, h 0 1 rfl]
  refine ⟨fun t h8 ht => ?_, fun t k ht hk h1 h2 => ?_⟩
  · obtain ⟨e1, e2, e3, e4, e5, e6, e7, e8, e9, e10⟩ := e.1 t h8 ht
    rw [h 13 t rfl, h 14 t rfl, h 15 t rfl, h 16 t rfl, h 155 t rfl, h 156 t rfl, hA, hB]
    refine ⟨e1, e2, e3, e4, e5, e6, e7, e8, e9, fun k hk => ?_⟩
    rw [h5 t k h8, h 154 _ rfl]
    exact e10 k hk
  · rw [h5 t k ht]
    exact e.2 t k ht hk h1 h2
/-- all of it -/
def LK (I : Nat → Nat → Int) : Prop := twn 0 0 152 0 I ∧ twn 0 1 152 1 I ∧ twn 0 2 152 2 I ∧ twn 0 3 152 5 I ∧ twn 0 4 152 6 I ∧ twn 3 3 152 3 I ∧ twn 17 3 152 4 I ∧ twn 102 3 152 46 I ∧ twn 1 1 152 17 I ∧ lkY I ∧ lkS I ∧ lkT I ∧ lkB I ∧ lkO I ∧ lkC I ∧ lkQ I
def sA : MO := [(0, some 0), (152, some 0), (0, some 1), (152, some 1), (0, some 2), (152, some 2), (0, some 3), (152, some 5), (0, some 4), (152, some 6), (3, some 3), (152, some 3), (17, some 3), (152, some 4), (102, some 3), (152, some 46), (1, some 1), (152, some 17)] ++ (sY ++ (sS ++ (sT ++ (sB ++ (sO ++ (sC ++ sQ))))))
theorem rdS_sub {S S' : MO} {C : (Nat → Nat → Int) → Prop} (hC : rdS S C) (h : subM S S' = true) : rdS S' C := fun I I' hI => hC I I' (fun a j hi => hI a j (by
  rw [← Bool.not_eq_false]
  intro hf
  rw [subM_r h hf] at hi
  cases hi))
theorem LK_S : rdS sA LK := by
  intro I I' h e
  obtain ⟨l0, l1, l2, l3, l4, l5, l6, l7, l8, l9, l10, l11, l12, l13, l14, l15⟩ := e
  exact ⟨rdS_sub (twn_S _ _ _ _) (by decide +kernel) I I' h l0, rdS_sub (twn_S _ _ _ _) (by decide +kernel) I I' h l1, rdS_sub (twn_S _ _ _ _) (by decide +kernel) I I' h l2, rdS_sub (twn_S _ _ _ _) (by decide +kernel) I I' h l3, rdS_sub (twn_S _ _ _ _) (by decide +kernel) I I' h l4, rdS_sub (twn_S _ _ _ _) (by decide +kernel) I I' h l5, rdS_sub (twn_S _ _ _ _) (by decide +kernel) I I' h l6, rdS_sub (twn_S _ _ _ _) (by decide +kernel) I I' h l7, rdS_sub (twn_S _ _ _ _) (by decide +kernel) I I' h l8, rdS_sub lkY_S (by decide +kernel) I I' h l9, rdS_sub lkS_S (by decide +kernel) I I' h l10, rdS_sub lkT_S (by decide +kernel) I I' h l11, rdS_sub lkB_S (by decide +kernel) I I' h l12, rdS_sub lkO_S (by decide +kernel) I I' h l13, rdS_sub lkC_S (by decide +kernel) I I' h l14, rdS_sub lkQ_S (by decide +kernel) I I' h l15⟩
theorem rdS_2 {S M M' : MO} {C : (Nat → Nat → Int) → Prop} {g g1 g2 : AH} (hC : rdS S C) (hd : (disj M S && disj M' S) = true) (m1 : eM M g g1) (m2 : eM M' g1 g2) (h : C g.2.2.2.1) : C g2.2.2.2.1 := by
  rw [Bool.and_eq_true] at hd
  exact rdS_M hC hd.2 m2 (rdS_M hC hd.1 m1 h)
def LKP (g : AH) : Prop := LK g.2.2.2.1
theorem len1 {as : List Int} (h : as.length = 1) : ∃ a, as = [a] := by
  match as, h with
  | [a], _ => exact ⟨a, rfl⟩
theorem len2 {as : List Int} (h : as.length = 2) : ∃ a b, as = [a, b] := by
  match as, h with
  | [a, b], _ => exact ⟨a, b, rfl⟩
theorem len3 {as : List Int} (h : as.length = 3) : ∃ a b c, as = [a, b, c] := by
  match as, h with
  | [a, b, c], _ => exact ⟨a, b, c, rfl⟩
theorem len4 {as : List Int} (h : as.length = 4) : ∃ a b c d, as = [a, b, c, d] := by
  match as, h with
  | [a, b, c, d], _ => exact ⟨a, b, c, d, rfl⟩
theorem len5 {as : List Int} (h : as.length = 5) : ∃ a b c d e, as = [a, b, c, d, e] := by
  match as, h with
  | [a, b, c, d, e], _ => exact ⟨a, b, c, d, e, rfl⟩
/-- queries -/
theorem pr_q {cx cm : CON} {mx mm k nx nm d L s : Nat} {X : Nat → Int} {lg : Bool} (hL : L ≤ 3072) (hX : ∀ j, rg32 (X j)) (hx : conS cx) (hm : conS cm) (hb : pairB cx cm mx mm k nx nm = true) (ha : (ansB lg cx && ansB lg cm) = true) (hd : 40 ≤ d) (hS : (disj cx.2.2.2.1 sA && disj cm.2.2.2.1 sA) = true) : pr L X s LKP d mx mm k lg false := by
  rw [Bool.and_eq_true] at ha hS
  exact pr_fr hL hX hx hm hb ha.1 ha.2 hd (fun g g' hM h => rdS_M LK_S hS.1 hM h) (fun g g' hM h => rdS_M LK_S hS.2 hM h)
