/-! the engine, 3: comparisons -/
def refLe (y : EY) (a : AE) (b : Int) : Option EY := match y.1[a.1]? with
  | some q => am_g (q.1 ≤ min q.2.1 (b - a.2)) (some (y.1.set a.1 (q.1, min q.2.1 (b - a.2), q.2.2), y.2))
  | none => some y
def refGe (y : EY) (a : AE) (b : Int) : Option EY := match y.1[a.1]? with
  | some q => am_g (max q.1 (b - a.2) ≤ q.2.1) (some (y.1.set a.1 (max q.1 (b - a.2), q.2.1, q.2.2), y.2))
  | none => some y
def prp : EF → EY → Option EY
  | [], y => some y
  | e :: r, y => match refLe y (e.1, 0) ((bd y (e.2.1, 0)).2 - e.2.2) with
    | none => none
    | some y => match refGe y (e.2.1, 0) ((bd y (e.1, 0)).1 + e.2.2) with
      | none => none
      | some y => prp r y
def adF (y : EY) (a b : AE) (d : Int) : EY := if a.1 = 0 ∨ b.1 = 0 then y else (y.1, y.2.1, (a.1, b.1, d) :: y.2.2.1, y.2.2.2)
def leq (y : EY) (a b : AE) : Bool := if a.1 = b.1 then decide (a.2 ≤ b.2) else decide ((bd y a).2 ≤ (bd y b).1) || y.2.2.1.any (fun e => decide (e.1 = a.1) && (decide (e.2.1 = b.1 ∧ a.2 - b.2 ≤ e.2.2) || y.2.2.1.any (fun f => decide (f.1 = e.2.1 ∧ f.2.1 = b.1 ∧ a.2 - b.2 ≤ e.2.2 + f.2.2))))
/-- a + d ≤ b -/
def asLe (y : EY) (a b : AE) (d : Int) : Option EY := if leq y (b.1, b.2 + 1) (a.1, a.2 + d) then none else match refLe y a ((bd y b).2 - d) with
  | none => none
  | some y => match refGe y b ((bd y a).1 + d) with
    | none => none
    | some y => if a.1 = 0 ∨ b.1 = 0 ∨ a.1 = b.1 then some y else prp ((adF y a b (a.2 - b.2 + d)).2.2.1) (adF y a b (a.2 - b.2 + d))
def asEq (y : EY) (a b : AE) : Option EY := if a.1 = b.1 then (if a.2 = b.2 then some y else none) else match refLe y a (bd y b).2 with
  | none => none
  | some y => match refGe y a (bd y b).1 with
    | none => none
    | some y => match refLe y b (bd y a).2 with
      | none => none
      | some y => refGe y b (bd y a).1
def asNe (y : EY) (a b : AE) : List EY := if a.1 = b.1 then (if a.2 = b.2 then [] else [y]) else if a.1 = 0 ∨ b.1 = 0 then (asLe y a b 1).toList ++ (asLe y b a 1).toList else if leq y a b then (asLe y a b 1).toList else if leq y b a then (asLe y b a 1).toList else [y]
/-- 0 lt, 1 eq, 2 gt -/
def asC (y : EY) (a b : AE) : Nat → List EY
  | 0 => (asLe y a b 1).toList
  | 1 => (asEq y a b).toList
  | _ => (asLe y b a 1).toList
def am_c3 (c : ClassFile.Cond) (r : Nat) : Bool := match c with
  | .eq => r == 1
  | .ne => r != 1
  | .lt => r == 0
  | .ge => r != 0
  | .gt => r == 2
  | .le => r != 2
def asO (c : ClassFile.Cond) (y : EY) (a b : AE) : List EY := match c with
  | .eq => (asEq y a b).toList
  | .ne => asNe y a b
  | .lt => (asLe y a b 1).toList
  | .ge => (asLe y b a 0).toList
  | .gt => (asLe y b a 1).toList
  | .le => (asLe y a b 0).toList
def findC (s : Nat) : EC → Option (AE × AE)
  | [] => none
  | e :: r => if e.1 = s then some e.2 else findC s r
def asm (c : ClassFile.Cond) (y : EY) (a b : AE) : List EY := match findC a.1 y.2.2.2.2 with
  | some (p, q) => if b.1 = 0 then (if am_cmp c (-1) (b.2 - a.2) then asC y p q 0 else []) ++ ((if am_cmp c 0 (b.2 - a.2) then asC y p q 1 else []) ++ (if am_cmp c 1 (b.2 - a.2) then asC y p q 2 else [])) else asO c y a b
  | none => asO c y a b
section
variable {σ : Nat → Int} {y : EY} {g : AH}
def sameN (y y' : EY) : Prop := y'.1.length = y.1.length
theorem setG {q : Int × Int × List Nat} {j : Nat} (h : eY σ y g) (hq : q.1 ≤ σ j ∧ σ j ≤ q.2.1 ∧ (q.2.2 = [] ∨ ∃ i ∈ q.2.2, σ j = (i : Nat))) : eY σ (y.1.set j q, y.2) g ∧ sameN y (y.1.set j q, y.2) := by
  obtain ⟨⟨g1, g2, g3⟩, hO, hF, hD, hC⟩ := h
  have hl : (y.1.set j q).length = y.1.length := List.length_set
  refine ⟨⟨⟨by show 0 < (y.1.set j q).length; omega, g2, ?_⟩, by show eO σ (y.1.set j q).length g _; rw [hl]; exact hO, by show eF σ (y.1.set j q).length _; rw [hl]; exact hF, by show eD σ (y.1.set j q).length _; rw [hl]; exact hD, by show eC σ (y.1.set j q).length _; rw [hl]; exact hC⟩, hl⟩
  intro k q' e
  have e5 : (y.1.set j q)[k]? = some q' := e
  clear e
  rw [List.getElem?_set] at e5
  split at e5
  · rename_i e9
    subst e9
    split at e5
    · cases e5; exact hq
    · cases e5
  · exact g3 _ _ e5
theorem refLe_r (h : eY σ y g) {a : AE} {b : Int} (hz : vA σ a ≤ b) : ∃ y', refLe y a b = some y' ∧ eY σ y' g ∧ sameN y y' := by
  unfold refLe
  split
  · rename_i q hq
    obtain ⟨g1, g2, g3⟩ := h.1.2.2 _ _ hq
    unfold vA at hz
    unfold am_g
    rw [if_pos (by omega)]
    exact ⟨_, rfl, setG h ⟨g1, by dsimp only; omega, g3⟩⟩
  · exact ⟨_, rfl, h, rfl⟩
theorem refGe_r (h : eY σ y g) {a : AE} {b : Int} (hz : b ≤ vA σ a) : ∃ y', refGe y a b = some y' ∧ eY σ y' g ∧ sameN y y' := by
  unfold refGe
  split
  · rename_i q hq
    obtain ⟨g1, g2, g3⟩ := h.1.2.2 _ _ hq
    unfold vA at hz
    unfold am_g
    rw [if_pos (by omega)]
    exact ⟨_, rfl, setG h ⟨by dsimp only; omega, g2, g3⟩⟩
  · exact ⟨_, rfl, h, rfl⟩
theorem vA0 (k : Nat) : vA σ (k, 0) = σ k := by unfold vA; exact Int.add_zero _
theorem prp_r : ∀ (F : EF) {y : EY}, eY σ y g → eF σ y.1.length F → ∃ y', prp F y = some y' ∧ eY σ y' g ∧ sameN y y'
  | [], y, h, _ => ⟨y, rfl, h, rfl⟩
  | e :: r, y, h, hF => by
    obtain ⟨f1, f2, f3⟩ := hF e List.mem_cons_self
    have b1 := bd_r h (a := (e.2.1, 0)) f2
    rw [vA0] at b1
    obtain ⟨y1, e1, h1, n1⟩ := refLe_r h (a := (e.1, 0)) (b := (bd y (e.2.1, 0)).2 - e.2.2) (by rw [vA0]; omega)
    have b2 := bd_r h1 (a := (e.1, 0)) (by rw [n1]; exact f1)
    rw [vA0] at b2
    obtain ⟨y2, e2, h2, n2⟩ := refGe_r h1 (a := (e.2.1, 0)) (b := (bd y1 (e.1, 0)).1 + e.2.2) (by rw [vA0]; omega)
    have n : sameN y y2 := n2.trans n1
    obtain ⟨y3, e3, h3, n3⟩ := prp_r r h2 (by rw [show y2.1.length = y.1.length from n]; exact fun e' he' => hF e' (List.mem_cons_of_mem _ he'))
    refine ⟨y3, ?_, h3, n3.trans n⟩
    rw [prp, e1]
    dsimp only
    rw [e2]
    exact e3
theorem leq_r (h : eY σ y g) {a b : AE} (ha : a.1 < y.1.length) (hb : b.1 < y.1.length) (hl : leq y a b = true) : vA σ a ≤ vA σ b := by
  unfold leq at hl
  split at hl
  · rename_i e
    unfold vA
    rw [e]
    have := of_decide_eq_true hl
    omega
  · rw [Bool.or_eq_true] at hl
    rcases hl with hl | hl
    · have := of_decide_eq_true hl
      have := bd_r h ha
      have := bd_r h hb
      omega
    · obtain ⟨e, he, hl⟩ := List.any_eq_true.mp hl
      rw [Bool.and_eq_true, Bool.or_eq_true, decide_eq_true_eq, decide_eq_true_eq] at hl
      obtain ⟨-, -, f3⟩ := h.2.2.1 e he
      unfold vA
      obtain ⟨l1, l2 | l2⟩ := hl
      · rw [l1, l2.1] at f3
        omega
      · obtain ⟨f, hf, l2⟩ := List.any_eq_true.mp l2
        have l2 := of_decide_eq_true l2
        obtain ⟨-, -, f4⟩ := h.2.2.1 f hf
        rw [l2.1, l2.2.1] at f4
        rw [l1] at f3
        omega
theorem asLe_r (h : eY σ y g) {a b : AE} {d : Int} (ha : a.1 < y.1.length) (hb : b.1 < y.1.length) (hz : vA σ a + d ≤ vA σ b) : ∃ y', asLe y a b d = some y' ∧ eY σ y' g ∧ sameN y y' := by
  unfold asLe
  split
  · rename_i hl
    have := leq_r h (a := (b.1, b.2 + 1)) (b := (a.1, a.2 + d)) hb ha hl
    unfold vA at this hz
    dsimp only at this
    omega
  · have b1 := bd_r h hb
    obtain ⟨y1, e1, h1, n1⟩ := refLe_r h (a := a) (b := (bd y b).2 - d) (by omega)
    have b2 := bd_r h1 (a := a) (by rw [n1]; exact ha)
    obtain ⟨y2, e2, h2, n2⟩ := refGe_r h1 (a := b) (b := (bd y1 a).1 + d) (by omega)
    have n : sameN y y2 := n2.trans n1
    rw [e1]
    dsimp only
    rw [e2]
    dsimp only
    split
    · exact ⟨_, rfl, h2, n⟩
    · rename_i h9
      have hF : eY σ (adF y2 a b (a.2 - b.2 + d)) g := by
        unfold adF
        rw [if_neg (fun z => h9 (z.elim Or.inl (fun z => Or.inr (Or.inl z))))]
        obtain ⟨hG, hO, hF, hR⟩ := h2
        refine ⟨hG, hO, fun e he => ?_, hR⟩
        rcases List.mem_cons.mp he with rfl | he
        · refine ⟨by show a.1 < y2.1.length; rw [show y2.1.length = y.1.length from n]; exact ha, by show b.1 < y2.1.length; rw [show y2.1.length = y.1.length from n]; exact hb, ?_⟩
          unfold vA at hz
          dsimp only
          omega
        · exact hF e he
      obtain ⟨y3, e3, h3, n3⟩ := prp_r _ hF hF.2.2.1
      refine ⟨y3, e3, h3, n3.trans ?_⟩
      unfold adF
      split <;> exact n
theorem asEq_r (h : eY σ y g) {a b : AE} (ha : a.1 < y.1.length) (hb : b.1 < y.1.length) (hz : vA σ a = vA σ b) : ∃ y', asEq y a b = some y' ∧ eY σ y' g ∧ sameN y y' := by
  unfold asEq
  split
  · rename_i e
    have : a.2 = b.2 := by unfold vA at hz; rw [e] at hz; omega
    rw [if_pos this]
    exact ⟨_, rfl, h, rfl⟩
  · have b1 := bd_r h hb
    obtain ⟨y1, e1, h1, n1⟩ := refLe_r h (a := a) (b := (bd y b).2) (by omega)
    have b2 := bd_r h1 (a := b) (by rw [n1]; exact hb)
    obtain ⟨y2, e2, h2, n2⟩ := refGe_r h1 (a := a) (b := (bd y1 b).1) (by omega)
    have nn : sameN y y2 := n2.trans n1
    have b3 := bd_r h2 (a := a) (by rw [show y2.1.length = y.1.length from nn]; exact ha)
    obtain ⟨y3, e3, h3, n3⟩ := refLe_r h2 (a := b) (b := (bd y2 a).2) (by omega)
    have nn3 : sameN y y3 := n3.trans nn
    have b4 := bd_r h3 (a := a) (by rw [show y3.1.length = y.1.length from nn3]; exact ha)
    obtain ⟨y4, e4, h4, n4⟩ := refGe_r h3 (a := b) (b := (bd y3 a).1) (by omega)
    rw [e1]
    dsimp only
    rw [e2]
    dsimp only
    rw [e3]
    exact ⟨y4, e4, h4, n4.trans nn3⟩
theorem toL {o : Option EY} {P : EY → Prop} (h : ∃ y', o = some y' ∧ P y') : ∃ y' ∈ o.toList, P y' := by
  obtain ⟨y', rfl, hp⟩ := h
  exact ⟨y', List.mem_singleton.mpr rfl, hp⟩
theorem asNe_r (h : eY σ y g) {a b : AE} (ha : a.1 < y.1.length) (hb : b.1 < y.1.length) (hz : vA σ a ≠ vA σ b) : ∃ y' ∈ asNe y a b, eY σ y' g ∧ sameN y y' := by
  unfold asNe
  split
  · rename_i e
    rw [if_neg (fun e2 => hz (by unfold vA; rw [e, e2]))]
    exact ⟨y, List.mem_singleton.mpr rfl, h, rfl⟩
  · split
    · by_cases hl : vA σ a < vA σ b
      · obtain ⟨y', m, r⟩ := toL (asLe_r h ha hb (d := 1) (by omega))
        exact ⟨y', List.mem_append_left _ m, r⟩
      · obtain ⟨y', m, r⟩ := toL (asLe_r h hb ha (d := 1) (by omega))
        exact ⟨y', List.mem_append_right _ m, r⟩
    · split
      · rename_i hl
        have := leq_r h ha hb hl
        exact toL (asLe_r h ha hb (d := 1) (by omega))
      · split
        · rename_i hl
          have := leq_r h hb ha hl
          exact toL (asLe_r h hb ha (d := 1) (by omega))
        · exact ⟨y, List.mem_singleton.mpr rfl, h, rfl⟩
theorem asO_r (h : eY σ y g) {c : ClassFile.Cond} {a b : AE} (ha : a.1 < y.1.length) (hb : b.1 < y.1.length) (hz : am_cmp c (vA σ a) (vA σ b) = true) : ∃ y' ∈ asO c y a b, eY σ y' g ∧ sameN y y' := by
  cases c <;> simp only [am_cmp, decide_eq_true_eq] at hz
  · exact toL (asEq_r h ha hb hz)
  · exact asNe_r h ha hb hz
  · exact toL (asLe_r h ha hb (d := 1) (by omega))
  · exact toL (asLe_r h hb ha (d := 0) (by omega))
  · exact toL (asLe_r h hb ha (d := 1) (by omega))
  · exact toL (asLe_r h ha hb (d := 0) (by omega))
theorem findC_m {s : Nat} {q : AE × AE} : ∀ {C : EC}, findC s C = some q → (s, q) ∈ C
  | [], h => by cases h
  | e :: r, h => by
    rw [findC] at h
    split at h
    · rename_i e9
      cases h
      subst e9
      exact List.mem_cons_self
    · exact List.mem_cons_of_mem _ (findC_m h)
theorem asm_r (h : eY σ y g) {c : ClassFile.Cond} {a b : AE} (ha : a.1 < y.1.length) (hb : b.1 < y.1.length) (hz : am_cmp c (vA σ a) (vA σ b) = true) : ∃ y' ∈ asm c y a b, eY σ y' g ∧ sameN y y' := by
  unfold asm
  split
  · rename_i p q hf
    split
    · rename_i hb0
      obtain ⟨-, c2, c3, c4⟩ := h.2.2.2.2 _ (findC_m hf)
      dsimp only at c2 c3 c4
      have e2 : vA σ b = b.2 := k0_r h hb0
      rw [e2] at hz
      have ea : vA σ a = σ a.1 + a.2 := rfl
      rw [ea, c4] at hz
      unfold sgnI at hz
      have key : ∀ r : Int, am_cmp c (r + a.2) b.2 = am_cmp c r (b.2 - a.2) := fun r => by
        cases c <;> simp only [am_cmp] <;> congr 1 <;> exact propext ⟨fun z => by omega, fun z => by omega⟩
      rw [key] at hz
      split at hz
      · obtain ⟨y', m, r⟩ := toL (asLe_r h c3 c2 (d := 1) (by omega))
        exact ⟨y', List.mem_append_right _ (List.mem_append_right _ (by rw [if_pos hz]; exact m)), r⟩
      · split at hz
        · obtain ⟨y', m, r⟩ := toL (asLe_r h c2 c3 (d := 1) (by omega))
          exact ⟨y', List.mem_append_left _ (by rw [if_pos hz]; exact m), r⟩
        · obtain ⟨y', m, r⟩ := toL (asEq_r h c2 c3 (by omega))
          exact ⟨y', List.mem_append_right _ (List.mem_append_left _ (by rw [if_pos hz]; exact m)), r⟩
    · exact asO_r h ha hb hz
  · exact asO_r h ha hb hz
end
