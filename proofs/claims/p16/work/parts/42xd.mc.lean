/-! the law's two readers, 12: what codes come to -/
/-- a set of states that is closed under the steps of a reckoning -/
def runC (ft : Nat → Int) (co : Nat → Int × Int) (to : Nat) (P : Nat → List Int → Option Int → Prop) : Prop := (∀ v : Int, P to [v] (some v)) ∧ (∀ (i : Nat) (v : Int) (st : List Int) (r : Option Int), i < to → co i = (0, v) → 0 ≤ v → v < 1048576 → P (i + 1) (v :: st) r → P i st r) ∧ (∀ (i v : Nat) (st : List Int) (r : Option Int), i < to → co i = (1, (v : Int)) → v < 9 → P (i + 1) (ft v :: st) r → P i st r) ∧ (∀ (i : Nat) (a : Int) (st : List Int) (r : Option Int), i < to → co i = (10, 0) → P (i + 1) (w32 (1 - a) :: st) r → P i (a :: st) r) ∧ (∀ (i t : Nat) (o a : Int) (st : List Int) (r : Option Int), i < to → co i = (o, (t : Int)) → (o = 11 ∧ a = 0 ∨ o = 12 ∧ a = 1) → i < t → t ≤ to → P t (a :: st) r → P i (a :: st) r) ∧ (∀ (i t : Nat) (o a : Int) (st : List Int) (r : Option Int), i < to → co i = (o, (t : Int)) → (o = 11 ∧ a = 1 ∨ o = 12 ∧ a = 0) → i < t → t ≤ to → P (i + 1) st r → P i (a :: st) r) ∧ (∀ (i : Nat) (o a : Int) (st : List Int), i < to → co i = (o, 0) → (o = 5 ∨ o = 6) → P i (0 :: a :: st) none) ∧ (∀ (i : Nat) (o a b : Int) (st : List Int) (r : Option Int), i < to → co i = (o, 0) → (2 ≤ o ∧ o ≤ 9) → ¬ ((o = 5 ∨ o = 6) ∧ b = 0) → P (i + 1) (rkn o a b :: st) r → P i (b :: a :: st) r)
def RUN (ft : Nat → Int) (co : Nat → Int × Int) (to : Nat) (i : Nat) (st : List Int) (r : Option Int) : Prop := ∀ P : Nat → List Int → Option Int → Prop, runC ft co to P → P i st r
section
variable {ft : Nat → Int} {co : Nat → Int × Int} {to : Nat} {st : List Int} {r : Option Int}
theorem RUN.fin {v : Int} : RUN ft co to to [v] (some v) := fun P hP => hP.1 v
theorem RUN.num {i : Nat} {v : Int} (h1 : i < to) (h2 : co i = (0, v)) (h3 : 0 ≤ v) (h4 : v < 1048576) (h : RUN ft co to (i + 1) (v :: st) r) : RUN ft co to i st r := fun P hP => hP.2.1 i v st r h1 h2 h3 h4 (h P hP)
theorem RUN.ltr {i v : Nat} (h1 : i < to) (h2 : co i = (1, (v : Int))) (h3 : v < 9) (h : RUN ft co to (i + 1) (ft v :: st) r) : RUN ft co to i st r := fun P hP => hP.2.2.1 i v st r h1 h2 h3 (h P hP)
theorem RUN.ngt {i : Nat} {a : Int} (h1 : i < to) (h2 : co i = (10, 0)) (h : RUN ft co to (i + 1) (w32 (1 - a) :: st) r) : RUN ft co to i (a :: st) r := fun P hP => hP.2.2.2.1 i a st r h1 h2 (h P hP)
theorem RUN.jmp {i t : Nat} {o a : Int} (h1 : i < to) (h2 : co i = (o, (t : Int))) (h3 : o = 11 ∧ a = 0 ∨ o = 12 ∧ a = 1) (h4 : i < t) (h5 : t ≤ to) (h : RUN ft co to t (a :: st) r) : RUN ft co to i (a :: st) r := fun P hP => hP.2.2.2.2.1 i t o a st r h1 h2 h3 h4 h5 (h P hP)
theorem RUN.pas {i t : Nat} {o a : Int} (h1 : i < to) (h2 : co i = (o, (t : Int))) (h3 : o = 11 ∧ a = 1 ∨ o = 12 ∧ a = 0) (h4 : i < t) (h5 : t ≤ to) (h : RUN ft co to (i + 1) st r) : RUN ft co to i (a :: st) r := fun P hP => hP.2.2.2.2.2.1 i t o a st r h1 h2 h3 h4 h5 (h P hP)
theorem RUN.dv {i : Nat} {o a : Int} (h1 : i < to) (h2 : co i = (o, 0)) (h3 : o = 5 ∨ o = 6) : RUN ft co to i (0 :: a :: st) none := fun P hP => hP.2.2.2.2.2.2.1 i o a st h1 h2 h3
theorem RUN.op {i : Nat} {o a b : Int} (h1 : i < to) (h2 : co i = (o, 0)) (h3 : 2 ≤ o ∧ o ≤ 9) (h4 : ¬ ((o = 5 ∨ o = 6) ∧ b = 0)) (h : RUN ft co to (i + 1) (rkn o a b :: st) r) : RUN ft co to i (b :: a :: st) r := fun P hP => hP.2.2.2.2.2.2.2 i o a b st r h1 h2 h3 h4 (h P hP)
end
def cAt (co : Nat → Int × Int) (n : Nat) (l : List (Int × Int)) : Prop := ∀ j, j < l.length → co (n + j) = l.getD j (0, 0)
section
variable {co : Nat → Int × Int} {n : Nat} {l1 l2 : List (Int × Int)}
theorem cAt_l (h : cAt co n (l1 ++ l2)) : cAt co n l1 := by
  intro j hj
  have := h j (by rw [List.length_append]; omega)
  rwa [List.getD_eq_getElem?_getD, List.getElem?_append_left hj, ← List.getD_eq_getElem?_getD] at this
theorem cAt_r (h : cAt co n (l1 ++ l2)) : cAt co (n + l1.length) l2 := by
  intro j hj
  have := h (l1.length + j) (by rw [List.length_append]; omega)
  rwa [List.getD_eq_getElem?_getD, List.getElem?_append_right (by omega), show l1.length + j - l1.length = j by omega, ← List.getD_eq_getElem?_getD, ← Nat.add_assoc] at this
theorem cAt_h {x : Int × Int} {l : List (Int × Int)} (h : cAt co n (x :: l)) : co n = x ∧ cAt co (n + 1) l := by
  refine ⟨?_, fun j hj => ?_⟩
  · have := h 0 (by rw [List.length_cons]; omega)
    exact this
  · have := h (j + 1) (by rw [List.length_cons]; omega)
    rw [show n + 1 + j = n + (j + 1) by omega]
    exact this
end
theorem rend_ok {c : Int} {sg : Nat → Int} {q : RR} (h : (rend c sg q).1 = 0) : q.1 = 0 ∧ (rend c sg q).2.2 = q.2.2 := by
  unfold rend at h ⊢
  by_cases e : q.1 = 0
  · rw [if_pos e] at h ⊢
    by_cases e2 : sg q.2.1 = c
    · rw [if_pos e2]
      exact ⟨e, rfl⟩
    · rw [if_neg e2] at h
      exact absurd h (rbad_n (by decide))
  · rw [if_neg e] at h
    exact absurd h e
theorem rlop_ok {op : Int} {n : Nat} {q : RR} {k : Nat → Nat → RR} (h : (rlop op n q k).1 = 0) : q.1 = 0 ∧ (k q.2.1 (n + 1 + q.2.2.length)).1 = 0 ∧ (rlop op n q k).2.2 = (op, ((n + 1 + q.2.2.length : Nat) : Int)) :: q.2.2 ++ (k q.2.1 (n + 1 + q.2.2.length)).2.2 := by
  unfold rlop at h ⊢
  by_cases e : q.1 = 0
  · rw [if_pos e] at h ⊢
    exact ⟨e, h, rfl⟩
  · rw [if_neg e] at h
    exact absurd h e
theorem tkF_le {c : Int} : tkF c ≤ 8 := by
  unfold tkF
  repeat' split
  all_goals decide
section
variable {ft : Nat → Int} {co : Nat → Int × Int} {to : Nat} {sg : Nat → Int} {P : Option Int → Prop}
def EXP (ft : Nat → Int) (co : Nat → Int × Int) (to : Nat) (P : Option Int → Prop) (i : Nat) (st : List Int) : Prop := ∃ r, P r ∧ RUN ft co to i st r
def bz1 (v : Int) : Prop := v = 0 ∨ v = 1
theorem rkn_b {o a b : Int} (h : 7 ≤ o) : bz1 (rkn o a b) := by
  unfold rkn bz1
  rw [if_neg (by omega), if_neg (by omega), if_neg (by omega), if_neg (by omega), if_neg (by omega)]
  repeat' split
  all_goals omega
theorem cmS_b {c : Int} (h : ¬ cmS c = 0) : 7 ≤ cmS c ∧ cmS c ≤ 9 := by
  unfold cmS at h ⊢
  repeat' split
  all_goals first | decide | (rename_i h1 h2 h3; rw [if_neg h1, if_neg h2, if_neg h3] at h; exact absurd rfl h)
theorem muS_b {c : Int} (h : ¬ muS c = 0) : 4 ≤ muS c ∧ muS c ≤ 6 := by
  unfold muS at h ⊢
  repeat' split
  all_goals first | decide | (rename_i h1 h2 h3; rw [if_neg h1, if_neg h2, if_neg h3] at h; exact absurd rfl h)
theorem adS_b {c : Int} (h : ¬ adS c = 0) : 2 ≤ adS c ∧ adS c ≤ 3 := by
  unfold adS at h ⊢
  repeat' split
  all_goals first | decide | (rename_i h1 h2; rw [if_neg h1, if_neg h2] at h; exact absurd rfl h)
/-- an operation on two: it comes to a value or is refused -/
theorem EXP_op (hP : P none) {i : Nat} {o a b : Int} {st : List Int} (h1 : i < to) (h2 : co i = (o, 0)) (h3 : 2 ≤ o ∧ o ≤ 9) (h : EXP ft co to P (i + 1) (rkn o a b :: st)) : EXP ft co to P i (b :: a :: st) := by
  by_cases z : (o = 5 ∨ o = 6) ∧ b = 0
  · obtain ⟨z1, z2⟩ := z
    subst z2
    exact ⟨none, hP, RUN.dv h1 h2 z1⟩
  · obtain ⟨r, p, w⟩ := h
    exact ⟨r, p, RUN.op h1 h2 h3 z w⟩
def rnP (ft : Nat → Int) (co : Nat → Int × Int) (to : Nat) (P : Option Int → Prop) (k n : Nat) (l : List (Int × Int)) : Prop := cAt co n l → n + l.length ≤ to → ∀ st : List Int, (k ≤ 6 → (∀ v, (3 ≤ k → bz1 v) → EXP ft co to P (n + l.length) (v :: st)) → EXP ft co to P n st) ∧ (7 ≤ k → k ≤ 8 → ∀ v, (∀ v', EXP ft co to P (n + l.length) (v' :: st)) → EXP ft co to P n (v :: st)) ∧ (9 ≤ k → ∀ v, bz1 v → (∀ v', bz1 v' → EXP ft co to P (n + l.length) (v' :: st)) → EXP ft co to P n (v :: st))
theorem rn_all (hP : P none) (hb : ∀ p, -1 ≤ sg p ∧ sg p ≤ 255) : ∀ (r k o p n : Nat), (prsS sg r k o p n).1 = 0 → rnP ft co to P k n (prsS sg r k o p n).2.2 := by
  intro r
  induction r with
  | zero =>
    intro k o p n h
    exact absurd h (rbad_n (by decide))
  | succ r ih =>
    -- one that stands first, one that goes on
    have two : ∀ (a b o p n : Nat) (l : List (Int × Int)), a ≤ 6 → 7 ≤ b → (prsS sg r a o p n).1 = 0 → (prsS sg r b o (prsS sg r a o p n).2.1 (n + (prsS sg r a o p n).2.2.length)).1 = 0 → l = (prsS sg r a o p n).2.2 ++ (prsS sg r b o (prsS sg r a o p n).2.1 (n + (prsS sg r a o p n).2.2.length)).2.2 → cAt co n l → n + l.length ≤ to → ∀ st : List Int, ((a ≤ 2 ∧ b ≤ 8) → (∀ v, EXP ft co to P (n + l.length) (v :: st)) → EXP ft co to P n st) ∧ ((4 ≤ a ∧ 9 ≤ b) → (∀ v, bz1 v → EXP ft co to P (n + l.length) (v :: st)) → EXP ft co to P n st) := by
      intro a b o p n l ha hb1 h1 h2 hl hc ht st
      subst hl
      have i1 := ih a o p n h1 (cAt_l hc) (by rw [List.length_append] at ht; omega) st
      have i2 := ih b o _ _ h2 (cAt_r hc) (by rw [List.length_append] at ht; omega)
      rw [List.length_append, ← Nat.add_assoc]
      exact ⟨fun z h => i1.1 ha (fun v _ => (i2 st).2.1 hb1 z.2 v h), fun z h => i1.1 ha (fun v hv => (i2 st).2.2 z.2 v (hv (by omega)) h)⟩
    -- a loop of operations
    have lop : ∀ (op : Int) (a b o p n : Nat) (l : List (Int × Int)), (2 ≤ op ∧ op ≤ 6) → a ≤ 2 → (7 ≤ b ∧ b ≤ 8) → (prsS sg r a o p n).1 = 0 → (prsS sg r b o (prsS sg r a o p n).2.1 (n + (prsS sg r a o p n).2.2.length + 1)).1 = 0 → l = (prsS sg r a o p n).2.2 ++ ([(op, 0)] ++ (prsS sg r b o (prsS sg r a o p n).2.1 (n + (prsS sg r a o p n).2.2.length + 1)).2.2) → cAt co n l → n + l.length ≤ to → ∀ (st : List Int) (v : Int), (∀ v', EXP ft co to P (n + l.length) (v' :: st)) → EXP ft co to P n (v :: st) := by
      intro op a b o p n l ho ha hb1 h1 h2 hl hc ht st v h
      subst hl
      have i1 := ih a o p n h1 (cAt_l hc) (by rw [List.length_append] at ht; omega) (v :: st)
      have hc2 := cAt_r hc
      obtain ⟨c1, hc3⟩ := cAt_h hc2
      have i2 := ih b o _ _ h2 hc3 (by rw [List.length_append, List.length_append] at ht; simp only [List.length_cons, List.length_nil] at ht; omega) st
      have e : n + ((prsS sg r a o p n).2.2 ++ ([(op, 0)] ++ (prsS sg r b o (prsS sg r a o p n).2.1 (n + (prsS sg r a o p n).2.2.length + 1)).2.2)).length = n + (prsS sg r a o p n).2.2.length + 1 + (prsS sg r b o (prsS sg r a o p n).2.1 (n + (prsS sg r a o p n).2.2.length + 1)).2.2.length := by
        rw [List.length_append, List.length_append]
        simp only [List.length_cons, List.length_nil]
        omega
      rw [e] at h ht
      exact i1.1 (by omega) (fun w _ => EXP_op hP (by omega) c1 ⟨ho.1, by omega⟩ (i2.2.1 hb1.1 hb1.2 _ h))
    -- a loop of & or |
    have lnd : ∀ (op : Int) (a b o p n : Nat) (l : List (Int × Int)), (op = 11 ∨ op = 12) → (4 ≤ a ∧ a ≤ 6) → 9 ≤ b → (prsS sg r a o p (n + 1)).1 = 0 → (prsS sg r b o (prsS sg r a o p (n + 1)).2.1 (n + 1 + (prsS sg r a o p (n + 1)).2.2.length)).1 = 0 → l = (op, ((n + 1 + (prsS sg r a o p (n + 1)).2.2.length : Nat) : Int)) :: (prsS sg r a o p (n + 1)).2.2 ++ (prsS sg r b o (prsS sg r a o p (n + 1)).2.1 (n + 1 + (prsS sg r a o p (n + 1)).2.2.length)).2.2 → cAt co n l → n + l.length ≤ to → ∀ (st : List Int) (v : Int), bz1 v → (∀ v', bz1 v' → EXP ft co to P (n + l.length) (v' :: st)) → EXP ft co to P n (v :: st) := by
      intro op a b o p n l ho ha hb1 h1 h2 hl hc ht st v hv h
      subst hl
      rw [List.cons_append] at hc ht h
      obtain ⟨c1, hc2⟩ := cAt_h hc
      have i1 := ih a o p (n + 1) h1 (cAt_l hc2) (by rw [List.length_cons, List.length_append] at ht; omega) st
      have i2 := ih b o _ _ h2 (cAt_r hc2) (by rw [List.length_cons, List.length_append] at ht; omega) st
      have e : n + ((op, ((n + 1 + (prsS sg r a o p (n + 1)).2.2.length : Nat) : Int)) :: ((prsS sg r a o p (n + 1)).2.2 ++ (prsS sg r b o (prsS sg r a o p (n + 1)).2.1 (n + 1 + (prsS sg r a o p (n + 1)).2.2.length)).2.2)).length = n + 1 + (prsS sg r a o p (n + 1)).2.2.length + (prsS sg r b o (prsS sg r a o p (n + 1)).2.1 (n + 1 + (prsS sg r a o p (n + 1)).2.2.length)).2.2.length := by
        rw [List.length_cons, List.length_append]
        omega
      rw [e] at h ht
      have land : ∀ v, bz1 v → EXP ft co to P (n + 1 + (prsS sg r a o p (n + 1)).2.2.length) (v :: st) := fun v hv => i2.2.2 hb1 v hv h
      have pass : EXP ft co to P (n + 1) st := i1.1 (by omega) (fun v hv => land v (hv (by omega)))
      by_cases z : op = 11 ∧ v = 0 ∨ op = 12 ∧ v = 1
      · obtain ⟨q, p1, w⟩ := land v hv
        exact ⟨q, p1, RUN.jmp (by omega) c1 z (by omega) (by omega) w⟩
      · obtain ⟨q, p1, w⟩ := pass
        exact ⟨q, p1, RUN.pas (by omega) c1 (by unfold bz1 at hv; omega) (by omega) (by omega) w⟩
    intro k o p n h
    show rnP ft co to P k n (stK (prsS sg r) sg k o p n).2.2
    have h : (stK (prsS sg r) sg k o p n).1 = 0 := h
    match k with
    | 0 =>
      have h : (if sg p = 91 then (if 6 ≤ o then rbad 5 p else rend 93 sg (prsS sg r 2 (o + 1) (p + 1) n)) else if 0 ≤ tkF (sg p) then ((0, p + 1, [(1, tkF (sg p))]) : RR) else if 48 ≤ sg p ∧ sg p ≤ 57 then ((nmS sg 5 p 0).1, (nmS sg 5 p 0).2.1, [(0, (nmS sg 5 p 0).2.2)]) else rbad 1 p).1 = 0 := h
      show rnP ft co to P 0 n (if sg p = 91 then (if 6 ≤ o then rbad 5 p else rend 93 sg (prsS sg r 2 (o + 1) (p + 1) n)) else if 0 ≤ tkF (sg p) then ((0, p + 1, [(1, tkF (sg p))]) : RR) else if 48 ≤ sg p ∧ sg p ≤ 57 then ((nmS sg 5 p 0).1, (nmS sg 5 p 0).2.1, [(0, (nmS sg 5 p 0).2.2)]) else rbad 1 p).2.2
      by_cases e1 : sg p = 91
      · rw [if_pos e1] at h ⊢
        by_cases e2 : 6 ≤ o
        · rw [if_pos e2] at h
          exact absurd h (rbad_n (by decide))
        · rw [if_neg e2] at h ⊢
          obtain ⟨r1, r2⟩ := rend_ok h
          rw [r2]
          intro hc ht st
          have i1 := ih 2 (o + 1) (p + 1) n r1 hc ht st
          exact ⟨fun _ hv => i1.1 (by decide) (fun v _ => hv v (fun z => absurd z (by decide))), fun z => absurd z (by decide), fun z => absurd z (by decide)⟩
      rw [if_neg e1] at h ⊢
      by_cases e2 : 0 ≤ tkF (sg p)
      · rw [if_pos e2]
        intro hc ht st
        have ht : n + 1 ≤ to := ht
        refine ⟨fun _ hv => ?_, fun z => absurd z (by decide), fun z => absurd z (by decide)⟩
        have c1 := (cAt_h hc).1
        have hle := tkF_le (c := sg p)
        obtain ⟨v, hv2⟩ : ∃ m : Nat, tkF (sg p) = (m : Int) := ⟨(tkF (sg p)).toNat, by omega⟩
        rw [hv2] at c1
        obtain ⟨q, p1, w⟩ := hv (ft v) (fun z => absurd z (by decide))
        exact ⟨q, p1, RUN.ltr (by omega) c1 (by omega) w⟩
      rw [if_neg e2] at h ⊢
      by_cases e3 : 48 ≤ sg p ∧ sg p ≤ 57
      · rw [if_pos e3]
        intro hc ht st
        have ht : n + 1 ≤ to := ht
        refine ⟨fun _ hv => ?_, fun z => absurd z (by decide), fun z => absurd z (by decide)⟩
        have c1 := (cAt_h hc).1
        have nb := nm_bd hb 5 p 0 1 (by decide) (by decide) (by decide) (by decide)
        have nb2 : (nmS sg 5 p 0).2.2 < 100000 := nb.2
        obtain ⟨q, p1, w⟩ := hv (nmS sg 5 p 0).2.2 (fun z => absurd z (by decide))
        exact ⟨q, p1, RUN.num (by omega) c1 nb.1 (by omega) w⟩
      · rw [if_neg e3] at h
        exact absurd h (rbad_n (by decide))
    | 1 =>
      obtain ⟨r1, r2, r3⟩ := rsq_ok (k := fun p' m => prsS sg r 7 o p' (n + m)) h
      intro hc ht st
      have i1 := two 0 7 o p n _ (by decide) (by decide) r1 r2 (congrArg (fun q : RR => q.2.2) r3) hc ht st
      exact ⟨fun _ hv => i1.1 (by decide) (fun v => hv v (fun z => absurd z (by decide))), fun z => absurd z (by decide), fun z => absurd z (by decide)⟩
    | 2 =>
      obtain ⟨r1, r2, r3⟩ := rsq_ok (k := fun p' m => prsS sg r 8 o p' (n + m)) h
      intro hc ht st
      have i1 := two 1 8 o p n _ (by decide) (by decide) r1 r2 (congrArg (fun q : RR => q.2.2) r3) hc ht st
      exact ⟨fun _ hv => i1.1 (by decide) (fun v => hv v (fun z => absurd z (by decide))), fun z => absurd z (by decide), fun z => absurd z (by decide)⟩
    | 3 =>
      obtain ⟨r1, r2, r3⟩ := rsq_ok (k := fun p1 m => if cmS (sg p1) = 0 then rbad 1 p1 else rsq (prsS sg r 2 o (p1 + 1) (n + m)) (fun p2 _ => (0, p2, [(cmS (sg p1), 0)]))) h
      have r3 := congrArg (fun q : RR => q.2.2) r3
      by_cases e : cmS (sg (prsS sg r 2 o p n).2.1) = 0
      · rw [if_pos e] at r2
        exact absurd r2 (rbad_n (by decide))
      · rw [if_neg e] at r2 r3
        obtain ⟨q1, q2, q3⟩ := rsq_ok r2
        rw [q3] at r3
        intro hc ht st
        have r3 : (stK (prsS sg r) sg 3 o p n).2.2 = (prsS sg r 2 o p n).2.2 ++ ((prsS sg r 2 o ((prsS sg r 2 o p n).2.1 + 1) (n + (prsS sg r 2 o p n).2.2.length)).2.2 ++ [(cmS (sg (prsS sg r 2 o p n).2.1), 0)]) := r3
        rw [r3] at hc ht ⊢
        have cb := cmS_b e
        have hc2 := cAt_r hc
        have c1 := (cAt_h (cAt_r hc2)).1
        have i1 := ih 2 o p n r1 (cAt_l hc) (by rw [List.length_append] at ht; omega) st
        have e2 : n + ((prsS sg r 2 o p n).2.2 ++ ((prsS sg r 2 o ((prsS sg r 2 o p n).2.1 + 1) (n + (prsS sg r 2 o p n).2.2.length)).2.2 ++ [(cmS (sg (prsS sg r 2 o p n).2.1), 0)])).length = n + (prsS sg r 2 o p n).2.2.length + (prsS sg r 2 o ((prsS sg r 2 o p n).2.1 + 1) (n + (prsS sg r 2 o p n).2.2.length)).2.2.length + 1 := by
          rw [List.length_append, List.length_append]
          simp only [List.length_cons, List.length_nil]
          omega
        rw [e2] at ht ⊢
        refine ⟨fun _ hv => ?_, fun z => absurd z (by decide), fun z => absurd z (by decide)⟩
        refine i1.1 (by decide) (fun v _ => ?_)
        have i2 := ih 2 o _ _ q1 (cAt_l hc2) (by omega) (v :: st)
        exact i2.1 (by decide) (fun w _ => EXP_op hP (by omega) c1 ⟨by omega, cb.2⟩ (hv _ (fun _ => rkn_b cb.1)))
    | 4 =>
      have h : (if sg p = 33 then (if 6 ≤ o then rbad 5 p else rsq (prsS sg r 4 (o + 1) (p + 1) n) (fun p' _ => (0, p', [(10, 0)]))) else if sg p = 40 then (if 6 ≤ o then rbad 5 p else rend 41 sg (prsS sg r 6 (o + 1) (p + 1) n)) else prsS sg r 3 o p n).1 = 0 := h
      show rnP ft co to P 4 n (if sg p = 33 then (if 6 ≤ o then rbad 5 p else rsq (prsS sg r 4 (o + 1) (p + 1) n) (fun p' _ => (0, p', [(10, 0)]))) else if sg p = 40 then (if 6 ≤ o then rbad 5 p else rend 41 sg (prsS sg r 6 (o + 1) (p + 1) n)) else prsS sg r 3 o p n).2.2
      by_cases e1 : sg p = 33
      · rw [if_pos e1] at h ⊢
        by_cases e2 : 6 ≤ o
        · rw [if_pos e2] at h
          exact absurd h (rbad_n (by decide))
        · rw [if_neg e2] at h ⊢
          obtain ⟨r1, r2, r3⟩ := rsq_ok h
          rw [r3]
          intro hc ht st
          have hc : cAt co n ((prsS sg r 4 (o + 1) (p + 1) n).2.2 ++ [(10, 0)]) := hc
          have ht : n + ((prsS sg r 4 (o + 1) (p + 1) n).2.2 ++ [((10 : Int), (0 : Int))]).length ≤ to := ht
          have c1 := (cAt_h (cAt_r hc)).1
          have e2 : n + ((prsS sg r 4 (o + 1) (p + 1) n).2.2 ++ [((10 : Int), (0 : Int))]).length = n + (prsS sg r 4 (o + 1) (p + 1) n).2.2.length + 1 := by
            rw [List.length_append]
            rfl
          have i1 := ih 4 (o + 1) (p + 1) n r1 (cAt_l hc) (by omega) st
          refine ⟨fun _ hv => ?_, fun z => absurd z (by decide), fun z => absurd z (by decide)⟩
          have hv : ∀ v, (3 ≤ 4 → bz1 v) → EXP ft co to P (n + ((prsS sg r 4 (o + 1) (p + 1) n).2.2 ++ [((10 : Int), (0 : Int))]).length) (v :: st) := hv
          rw [e2] at hv
          refine i1.1 (by decide) (fun v bv => ?_)
          obtain ⟨q, p1, w⟩ := hv (w32 (1 - v)) (fun _ => by
            rcases bv (by decide) with e | e
            · subst e
              exact Or.inr (by decide)
            · subst e
              exact Or.inl (by decide))
          exact ⟨q, p1, RUN.ngt (by omega) c1 w⟩
      rw [if_neg e1] at h ⊢
      by_cases e2 : sg p = 40
      · rw [if_pos e2] at h ⊢
        by_cases e3 : 6 ≤ o
        · rw [if_pos e3] at h
          exact absurd h (rbad_n (by decide))
        · rw [if_neg e3] at h ⊢
          obtain ⟨r1, r2⟩ := rend_ok h
          rw [r2]
          intro hc ht st
          have i1 := ih 6 (o + 1) (p + 1) n r1 hc ht st
          exact ⟨fun _ hv => i1.1 (by decide) (fun v bv => hv v (fun _ => bv (by decide))), fun z => absurd z (by decide), fun z => absurd z (by decide)⟩
      · rw [if_neg e2] at h ⊢
        intro hc ht st
        have i1 := ih 3 o p n h hc ht st
        exact ⟨fun _ hv => i1.1 (by decide) (fun v bv => hv v (fun _ => bv (by decide))), fun z => absurd z (by decide), fun z => absurd z (by decide)⟩
    | 5 =>
      obtain ⟨r1, r2, r3⟩ := rsq_ok (k := fun p' m => prsS sg r 9 o p' (n + m)) h
      intro hc ht st
      have i1 := two 4 9 o p n _ (by decide) (by decide) r1 r2 (congrArg (fun q : RR => q.2.2) r3) hc ht st
      exact ⟨fun _ hv => i1.2 (by decide) (fun v bv => hv v (fun _ => bv)), fun z => absurd z (by decide), fun z => absurd z (by decide)⟩
    | 6 =>
      obtain ⟨r1, r2, r3⟩ := rsq_ok (k := fun p' m => prsS sg r 10 o p' (n + m)) h
      intro hc ht st
      have i1 := two 5 10 o p n _ (by decide) (by decide) r1 r2 (congrArg (fun q : RR => q.2.2) r3) hc ht st
      exact ⟨fun _ hv => i1.2 (by decide) (fun v bv => hv v (fun _ => bv)), fun z => absurd z (by decide), fun z => absurd z (by decide)⟩
    | 7 =>
      have h : (if muS (sg p) = 0 then ((0, p, []) : RR) else rsq (prsS sg r 0 o (p + 1) n) (fun p' m => rcat [(muS (sg p), 0)] (prsS sg r 7 o p' (n + m + 1)))).1 = 0 := h
      show rnP ft co to P 7 n (if muS (sg p) = 0 then ((0, p, []) : RR) else rsq (prsS sg r 0 o (p + 1) n) (fun p' m => rcat [(muS (sg p), 0)] (prsS sg r 7 o p' (n + m + 1)))).2.2
      by_cases e : muS (sg p) = 0
      · rw [if_pos e]
        intro hc ht st
        exact ⟨fun z => absurd z (by decide), fun _ _ v hv => hv v, fun z => absurd z (by decide)⟩
      · rw [if_neg e] at h ⊢
        obtain ⟨r1, r2, r3⟩ := rsq_ok h
        rw [r3]
        intro hc ht st
        have mb := muS_b e
        have i1 := lop (muS (sg p)) 0 7 o (p + 1) n _ ⟨by omega, mb.2⟩ (by decide) (by decide) r1 r2 rfl hc ht st
        exact ⟨fun z => absurd z (by decide), fun _ _ v hv => i1 v hv, fun z => absurd z (by decide)⟩
    | 8 =>
      have h : (if adS (sg p) = 0 then ((0, p, []) : RR) else rsq (prsS sg r 1 o (p + 1) n) (fun p' m => rcat [(adS (sg p), 0)] (prsS sg r 8 o p' (n + m + 1)))).1 = 0 := h
      show rnP ft co to P 8 n (if adS (sg p) = 0 then ((0, p, []) : RR) else rsq (prsS sg r 1 o (p + 1) n) (fun p' m => rcat [(adS (sg p), 0)] (prsS sg r 8 o p' (n + m + 1)))).2.2
      by_cases e : adS (sg p) = 0
      · rw [if_pos e]
        intro hc ht st
        exact ⟨fun z => absurd z (by decide), fun _ _ v hv => hv v, fun z => absurd z (by decide)⟩
      · rw [if_neg e] at h ⊢
        obtain ⟨r1, r2, r3⟩ := rsq_ok h
        rw [r3]
        intro hc ht st
        have mb := adS_b e
        have i1 := lop (adS (sg p)) 1 8 o (p + 1) n _ ⟨mb.1, by omega⟩ (by decide) (by decide) r1 r2 rfl hc ht st
        exact ⟨fun z => absurd z (by decide), fun _ _ v hv => i1 v hv, fun z => absurd z (by decide)⟩
    | 9 =>
      have h : (if sg p = 38 then rlop 11 n (prsS sg r 4 o (p + 1) (n + 1)) (fun p' m => prsS sg r 9 o p' m) else ((0, p, []) : RR)).1 = 0 := h
      show rnP ft co to P 9 n (if sg p = 38 then rlop 11 n (prsS sg r 4 o (p + 1) (n + 1)) (fun p' m => prsS sg r 9 o p' m) else ((0, p, []) : RR)).2.2
      by_cases e : sg p = 38
      · rw [if_pos e] at h ⊢
        obtain ⟨r1, r2, r3⟩ := rlop_ok h
        rw [r3]
        intro hc ht st
        have i1 := lnd 11 4 9 o (p + 1) n _ (Or.inl rfl) (by decide) (by decide) r1 r2 rfl hc ht st
        exact ⟨fun z => absurd z (by decide), fun _ z => absurd z (by decide), fun _ v bv hv => i1 v bv hv⟩
      · rw [if_neg e]
        intro hc ht st
        exact ⟨fun z => absurd z (by decide), fun _ z => absurd z (by decide), fun _ v bv hv => hv v bv⟩
    | k + 10 =>
      have h : (if sg p = 124 then rlop 12 n (prsS sg r 5 o (p + 1) (n + 1)) (fun p' m => prsS sg r 10 o p' m) else ((0, p, []) : RR)).1 = 0 := h
      show rnP ft co to P (k + 10) n (if sg p = 124 then rlop 12 n (prsS sg r 5 o (p + 1) (n + 1)) (fun p' m => prsS sg r 10 o p' m) else ((0, p, []) : RR)).2.2
      by_cases e : sg p = 124
      · rw [if_pos e] at h ⊢
        obtain ⟨r1, r2, r3⟩ := rlop_ok h
        rw [r3]
        intro hc ht st
        have i1 := lnd 12 5 10 o (p + 1) n _ (Or.inr rfl) (by decide) (by decide) r1 r2 rfl hc ht st
        exact ⟨fun z => absurd z (by omega), fun _ z => absurd z (by omega), fun _ v bv hv => i1 v bv hv⟩
      · rw [if_neg e]
        intro hc ht st
        exact ⟨fun z => absurd z (by omega), fun _ z => absurd z (by omega), fun _ v bv hv => hv v bv⟩
end
/-- what a clause's two halves come to -/
def c01 (r : Option Int) : Prop := ∀ v, r = some v → bz1 v
def hvR (co : Nat → Int × Int) (f h e : Nat) : Prop := f ≤ h ∧ h ≤ e ∧ ∀ ft : Nat → Int, (∃ r, RUN ft co h f [] r) ∧ ∃ r, c01 r ∧ RUN ft co e h [] r
theorem clv_run {sg : Nat → Int} {co : Nat → Int × Int} (hb : ∀ p, -1 ≤ sg p ∧ sg p ≤ 255) {p k n : Nat} (h : (clvS sg p k n).1 = 0) (hc : cAt co n ((clvS sg p k n).2.2.1 ++ (clvS sg p k n).2.2.2)) : hvR co n (n + (clvS sg p k n).2.2.1.length) (n + (clvS sg p k n).2.2.1.length + (clvS sg p k n).2.2.2.length) := by
  have bad : ∀ {m : Int} {p : Nat}, 1 ≤ m → ¬ (cbad m p).1 = 0 := fun {m p} hm => by show ¬ -1000 * m - (p : Int) = 0; omega
  refine ⟨Nat.le_add_right _ _, Nat.le_add_right _ _, fun ft => ?_⟩
  unfold clvS at h hc ⊢
  by_cases h1 : sg p = 103
  · rw [if_pos h1] at h hc ⊢
    by_cases h2 : 12 ≤ k
    · rw [if_pos h2] at h
      exact absurd h (bad (by decide))
    · rw [if_neg h2] at h hc ⊢
      unfold clvA at h hc ⊢
      by_cases h3 : (prsS sg 2000 2 0 (p + 1) n).1 = 0
      · rw [if_pos h3] at h hc ⊢
        by_cases h4 : sg (prsS sg 2000 2 0 (p + 1) n).2.1 = 40
        · rw [if_pos h4] at h hc ⊢
          unfold clvB at h hc ⊢
          by_cases h5 : (prsS sg 2000 6 1 ((prsS sg 2000 2 0 (p + 1) n).2.1 + 1) (n + (prsS sg 2000 2 0 (p + 1) n).2.2.length)).1 = 0
          · rw [if_pos h5] at h hc ⊢
            by_cases h6 : sg (prsS sg 2000 6 1 ((prsS sg 2000 2 0 (p + 1) n).2.1 + 1) (n + (prsS sg 2000 2 0 (p + 1) n).2.2.length)).2.1 = 41
            · rw [if_pos h6] at hc ⊢
              have hc : cAt co n ((prsS sg 2000 2 0 (p + 1) n).2.2 ++ (prsS sg 2000 6 1 ((prsS sg 2000 2 0 (p + 1) n).2.1 + 1) (n + (prsS sg 2000 2 0 (p + 1) n).2.2.length)).2.2) := hc
              refine ⟨?_, ?_⟩
              · have := (rn_all (ft := ft) (co := co) (to := n + (prsS sg 2000 2 0 (p + 1) n).2.2.length) (P := fun _ => True) trivial hb 2000 2 0 (p + 1) n h3 (cAt_l hc) (Nat.le_refl _) []).1 (by decide) (fun v _ => ⟨_, trivial, RUN.fin⟩)
                obtain ⟨r, -, w⟩ := this
                exact ⟨r, w⟩
              · exact (rn_all (ft := ft) (co := co) (to := n + (prsS sg 2000 2 0 (p + 1) n).2.2.length + (prsS sg 2000 6 1 ((prsS sg 2000 2 0 (p + 1) n).2.1 + 1) (n + (prsS sg 2000 2 0 (p + 1) n).2.2.length)).2.2.length) (P := c01) (fun v e => by cases e) hb 2000 6 1 _ _ h5 (cAt_r hc) (Nat.le_refl _) []).1 (by decide) (fun v bv => ⟨_, fun w e => by cases e; exact bv (by decide), RUN.fin⟩)
            · rw [if_neg h6] at h
              exact absurd h (bad (by decide))
          · rw [if_neg h5] at h
            exact absurd h h5
        · rw [if_neg h4] at h
          exact absurd h (bad (by decide))
      · rw [if_neg h3] at h
        exact absurd h h3
  · rw [if_neg h1] at h
    exact absurd h (bad (by decide))
theorem lw_run {sg : Nat → Int} {co : Nat → Int × Int} (hb : ∀ p, -1 ≤ sg p ∧ sg p ≤ 255) {L : Nat} : ∀ (r p k n : Nat), (lwS sg L r p k n).1 = 0 → cAt co n (lwS sg L r p k n).2.1 → ∀ j, j < (lwS sg L r p k n).2.2.length → hvR co (stF n (lwS sg L r p k n).2.2 j) ((lwS sg L r p k n).2.2.getD j (0, 0)).1 ((lwS sg L r p k n).2.2.getD j (0, 0)).2 ∧ ((lwS sg L r p k n).2.2.getD j (0, 0)).2 ≤ n + (lwS sg L r p k n).2.1.length := by
  intro r
  induction r with
  | zero =>
    intro p k n h
    have h : -1000 * 1 - (p : Int) = 0 := h
    omega
  | succ r ih =>
    intro p k n h hc j hj
    rw [lwS] at h hc hj ⊢
    have cr := clv_run (co := co) hb (p := p) (k := k) (n := n)
    by_cases h0 : (clvS sg p k n).1 = 0
    · rw [if_pos h0] at h hc hj ⊢
      have cr := cr h0
      generalize clvS sg p k n = X1 at *
      by_cases hpL : X1.2.1 < L
      · rw [if_pos hpL] at h hc hj ⊢
        by_cases h59 : sg X1.2.1 = 59
        · rw [if_pos h59] at h hc hj ⊢
          have ih := ih (X1.2.1 + 1) (k + 1) (n + X1.2.2.1.length + X1.2.2.2.length) h
          generalize lwS sg L r (X1.2.1 + 1) (k + 1) (n + X1.2.2.1.length + X1.2.2.2.length) = W at *
          have hc : cAt co n (X1.2.2.1 ++ X1.2.2.2 ++ W.2.1) := hc
          have el : (X1.2.2.1 ++ X1.2.2.2 ++ W.2.1).length = X1.2.2.1.length + X1.2.2.2.length + W.2.1.length := by rw [List.length_append, List.length_append]
          have hc2 := cAt_r hc
          rw [List.length_append, ← Nat.add_assoc] at hc2
          match j, hj with
          | 0, _ => exact ⟨cr (cAt_l hc), by show n + X1.2.2.1.length + X1.2.2.2.length ≤ n + (X1.2.2.1 ++ X1.2.2.2 ++ W.2.1).length; rw [el]; omega⟩
          | j + 1, hj =>
            have hj : j + 1 < W.2.2.length + 1 := hj
            obtain ⟨z1, z2⟩ := ih hc2 j (by omega)
            refine ⟨?_, ?_⟩
            · have es : stF n ((n + X1.2.2.1.length, n + X1.2.2.1.length + X1.2.2.2.length) :: W.2.2) (j + 1) = stF (n + X1.2.2.1.length + X1.2.2.2.length) W.2.2 j := by
                cases j with
                | zero => rfl
                | succ j => rfl
              show hvR co (stF n ((n + X1.2.2.1.length, n + X1.2.2.1.length + X1.2.2.2.length) :: W.2.2) (j + 1)) _ _
              rw [es]
              exact z1
            · show (W.2.2.getD j (0, 0)).2 ≤ n + (X1.2.2.1 ++ X1.2.2.2 ++ W.2.1).length
              rw [el]
              omega
        · rw [if_neg h59] at h
          have h : -1000 * 1 - (X1.2.1 : Int) = 0 := h
          omega
      · rw [if_neg hpL] at hc hj ⊢
        have hj : j < 1 := hj
        have hj0 : j = 0 := by omega
        subst hj0
        have hc : cAt co n (X1.2.2.1 ++ X1.2.2.2) := hc
        exact ⟨cr hc, by show n + X1.2.2.1.length + X1.2.2.2.length ≤ n + (X1.2.2.1 ++ X1.2.2.2).length; rw [List.length_append]; omega⟩
    · rw [if_neg h0] at h
      exact absurd h h0
