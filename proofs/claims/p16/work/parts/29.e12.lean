/-! the engine, 13: where ways part -/
def negC : ClassFile.Cond → ClassFile.Cond
  | .eq => .ne
  | .ne => .eq
  | .lt => .ge
  | .ge => .lt
  | .gt => .le
  | .le => .gt
def ecj (c : ClassFile.Cond) (y : EY) (a b : AE) (t k : Nat) : List (EY × Nat) := (asm c y a b).map (fun y' => (y', t)) ++ (asm (negC c) y a b).map (fun y' => (y', k + 1))
def esw (a : AE) (d : Nat) : List (Int × Nat) → EY → List (EY × Nat)
  | [], y => [(y, d)]
  | (v, t) :: r, y => (asEq y a (0, v)).toList.map (fun y' => (y', t)) ++ ((match asLe y a (0, v) 1 with
    | some y' => esw a d r y'
    | none => []) ++ (match asLe y (0, v) a 1 with
    | some y' => esw a d r y'
    | none => []))
def ebr (i : Instr) (ns : List Nat) (k : Nat) (st : List EV) (y : EY) : Option (List (EY × Nat) × List EV) := match i with
  | .ifCond c _ => match st with
    | .inl a :: st => some (ecj c y a (0, 0) (ns.getD 0 0) k, st)
    | _ => none
  | .if_icmp c _ => match st with
    | .inl b :: .inl a :: st => some (ecj c y a b (ns.getD 0 0) k, st)
    | _ => none
  | .tableswitch _ lo _ _ => match st with
    | .inl x :: st => some (esw x (ns.getD 0 0) (am_zip lo (ns.drop 1)) y, st)
    | _ => none
  | .lookupswitch _ ps => match st with
    | .inl x :: st => some (esw x (ns.getD 0 0) (am_zip2 ps.toList (ns.drop 1)) y, st)
    | _ => none
  | _ => none
section
variable {σ : Nat → Int} {y : EY} {g : AH}
theorem negC_r {c : ClassFile.Cond} {a b : Int} (h : am_cmp c a b = false) : am_cmp (negC c) a b = true := by
  cases c <;> simp only [am_cmp, negC, decide_eq_false_iff_not, decide_eq_true_eq] at h ⊢ <;> omega
theorem br_t' {c : ClassFile.Cond} {a b : Int} {t k : Nat} {ls : AL} {st : List AV} {h : AH} (hc : am_cmp c a b = true) : am_br c a b t k ls st h = some (t, ls, st, h) := by
  cases c <;> simp only [am_cmp, decide_eq_true_eq] at hc <;> simp only [am_br, am_if] <;> first | rw [if_pos (by omega)] | rw [if_neg (by omega)]
theorem br_f' {c : ClassFile.Cond} {a b : Int} {t k : Nat} {ls : AL} {st : List AV} {h : AH} (hc : am_cmp c a b = false) : am_br c a b t k ls st h = some (k + 1, ls, st, h) := by
  cases c <;> simp only [am_cmp, decide_eq_false_iff_not] at hc <;> simp only [am_br, am_if] <;> first | rw [if_pos (by omega)] | rw [if_neg (by omega)]
theorem ecj_r (h : eY σ y g) {c : ClassFile.Cond} {a b : AE} {t k : Nat} (ha : a.1 < y.1.length) (hb : b.1 < y.1.length) : ∃ q ∈ ecj c y a b t k, eY σ q.1 g ∧ sameN y q.1 ∧ ∀ ls st, am_br c (vA σ a) (vA σ b) t k ls st g = some (q.2, ls, st, g) := by
  unfold ecj
  cases hc : am_cmp c (vA σ a) (vA σ b) with
  | true =>
    obtain ⟨y', m, h1, h2⟩ := asm_r h ha hb hc
    exact ⟨(y', t), List.mem_append_left _ (List.mem_map.mpr ⟨y', m, rfl⟩), h1, h2, fun ls st => br_t' hc⟩
  | false =>
    obtain ⟨y', m, h1, h2⟩ := asm_r h ha hb (negC_r hc)
    exact ⟨(y', k + 1), List.mem_append_right _ (List.mem_map.mpr ⟨y', m, rfl⟩), h1, h2, fun ls st => br_f' hc⟩
theorem esw_r {a : AE} {d : Nat} : ∀ (r : List (Int × Nat)) {y : EY}, eY σ y g → a.1 < y.1.length → ∃ q ∈ esw a d r y, eY σ q.1 g ∧ sameN y q.1 ∧ ∀ ls st, am_sw (vA σ a) ls st g d r = some (q.2, ls, st, g)
  | [], y, h, _ => ⟨_, List.mem_singleton.mpr rfl, h, rfl, fun _ _ => rfl⟩
  | (v, t) :: r, y, h, ha => by
    have hv := kE_r h v
    rw [esw]
    rcases Int.lt_trichotomy (vA σ a) v with h1 | h1 | h1
    · obtain ⟨y1, e1, h2, n1⟩ := asLe_r h ha hv.1 (d := 1) (by rw [hv.2]; omega)
      rw [show asLe y a (0, v) 1 = some y1 from e1]
      obtain ⟨q, m, h3, h4, h5⟩ := esw_r r h2 (by rw [show y1.1.length = y.1.length from n1]; exact ha)
      refine ⟨q, List.mem_append_right _ (List.mem_append_left _ m), h3, h4.trans n1, fun ls st => ?_⟩
      rw [am_sw]
      unfold am_if
      rw [if_neg (by omega)]
      exact h5 ls st
    · obtain ⟨y1, e1, h2, n1⟩ := asEq_r h ha hv.1 (by rw [hv.2]; exact h1)
      refine ⟨(y1, t), List.mem_append_left _ (List.mem_map.mpr ⟨y1, by rw [show asEq y a (0, v) = some y1 from e1]; exact List.mem_singleton.mpr rfl, rfl⟩), h2, n1, fun ls st => ?_⟩
      rw [am_sw]
      unfold am_if
      rw [if_pos h1]
    · obtain ⟨y1, e1, h2, n1⟩ := asLe_r h hv.1 ha (d := 1) (by rw [hv.2]; omega)
      rw [show asLe y (0, v) a 1 = some y1 from e1]
      obtain ⟨q, m, h3, h4, h5⟩ := esw_r r h2 (by rw [show y1.1.length = y.1.length from n1]; exact ha)
      refine ⟨q, List.mem_append_right _ (List.mem_append_right _ m), h3, h4.trans n1, fun ls st => ?_⟩
      rw [am_sw]
      unfold am_if
      rw [if_neg (by omega)]
      exact h5 ls st
theorem ebr_r {i : Instr} {z : Int} {ns : List Nat} {k : Nat} {s : List EV} {t : List AV} {fs : List (EY × Nat)} {s' : List EV} (hY : eY σ y g) (hs : rZ (eV σ y.1.length) s t) (h : ebr i ns k s y = some (fs, s')) : ∃ q ∈ fs, eY σ q.1 g ∧ sameN y q.1 ∧ ∃ t', rZ (eV σ y.1.length) s' t' ∧ ∀ ls, stp i z ns k ls t g = some (q.2, ls, t', g) := by
  unfold ebr at h
  split at h
  · split at h
    · cases h
      obtain ⟨t1, rfl, ha, hs1⟩ := eS_i hs
      have h0 := kE_r hY 0
      obtain ⟨q, m, h1, h2, h3⟩ := ecj_r hY (b := (0, 0)) ha h0.1
      rw [show vA σ (0, 0) = 0 from h0.2] at h3
      exact ⟨q, m, h1, h2, t1, hs1, fun ls => h3 ls t1⟩
    · cases h
  · split at h
    · cases h
      obtain ⟨t1, rfl, hb, hs1⟩ := eS_i hs
      obtain ⟨t2, rfl, ha, hs2⟩ := eS_i hs1
      obtain ⟨q, m, h1, h2, h3⟩ := ecj_r hY ha hb
      exact ⟨q, m, h1, h2, t2, hs2, fun ls => h3 ls t2⟩
    · cases h
  · split at h
    · cases h
      obtain ⟨t1, rfl, ha, hs1⟩ := eS_i hs
      obtain ⟨q, m, h1, h2, h3⟩ := esw_r _ hY ha
      exact ⟨q, m, h1, h2, t1, hs1, fun ls => h3 ls t1⟩
    · cases h
  · split at h
    · cases h
      obtain ⟨t1, rfl, ha, hs1⟩ := eS_i hs
      obtain ⟨q, m, h1, h2, h3⟩ := esw_r _ hY ha
      exact ⟨q, m, h1, h2, t1, hs1, fun ls => h3 ls t1⟩
    · cases h
  · cases h
end
