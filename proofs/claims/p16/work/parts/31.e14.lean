/-! the engine, 15: what fits a pattern, a cut -/
def fitP (y : EY) (p : EP) : EV → Bool
  | .inl a => decide (p.1 = 0) && (decide (p.2.1 ≤ (bd y a).1) && decide ((bd y a).2 ≤ p.2.2.1))
  | .inr (.inl a) => decide (p.1 = 1) && (decide (p.2.1 ≤ (bd y a).1) && decide ((bd y a).2 ≤ p.2.2.1))
  | .inr (.inr a) => decide (p.1 = 2) && (decide (eIds y a ≠ []) && (eIds y a).all (fun i => p.2.2.2.any (fun j => decide (j = i)) && (decide (p.2.1 ≤ (i : Nat)) && decide (((i : Nat) : Int) ≤ p.2.2.1))))
def fitL (y : EY) : List (Option EP) → EL → Bool
  | [], [] => true
  | none :: ps, _ :: l => fitL y ps l
  | some p :: ps, some v :: l => fitP y p v && fitL y ps l
  | _, _ => false
def aeC (c : Nat × Nat) : AE × AE := ((0, (c.1 : Nat)), (0, (c.2 : Nat)))
abbrev CL : Type := List ((Nat × Nat) × EP)
abbrev CQ : Type := List ((Nat × Nat) × (Nat × Nat))
def fitC (y : EY) (l : CL) : Bool := l.all (fun e => match findO (aeC e.1).1 (aeC e.1).2 y.2.1 with
  | some v => fitP y e.2 v
  | none => false)
def eqP (g : AH) (e : (Nat × Nat) × (Nat × Nat)) : Prop := g.2.2.2.1 e.1.1 e.1.2 = g.2.2.2.1 e.2.1 e.2.2
def fitE (y : EY) (l : CQ) : Bool := l.all (fun e => match findO (aeC e.1).1 (aeC e.1).2 y.2.1, findO (aeC e.2).1 (aeC e.2).2 y.2.1 with
  | some (.inl a), some (.inl b) => leq y a b && leq y b a
  | _, _ => false)
def iniE : CQ → EY → EY
  | [], y => y
  | e :: l, y => match findO (aeC e.1).1 (aeC e.1).2 y.2.1 with
    | some (.inl a) => iniE l (puO y (aeC e.2, .inl a))
    | _ => iniE l y
def fitF (y : EY) (ls : EL) (l : List (Nat × Nat × Int)) : Bool := l.all (fun e => match lcI ls e.1, lcI ls e.2.1 with
  | some a, some b => leq y (a.1, a.2 + e.2.2) b
  | _, _ => false)
abbrev MC : Type := Nat × Nat × Int
/-- a cut: place, locals, known cells, equal cells, facts, measure -/
abbrev CUT : Type := Nat × List (Option EP) × CL × CQ × List (Nat × Nat × Int) × List MC
def fitU (y : EY) (ls : EL) (c : CUT) : Bool := fitL y c.2.1 ls && (fitC y c.2.2.1 && (fitE y c.2.2.2.1 && fitF y ls c.2.2.2.2.1))
def cutP (c : CUT) (m : AL) (g : AH) : Prop := rZ pL c.2.1 m ∧ (∀ e ∈ c.2.2.1, ∃ w, pV e.2 w ∧ cellH g e.1.1 e.1.2 w) ∧ (∀ e ∈ c.2.2.2.1, eqP g e) ∧ ∀ e ∈ c.2.2.2.2.1, factP m e
def y00 : EY := ([(0, 0, []), (0, 3072, [])], [], [], [], [])
def iniU (c : CUT) : Option (EL × EY) := match iniF c.2.2.2.2.1 (iniL c.2.1 y00).1 (iniE c.2.2.2.1 (iniO c.2.2.1 (iniL c.2.1 y00).2)) with
  | some y => some ((iniL c.2.1 y00).1, y)
  | none => none
section
variable {σ : Nat → Int} {y : EY} {g : AH}
theorem fitP_r (h : eY σ y g) {p : EP} {v : EV} (hv : okV y.1.length v) (hf : fitP y p v = true) : pV p (vV σ v) := by
  match v, hv, hf with
  | .inl a, hv, hf =>
    simp only [fitP, Bool.and_eq_true, decide_eq_true_eq] at hf
    have := bd_r h (a := a) hv
    exact ⟨hf.1, by omega, by omega⟩
  | .inr (.inl a), hv, hf =>
    simp only [fitP, Bool.and_eq_true, decide_eq_true_eq] at hf
    have := bd_r h (a := a) hv
    exact ⟨hf.1, by omega, by omega⟩
  | .inr (.inr a), hv, hf =>
    simp only [fitP, Bool.and_eq_true, decide_eq_true_eq] at hf
    obtain ⟨h1, h2, h3⟩ := hf
    obtain ⟨i, m1, e1⟩ := eIds_r h (r := a) hv h2
    have h4 := List.all_eq_true.mp h3 i m1
    simp only [Bool.and_eq_true, decide_eq_true_eq] at h4
    obtain ⟨h5, h6, h7⟩ := h4
    obtain ⟨j, m2, e2⟩ := List.any_eq_true.mp h5
    have e2 := of_decide_eq_true e2
    subst e2
    have e3 : (vA σ a).toNat = j := by omega
    show p.1 = 2 ∧ (vA σ a).toNat ∈ p.2.2.2 ∧ p.2.1 ≤ ((vA σ a).toNat : Nat) ∧ (((vA σ a).toNat : Nat) : Int) ≤ p.2.2.1
    rw [e3]
    exact ⟨h1, m2, h6, h7⟩
theorem fitL_r (h : eY σ y g) : ∀ {ps : List (Option EP)} {l : EL} {m : AL}, rZ (eL σ y.1.length) l m → fitL y ps l = true → rZ pL ps m
  | [], [], m, hl, _ => by rw [rZ_nil hl]; exact trivial
  | [], _ :: _, m, hl, hf => by simp [fitL] at hf
  | none :: ps, [], m, hl, hf => by simp [fitL] at hf
  | some p :: ps, [], m, hl, hf => by simp [fitL] at hf
  | none :: ps, v :: l, m, hl, hf => by
    obtain ⟨b, m', rfl, -, h2⟩ := rZ_cons hl
    exact ⟨trivial, fitL_r h h2 (by simpa [fitL] using hf)⟩
  | some p :: ps, none :: l, m, hl, hf => by simp [fitL] at hf
  | some p :: ps, some v :: l, m, hl, hf => by
    obtain ⟨b, m', rfl, h1, h2⟩ := rZ_cons hl
    rw [fitL, Bool.and_eq_true] at hf
    match b, h1 with
    | some w, h1 =>
      refine ⟨?_, fitL_r h h2 hf.2⟩
      have := fitP_r h h1.1 hf.1
      rw [← h1.2] at this
      exact this
theorem findC_cell (h : eY σ y g) {c : Nat × Nat} {v : EV} (hf : findO (aeC c).1 (aeC c).2 y.2.1 = some v) : okV y.1.length v ∧ cellH g c.1 c.2 (vV σ v) := by
  obtain ⟨-, -, o3, o4⟩ := h.2.1 _ (findO_m hf)
  have e1 : vA σ (aeC c).1 = c.1 := (kE_r h _).2
  have e2 : vA σ (aeC c).2 = c.2 := (kE_r h _).2
  dsimp only at o4
  rw [e1, e2, Int.toNat_natCast, Int.toNat_natCast] at o4
  exact ⟨o3, o4⟩
theorem fitC_r (h : eY σ y g) {l : CL} (hf : fitC y l = true) : ∀ e ∈ l, ∃ w, pV e.2 w ∧ cellH g e.1.1 e.1.2 w := by
  intro e he
  have h1 := List.all_eq_true.mp hf e he
  split at h1
  · rename_i v hv
    obtain ⟨o3, o4⟩ := findC_cell h hv
    exact ⟨_, fitP_r h o3 h1, o4⟩
  · cases h1
theorem fitE_r (h : eY σ y g) {l : CQ} (hf : fitE y l = true) : ∀ e ∈ l, eqP g e := by
  intro e he
  have h1 := List.all_eq_true.mp hf e he
  split at h1
  · rename_i a b ha hb
    obtain ⟨o1, o2⟩ := findC_cell h ha
    obtain ⟨o3, o4⟩ := findC_cell h hb
    rw [Bool.and_eq_true] at h1
    have l1 := leq_r h o1 o3 h1.1
    have l2 := leq_r h o3 o1 h1.2
    have o2 : g.2.2.2.1 e.1.1 e.1.2 = vA σ a := o2
    have o4 : g.2.2.2.1 e.2.1 e.2.2 = vA σ b := o4
    unfold eqP
    omega
  · cases h1
theorem fitF_r (h : eY σ y g) {ls : EL} {m : AL} (hl : rZ (eL σ y.1.length) ls m) {l : List (Nat × Nat × Int)} (hf : fitF y ls l = true) : ∀ e ∈ l, factP m e := by
  intro e he
  have h1 := List.all_eq_true.mp hf e he
  split at h1
  · rename_i a b ha hb
    obtain ⟨a1, a2⟩ := lcI_r hl ha
    obtain ⟨b1, b2⟩ := lcI_r hl hb
    have := leq_r h (a := (a.1, a.2 + e.2.2)) a1 b1 h1
    refine ⟨_, _, a2, b2, ?_⟩
    unfold vA at this ⊢
    dsimp only at this
    omega
  · cases h1
theorem fitU_r (h : eY σ y g) {ls : EL} {m : AL} (hl : rZ (eL σ y.1.length) ls m) {c : CUT} (hf : fitU y ls c = true) : cutP c m g := by
  unfold fitU at hf
  simp only [Bool.and_eq_true] at hf
  exact ⟨fitL_r h hl hf.1, fitC_r h hf.2.1, fitE_r h hf.2.2.1, fitF_r h hl hf.2.2.2⟩
theorem iniE_r : ∀ (l : CQ) {y : EY}, eY σ y g → (∀ e ∈ l, eqP g e) → eY σ (iniE l y) g ∧ sameN y (iniE l y)
  | [], y, h, _ => ⟨h, rfl⟩
  | e :: l, y, h, hq => by
    rw [iniE]
    split
    · rename_i a ha
      obtain ⟨o1, o2⟩ := findC_cell h ha
      have o2 : g.2.2.2.1 e.1.1 e.1.2 = vA σ a := o2
      have hy := puO_r (e := (aeC e.2, .inl a)) h (kE_r h _).1 (kE_r h _).1 o1 (by
        have e1 : vA σ (aeC e.2).1 = e.2.1 := (kE_r h _).2
        have e2 : vA σ (aeC e.2).2 = e.2.2 := (kE_r h _).2
        dsimp only
        rw [e1, e2, Int.toNat_natCast, Int.toNat_natCast]
        have h3 := hq e List.mem_cons_self
        unfold eqP at h3
        show g.2.2.2.1 e.2.1 e.2.2 = vA σ a
        omega)
      obtain ⟨h4, n4⟩ := iniE_r l hy (fun e he => hq e (List.mem_cons_of_mem _ he))
      exact ⟨h4, n4⟩
    · exact iniE_r l h (fun e he => hq e (List.mem_cons_of_mem _ he))
theorem y00_r {L : Nat} (hL : L ≤ 3072) : eY (fun k => if k = 1 then (L : Int) else 0) y00 g := by
  refine ⟨⟨by decide, rfl, ?_⟩, fun e he => (by cases he), fun e he => (by cases he), fun e he => (by cases he), fun e he => (by cases he)⟩
  intro k q hq
  match k, hq with
  | 0, hq =>
    cases hq
    exact ⟨Int.le_refl _, Int.le_refl _, Or.inl rfl⟩
  | 1, hq =>
    cases hq
    refine ⟨?_, ?_, Or.inl rfl⟩
    · show (0 : Int) ≤ L; omega
    · show (L : Int) ≤ 3072; omega
  | n + 2, hq => cases hq
/-- the symbols of a cut -/
theorem iniU_r {L : Nat} (hL : L ≤ 3072) {c : CUT} {m : AL} (hc : cutP c m g) {q : EL × EY} (hi : iniU c = some q) : ∃ σ : Nat → Int, σ 1 = L ∧ 1 < q.2.1.length ∧ eY σ q.2 g ∧ rZ (eL σ q.2.1.length) q.1 m := by
  obtain ⟨c1, c2, c3, c4⟩ := hc
  unfold iniU at hi
  split at hi
  · rename_i y hy
    cases hi
    obtain ⟨σ1, ag1, le1, hy1, hl1⟩ := iniL_r c.2.1 (y00_r (g := g) hL) c1
    obtain ⟨σ2, ag2, le2, hy2⟩ := iniO_r c.2.2.1 hy1 c2
    obtain ⟨hy3, n3⟩ := iniE_r c.2.2.2.1 hy2 c3
    have n3 : (iniE c.2.2.2.1 (iniO c.2.2.1 (iniL c.2.1 y00).2)).1.length = (iniO c.2.2.1 (iniL c.2.1 y00).2).1.length := n3
    have hl2 : rZ (eL σ2 (iniE c.2.2.2.1 (iniO c.2.2.1 (iniL c.2.1 y00).2)).1.length) (iniL c.2.1 y00).1 m := by
      rw [n3]
      exact rZ_imp (fun a b h => eL_ag ag2 le2 h) hl1
    obtain ⟨hy4, n4⟩ := iniF_r _ hy3 hl2 c4 hy
    have n4 : y.1.length = (iniE c.2.2.2.1 (iniO c.2.2.1 (iniL c.2.1 y00).2)).1.length := n4
    have le0 : 2 ≤ (iniL c.2.1 y00).2.1.length := le1
    refine ⟨σ2, ?_, by show 1 < y.1.length; omega, hy4, by show rZ (eL σ2 y.1.length) _ m; rw [n4]; exact hl2⟩
    rw [ag2 1 (by omega), ag1 1 (by decide)]
    exact if_pos rfl
  · cases hi
end
