/-! the engine, 14: patterns, and symbols out of them -/
abbrev EP : Type := Nat × Int × Int × List Nat
def pV (p : EP) : AV → Prop
  | .inl z => p.1 = 0 ∧ p.2.1 ≤ z ∧ z ≤ p.2.2.1
  | .inr (.inl z) => p.1 = 1 ∧ p.2.1 ≤ z ∧ z ≤ p.2.2.1
  | .inr (.inr (some i)) => p.1 = 2 ∧ i ∈ p.2.2.2 ∧ p.2.1 ≤ (i : Nat) ∧ ((i : Nat) : Int) ≤ p.2.2.1
  | .inr (.inr none) => False
def pL : Option EP → Option AV → Prop
  | none, _ => True
  | some p, some w => pV p w
  | some _, none => False
def mkV (kind : Nat) (a : AE) : EV := match kind with
  | 0 => .inl a
  | 1 => .inr (.inl a)
  | _ => .inr (.inr a)
/-- a symbol for a pattern (a constant, if it is one) -/
def iniV (p : EP) (y : EY) : EV × EY := if p.2.1 = p.2.2.1 then (mkV p.1 (0, p.2.1), y) else (mkV p.1 (y.1.length, 0), frs y p.2.1 p.2.2.1 (if p.1 = 2 then p.2.2.2 else []))
def iniL : List (Option EP) → EY → EL × EY
  | [], y => ([], y)
  | none :: l, y => (none :: (iniL l y).1, (iniL l y).2)
  | some p :: l, y => (some (iniV p y).1 :: (iniL l (iniV p y).2).1, (iniL l (iniV p y).2).2)
def iniO : List ((Nat × Nat) × EP) → EY → EY
  | [], y => y
  | (c, p) :: l, y => iniO l (puO (iniV p y).2 (((0, (c.1 : Nat)), (0, (c.2 : Nat))), (iniV p y).1))
def lcI (ls : EL) (j : Nat) : Option AE := match ls[j]? with
  | some (some (.inl a)) => some a
  | _ => none
def iniF : List (Nat × Nat × Int) → EL → EY → Option EY
  | [], _, y => prp y.2.2.1 y
  | e :: l, ls, y => match lcI ls e.1, lcI ls e.2.1 with
    | some a, some b => iniF l ls (adF y a b (e.2.2 + a.2 - b.2))
    | _, _ => none
section
variable {σ : Nat → Int} {y : EY} {g : AH}
theorem mkV_ok {kind N : Nat} {a : AE} (h : a.1 < N) : okV N (mkV kind a) := by
  unfold mkV
  split <;> exact h
theorem pV_mk {p : EP} {w : AV} (h : pV p w) : ∃ z : Int, p.2.1 ≤ z ∧ z ≤ p.2.2.1 ∧ (p.1 = 2 → ∃ i ∈ p.2.2.2, z = (i : Nat)) ∧ ∀ (σ : Nat → Int) (a : AE), vA σ a = z → w = vV σ (mkV p.1 a) := by
  match w, h with
  | .inl z, h => exact ⟨z, h.2.1, h.2.2, fun e => (by rw [h.1] at e; cases e), fun σ a e => by rw [h.1, ← e]; rfl⟩
  | .inr (.inl z), h => exact ⟨z, h.2.1, h.2.2, fun e => (by rw [h.1] at e; cases e), fun σ a e => by rw [h.1, ← e]; rfl⟩
  | .inr (.inr (some i)), h => exact ⟨(i : Nat), h.2.2.1, h.2.2.2, fun _ => ⟨i, h.2.1, rfl⟩, fun σ a e => by rw [h.1]; show _ = Sum.inr (Sum.inr (some (vA σ a).toNat)); rw [e, Int.toNat_natCast]⟩
theorem iniV_r (h : eY σ y g) {p : EP} {w : AV} (hp : pV p w) : rdY σ y g (iniV p y) w := by
  obtain ⟨z, h1, h2, h3, h4⟩ := pV_mk hp
  unfold iniV
  split
  · rename_i e
    have hk := kE_r h p.2.1
    exact ⟨σ, agree_rf, h, Nat.le_refl _, mkV_ok hk.1, h4 σ _ (by rw [show vA σ (0, p.2.1) = p.2.1 from hk.2]; omega)⟩
  · have hids : (if p.1 = 2 then p.2.2.2 else []) = [] ∨ ∃ i ∈ (if p.1 = 2 then p.2.2.2 else []), z = (i : Nat) := by
      split
      · rename_i e
        exact Or.inr (h3 e)
      · exact Or.inl rfl
    obtain ⟨σ', ag, hy, hz⟩ := frs_r h h1 h2 hids
    have hl2 := frs_len (y := y) (lo := p.2.1) (hi := p.2.2.1) (ids := if p.1 = 2 then p.2.2.2 else [])
    exact ⟨σ', ag, hy, Nat.le_trans (Nat.le_succ _) (Nat.le_of_eq hl2.symm), mkV_ok (Nat.lt_of_lt_of_eq (Nat.lt_succ_self _) hl2.symm), h4 σ' _ (by rw [vA0]; exact hz)⟩
theorem iniL_r : ∀ (l : List (Option EP)) {m : AL} {σ : Nat → Int} {y : EY}, eY σ y g → rZ pL l m → ∃ σ', agree σ σ' y.1.length ∧ y.1.length ≤ (iniL l y).2.1.length ∧ eY σ' (iniL l y).2 g ∧ rZ (eL σ' (iniL l y).2.1.length) (iniL l y).1 m
  | [], m, σ, y, h, hm => by
    rw [rZ_nil hm]
    exact ⟨σ, agree_rf, Nat.le_refl _, h, trivial⟩
  | none :: l, m, σ, y, h, hm => by
    obtain ⟨w, m', rfl, -, h2⟩ := rZ_cons hm
    obtain ⟨σ', ag, hle, hy, hl⟩ := iniL_r l h h2
    exact ⟨σ', ag, hle, hy, ⟨trivial, hl⟩⟩
  | some p :: l, m, σ, y, h, hm => by
    obtain ⟨w, m', rfl, h1, h2⟩ := rZ_cons hm
    match w, h1 with
    | some w, h1 =>
      obtain ⟨σ1, ag1, hy1, hle1, hv1⟩ := iniV_r h (p := p) h1
      obtain ⟨σ2, ag2, hle2, hy2, hl2⟩ := iniL_r l hy1 h2
      exact ⟨σ2, agree_tr ag1 ag2 hle1, Nat.le_trans hle1 hle2, hy2, ⟨eV_ag ag2 hle2 hv1, hl2⟩⟩
theorem iniO_r : ∀ (l : List ((Nat × Nat) × EP)) {σ : Nat → Int} {y : EY}, eY σ y g → (∀ e ∈ l, ∃ w, pV e.2 w ∧ cellH g e.1.1 e.1.2 w) → ∃ σ', agree σ σ' y.1.length ∧ y.1.length ≤ (iniO l y).1.length ∧ eY σ' (iniO l y) g
  | [], σ, y, h, _ => ⟨σ, agree_rf, Nat.le_refl _, h⟩
  | (c, p) :: l, σ, y, h, hm => by
    obtain ⟨w, hw, hc⟩ := hm _ List.mem_cons_self
    obtain ⟨σ1, ag1, hy1, hle1, hv1⟩ := iniV_r h (p := p) hw
    have k1 := kE_r hy1 (c.1 : Int)
    have k2 := kE_r hy1 (c.2 : Int)
    have hy2 := puO_r (e := (((0, (c.1 : Int)), (0, (c.2 : Int))), (iniV p y).1)) hy1 k1.1 k2.1 hv1.1 (by
      dsimp only
      rw [show vA σ1 (0, (c.1 : Int)) = c.1 from k1.2, show vA σ1 (0, (c.2 : Int)) = c.2 from k2.2, Int.toNat_natCast, Int.toNat_natCast, ← hv1.2]
      exact hc)
    obtain ⟨σ2, ag2, hle2, hy3⟩ := iniO_r l hy2 (fun e he => hm e (List.mem_cons_of_mem _ he))
    exact ⟨σ2, agree_tr ag1 ag2 hle1, Nat.le_trans hle1 hle2, hy3⟩
theorem lcI_r {N : Nat} {ls : EL} {m : AL} (hl : rZ (eL σ N) ls m) {j : Nat} {a : AE} (h : lcI ls j = some a) : a.1 < N ∧ m[j]? = some (some (.inl (vA σ a))) := by
  unfold lcI at h
  split at h
  · rename_i b hb
    cases h
    obtain ⟨w, h1, h2⟩ := rZ_get hl hb
    match w, h2 with
    | some w, h2 =>
      refine ⟨h2.1, ?_⟩
      rw [h1, h2.2]
      rfl
  · cases h
/-- facts between locals -/
def factP (m : AL) (e : Nat × Nat × Int) : Prop := ∃ u v : Int, m[e.1]? = some (some (.inl u)) ∧ m[e.2.1]? = some (some (.inl v)) ∧ u + e.2.2 ≤ v
theorem adF_r (h : eY σ y g) {a b : AE} {d : Int} (ha : a.1 < y.1.length) (hb : b.1 < y.1.length) (hz : σ a.1 + d ≤ σ b.1) : eY σ (adF y a b d) g ∧ sameN y (adF y a b d) := by
  unfold adF
  split
  · exact ⟨h, rfl⟩
  · exact ⟨puF_r (e := (a.1, b.1, d)) h ha hb hz, rfl⟩
theorem iniF_r : ∀ (l : List (Nat × Nat × Int)) {ls : EL} {m : AL} {y y' : EY}, eY σ y g → rZ (eL σ y.1.length) ls m → (∀ e ∈ l, factP m e) → iniF l ls y = some y' → eY σ y' g ∧ sameN y y'
  | [], ls, m, y, y', h, hl, hf, e => by
    obtain ⟨y1, e1, h1, n1⟩ := prp_r _ h h.2.2.1
    rw [iniF, e1] at e
    cases e
    exact ⟨h1, n1⟩
  | q :: l, ls, m, y, y', h, hl, hf, e => by
    rw [iniF] at e
    split at e
    · rename_i a b ha hb
      obtain ⟨a1, a2⟩ := lcI_r hl ha
      obtain ⟨b1, b2⟩ := lcI_r hl hb
      obtain ⟨u, v, e1, e2, e3⟩ := hf q List.mem_cons_self
      rw [e1] at a2
      rw [e2] at b2
      have eu : u = vA σ a := by injection a2 with z; injection z with z; injection z
      have ev : v = vA σ b := by injection b2 with z; injection z with z; injection z
      unfold vA at eu ev
      obtain ⟨h1, n1⟩ := adF_r h (d := q.2.2 + a.2 - b.2) a1 b1 (by omega)
      have n1 : (adF y a b (q.2.2 + a.2 - b.2)).1.length = y.1.length := n1
      obtain ⟨h2, n2⟩ := iniF_r l h1 (by rw [n1]; exact hl) (fun e he => hf e (List.mem_cons_of_mem _ he)) e
      exact ⟨h2, n2.trans n1⟩
    · cases e
end
