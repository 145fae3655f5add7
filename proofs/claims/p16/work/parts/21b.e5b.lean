/-! what the reference's codes and the book's counts keep (cells that the engine itself never writes) -/
def cOp (c : Int) : Int := Int.tdiv c 1048576
def cVl (c : Int) : Int := c - Int.tdiv c 1048576 * 1048576
/-- what a code does to the height of the stack, what height it needs -/
def cEff (c : Int) : Int := if cOp c = 0 ∨ cOp c = 1 then 1 else if cOp c = 10 then 0 else -1
def cNeed (c : Int) : Int := if cOp c = 0 ∨ cOp c = 1 then 0 else if 10 ≤ cOp c then 1 else 2
def dep (X : Nat → Int) (f : Nat) : Nat → Int
  | 0 => 0
  | n + 1 => dep X f n + cEff (X (f + n))
/-- a code at a place of a segment of n codes from f on; jumps are told from b on -/
def okCd (X : Nat → Int) (b f n i : Nat) : Prop := 0 ≤ X (f + i) ∧ cOp (X (f + i)) ≤ 12 ∧ (cOp (X (f + i)) = 1 → cVl (X (f + i)) ≤ 8) ∧ cNeed (X (f + i)) ≤ dep X f i ∧ (11 ≤ cOp (X (f + i)) → ∃ t : Nat, (b : Int) + cVl (X (f + i)) = f + t ∧ i < t ∧ t ≤ n ∧ dep X f t = dep X f i)
def wfS (X : Nat → Int) (b f n : Nat) : Prop := ∀ i, i < n → okCd X b f n i
/-- the clauses of a store -/
def wfT (g : AH) (k : Nat) : Prop := ∀ q : Nat, 12 * k ≤ q → (q : Int) < 12 * k + g.2.2.2.1 169 k → ∃ f m t : Nat, g.2.2.2.1 170 q = f ∧ g.2.2.2.1 171 q = (f + m : Nat) ∧ g.2.2.2.1 172 q = (f + m + t : Nat) ∧ 180 * k ≤ f ∧ f + m + t ≤ 180 * k + 180 ∧ wfS (g.2.2.2.1 168) (180 * k) f m ∧ wfS (g.2.2.2.1 168) (180 * k) (f + m) t
def eW (g : AH) : Prop := (∀ k, k < 6 → wfT g k) ∧ ∀ h t, h < 6 → t < 8 → g.2.2.2.1 (25 + h) t ≤ g.2.2.2.1 17 3
def wIds : List Nat := [17, 25, 26, 27, 28, 29, 30, 168, 169, 170, 171, 172]
theorem eW_of {g g' : AH} (h : ∀ a, a ∈ wIds → g'.2.2.2.1 a = g.2.2.2.1 a) (hw : eW g) : eW g' := by
  obtain ⟨h1, h2⟩ := hw
  refine ⟨fun k hk => ?_, fun a t ha ht => ?_⟩
  · have h3 := h1 k hk
    unfold wfT at h3 ⊢
    rw [h 168 (by decide), h 169 (by decide), h 170 (by decide), h 171 (by decide), h 172 (by decide)]
    exact h3
  · rw [h 17 (by decide), h (25 + a) (by
      match a, ha with
      | 0, _ => decide
      | 1, _ => decide
      | 2, _ => decide
      | 3, _ => decide
      | 4, _ => decide
      | 5, _ => decide)]
    exact h2 a t ha ht
