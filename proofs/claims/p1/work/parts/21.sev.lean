/-! part 17: runs over numbers that are not known: each is a multiple of one of the script's ints and more, or lies between two bounds -/
abbrev AI : Type := Nat × Int × Int × Int
abbrev BV : Type := AI ⊕ (Int ⊕ Option Nat)
abbrev BL : Type := List (Option BV)
abbrev BH : Type := Nat × Nat × (Nat → Nat × Nat) × (Nat → Nat → AI) × (Nat → Nat → Int) × (Nat → Nat → Option Nat)
abbrev BR : Type := Option (Nat × BL × List BV × BH)
abbrev GM : Type := List (Int × Int)
def rI (ρ : Nat → Int) (a : AI) (z : Int) : Prop := if a.2.1 = 0 then a.2.2.1 ≤ z ∧ z ≤ a.2.2.2 else z = a.2.1 * ρ a.1 + a.2.2.1
def rV (ρ : Nat → Int) : BV → AV → Prop
  | .inl a, .inl z => rI ρ a z
  | .inr b, .inr c => b = c
  | _, _ => False
def rO (ρ : Nat → Int) : Option BV → Option AV → Prop
  | none, none => True
  | some a, some b => rV ρ a b
  | _, _ => False
def rZ {α β : Type} (R : α → β → Prop) : List α → List β → Prop
  | [], [] => True
  | a :: s, b :: t => R a b ∧ rZ R s t
  | _, _ => False
/-- what lies in the heap: the script and what has been made -/
def rH (ρ : Nat → Int) (h : BH) (g : AH) : Prop := h.1 = g.1 ∧ h.2.1 = g.2.1 ∧ (∀ a, a < h.1 ∨ a = 1000000 → h.2.2.1 a = g.2.2.1 a) ∧ (∀ a j, a < h.1 ∨ a = 1000000 → j < (h.2.2.1 a).2 → rI ρ (h.2.2.2.1 a j) (g.2.2.2.1 a j)) ∧ (∀ a j, a < h.1 ∨ a = 1000000 → j < (h.2.2.1 a).2 → h.2.2.2.2.1 a j = g.2.2.2.2.1 a j) ∧ (∀ a j, a < h.1 ∨ a = 1000000 → j < (h.2.2.1 a).2 → h.2.2.2.2.2 a j = g.2.2.2.2.2 a j)
def rG (ρ : Nat → Int) (Γ : GM) : Prop := ∀ j q, Γ[j]? = some q → q.1 ≤ ρ j ∧ ρ j ≤ q.2
section
variable {α β : Type} {R : α → β → Prop}
theorem rZ_nil {t : List β} (h : rZ R [] t) : t = [] := by cases t with
  | nil => rfl
  | cons => cases h
theorem rZ_cons {a : α} {s : List α} {t : List β} (h : rZ R (a :: s) t) : ∃ b t', t = b :: t' ∧ R a b ∧ rZ R s t' := by cases t with
  | nil => cases h
  | cons b t' => exact ⟨b, t', rfl, h.1, h.2⟩
theorem rZ_len : ∀ {s : List α} {t : List β}, rZ R s t → s.length = t.length
  | [], t, h => by rw [rZ_nil h]; rfl
  | a :: s, t, h => by
    obtain ⟨b, t', rfl, -, h2⟩ := rZ_cons h
    rw [List.length_cons, List.length_cons, rZ_len h2]
theorem rZ_get : ∀ {s : List α} {t : List β}, rZ R s t → ∀ {j : Nat} {a : α}, s[j]? = some a → ∃ b, t[j]? = some b ∧ R a b
  | [], t, h, j, a, e => by simp at e
  | x :: s, t, h, 0, a, e => by
    obtain ⟨b, t', rfl, h1, -⟩ := rZ_cons h
    simp at e
    subst e
    exact ⟨b, rfl, h1⟩
  | x :: s, t, h, j + 1, a, e => by
    obtain ⟨b, t', rfl, -, h2⟩ := rZ_cons h
    simp at e
    obtain ⟨c, c1, c2⟩ := rZ_get h2 e
    exact ⟨c, by simpa using c1, c2⟩
theorem rZ_set : ∀ {s : List α} {t : List β}, rZ R s t → ∀ {j : Nat} {a : α} {b : β}, R a b → rZ R (s.set j a) (t.set j b)
  | [], t, h, j, a, b, e => by rw [rZ_nil h]; exact trivial
  | x :: s, t, h, 0, a, b, e => by
    obtain ⟨c, t', rfl, h1, h2⟩ := rZ_cons h
    exact ⟨e, h2⟩
  | x :: s, t, h, j + 1, a, b, e => by
    obtain ⟨c, t', rfl, h1, h2⟩ := rZ_cons h
    exact ⟨h1, rZ_set h2 e⟩
theorem rZ_take : ∀ {n : Nat} {s : List α} {t : List β}, rZ R s t → rZ R (s.take n) (t.take n)
  | 0, s, t, h => by rw [List.take_zero, List.take_zero]; exact trivial
  | n + 1, [], t, h => by rw [rZ_nil h]; exact trivial
  | n + 1, x :: s, t, h => by
    obtain ⟨c, t', rfl, h1, h2⟩ := rZ_cons h
    exact ⟨h1, rZ_take h2⟩
theorem rZ_drop : ∀ {n : Nat} {s : List α} {t : List β}, rZ R s t → rZ R (s.drop n) (t.drop n)
  | 0, s, t, h => h
  | n + 1, [], t, h => by rw [rZ_nil h]; exact trivial
  | n + 1, x :: s, t, h => by
    obtain ⟨c, t', rfl, h1, h2⟩ := rZ_cons h
    exact rZ_drop (n := n) h2
theorem rZ_app : ∀ {s : List α} {t : List β} {s' : List α} {t' : List β}, rZ R s t → rZ R s' t' → rZ R (s ++ s') (t ++ t')
  | [], t, s', t', h, h' => by rw [rZ_nil h]; exact h'
  | x :: s, t, s', t', h, h' => by
    obtain ⟨c, t2, rfl, h1, h2⟩ := rZ_cons h
    exact ⟨h1, rZ_app h2 h'⟩
theorem rZ_rev : ∀ {s : List α} {t : List β}, rZ R s t → rZ R s.reverse t.reverse
  | [], t, h => by rw [rZ_nil h]; exact trivial
  | x :: s, t, h => by
    obtain ⟨c, t2, rfl, h1, h2⟩ := rZ_cons h
    rw [List.reverse_cons, List.reverse_cons]
    exact rZ_app (rZ_rev h2) ⟨h1, trivial⟩
end
section
variable {ρ : Nat → Int}
theorem rS_i {a : AI} {s : List BV} {t : List AV} (h : rZ (rV ρ) (.inl a :: s) t) : ∃ z t', t = .inl z :: t' ∧ rI ρ a z ∧ rZ (rV ρ) s t' := by
  obtain ⟨b, t', rfl, h1, h2⟩ := rZ_cons h
  cases b with
  | inl z => exact ⟨z, t', rfl, h1, h2⟩
  | inr c => cases h1
theorem rS_r {b : Int ⊕ Option Nat} {s : List BV} {t : List AV} (h : rZ (rV ρ) (.inr b :: s) t) : ∃ t', t = .inr b :: t' ∧ rZ (rV ρ) s t' := by
  obtain ⟨c, t', rfl, h1, h2⟩ := rZ_cons h
  cases c with
  | inl z => cases h1
  | inr c => cases h1; exact ⟨t', rfl, h2⟩
def bm_cat : BV → Nat
  | .inr (.inl _) => 2
  | _ => 1
def bm_cats : List BV → Nat
  | [] => 0
  | v :: t => bm_cat v + bm_cats t
theorem cat_r {a : BV} {b : AV} (h : rV ρ a b) : bm_cat a = am_cat b := by
  cases a with
  | inl a => cases b with
    | inl b => rfl
    | inr b => cases h
  | inr a => cases b with
    | inl b => cases h
    | inr b => cases h; cases a <;> rfl
theorem cats_r : ∀ {s : List BV} {t : List AV}, rZ (rV ρ) s t → bm_cats s = am_cats t
  | [], t, h => by rw [rZ_nil h]; rfl
  | x :: s, t, h => by
    obtain ⟨c, t2, rfl, h1, h2⟩ := rZ_cons h
    rw [bm_cats, am_cats, cat_r h1, cats_r h2]
def bm_clr (ls : BL) (i : Nat) : BL := match i with
  | 0 => ls
  | j + 1 => match ls[j]? with
    | some (some (.inr (.inl _))) => ls.set j none
    | _ => ls
def bm_st1 (ls : BL) (i : Nat) (v : BV) : BL := (bm_clr ls i).set i (some v)
def bm_st2 (ls : BL) (i : Nat) (v : BV) : BL := ((bm_clr ls i).set i (some v)).set (i + 1) none
theorem clr_r {l : BL} {m : AL} (h : rZ (rO ρ) l m) (i : Nat) : rZ (rO ρ) (bm_clr l i) (am_clr m i) := by
  cases i with
  | zero => exact h
  | succ j =>
    unfold bm_clr am_clr
    dsimp only
    cases hl : l[j]? with
    | none =>
      have hm : m[j]? = none := by
        rw [List.getElem?_eq_none_iff] at hl ⊢
        rw [← rZ_len h]; exact hl
      rw [hm]; exact h
    | some x =>
      obtain ⟨y, h1, h2⟩ := rZ_get h hl
      rw [h1]
      match x, y, h2 with
      | none, none, _ => exact h
      | some (.inl _), some (.inl _), _ => exact h
      | some (.inr (.inr _)), some (.inr b), h2 => cases h2; exact h
      | some (.inr (.inl _)), some (.inr b), h2 => cases h2; exact rZ_set h trivial
theorem st1_r {l : BL} {m : AL} (h : rZ (rO ρ) l m) (i : Nat) {a : BV} {b : AV} (hv : rV ρ a b) : rZ (rO ρ) (bm_st1 l i a) (am_st1 m i b) := rZ_set (a := some a) (b := some b) (clr_r h i) hv
theorem st2_r {l : BL} {m : AL} (h : rZ (rO ρ) l m) (i : Nat) {a : BV} {b : AV} (hv : rV ρ a b) : rZ (rO ρ) (bm_st2 l i a) (am_st2 m i b) := rZ_set (a := none) (b := none) (rZ_set (a := some a) (b := some b) (clr_r h i) hv) trivial
def ck (z : Int) : AI := (0, 0, z, z)
theorem ck_r (z : Int) : rI ρ (ck z) z := by unfold rI ck; exact ⟨Int.le_refl _, Int.le_refl _⟩
def kc (a : AI) : Option Int := if a.2.1 = 0 ∧ a.2.2.1 = a.2.2.2 then some a.2.2.1 else none
theorem kc_r {a : AI} {x z : Int} (h : kc a = some x) (hr : rI ρ a z) : z = x := by
  unfold kc at h
  split at h
  · rename_i h9
    cases h
    unfold rI at hr
    rw [if_pos h9.1] at hr
    omega
  · cases h
/-- between what a number lies -/
def rng (Γ : GM) (a : AI) : Option (Int × Int) := if a.2.1 = 0 then some (a.2.2.1, a.2.2.2) else if 0 < a.2.1 then (match Γ[a.1]? with
  | some q => some (a.2.1 * q.1 + a.2.2.1, a.2.1 * q.2 + a.2.2.1)
  | none => none) else none
theorem rng_r {Γ : GM} {a : AI} {z : Int} {q : Int × Int} (hG : rG ρ Γ) (h : rng Γ a = some q) (hr : rI ρ a z) : q.1 ≤ z ∧ z ≤ q.2 := by
  unfold rng at h
  unfold rI at hr
  split at h
  · rename_i h9
    cases h
    rw [if_pos h9] at hr
    exact hr
  · rename_i h9
    rw [if_neg h9] at hr
    split at h
    · rename_i h8
      split at h
      · rename_i q' hq
        cases h
        obtain ⟨g1, g2⟩ := hG _ _ hq
        have := Int.mul_le_mul_of_nonneg_left g1 (Int.le_of_lt h8)
        have := Int.mul_le_mul_of_nonneg_left g2 (Int.le_of_lt h8)
        dsimp only
        omega
      · cases h
    · cases h
/-- at most b -/
def rfLe (Γ : GM) (a : AI) (b : Int) : Option (GM × AI) := if a.2.1 = 0 then am_g (a.2.2.1 ≤ b) (some (Γ, (a.1, 0, a.2.2.1, min a.2.2.2 b))) else if 0 < a.2.1 then (match Γ[a.1]? with
  | some q => am_g (q.1 ≤ min q.2 ((b - a.2.2.1) / a.2.1)) (some (Γ.set a.1 (q.1, min q.2 ((b - a.2.2.1) / a.2.1)), a))
  | none => some (Γ, a)) else some (Γ, a)
def rfGe (Γ : GM) (a : AI) (b : Int) : Option (GM × AI) := if a.2.1 = 0 then am_g (b ≤ a.2.2.2) (some (Γ, (a.1, 0, max a.2.2.1 b, a.2.2.2))) else if 0 < a.2.1 then (match Γ[a.1]? with
  | some q => am_g (max q.1 (-((a.2.2.1 - b) / a.2.1)) ≤ q.2) (some (Γ.set a.1 (max q.1 (-((a.2.2.1 - b) / a.2.1)), q.2), a))
  | none => some (Γ, a)) else some (Γ, a)
theorem rG_set {Γ : GM} (hG : rG ρ Γ) {j : Nat} {q : Int × Int} (h : q.1 ≤ ρ j ∧ ρ j ≤ q.2) : rG ρ (Γ.set j q) := by
  intro i q' e
  rw [List.getElem?_set] at e
  split at e
  · rename_i e9
    subst e9
    split at e
    · cases e; exact h
    · cases e
  · exact hG _ _ e
theorem rfLe_r {Γ : GM} {a : AI} {z b : Int} (hG : rG ρ Γ) (hr : rI ρ a z) (hz : z ≤ b) : ∃ q, rfLe Γ a b = some q ∧ rG ρ q.1 ∧ rI ρ q.2 z := by
  unfold rfLe
  by_cases h0 : a.2.1 = 0
  · have hr' := hr
    unfold rI at hr'
    rw [if_pos h0] at hr'
    rw [if_pos h0]
    unfold am_g
    rw [if_pos (by omega)]
    exact ⟨_, rfl, hG, by unfold rI; rw [if_pos rfl]; dsimp only; omega⟩
  · have hr' := hr
    unfold rI at hr'
    rw [if_neg h0] at hr'
    rw [if_neg h0]
    split
    · rename_i hc
      split
      · rename_i q hq
        obtain ⟨g1, g2⟩ := hG _ _ hq
        have h1 : ρ a.1 ≤ (b - a.2.2.1) / a.2.1 := by
          rw [Int.le_ediv_iff_mul_le hc]
          rw [Int.mul_comm]
          omega
        unfold am_g
        rw [if_pos (by omega)]
        exact ⟨_, rfl, rG_set hG (by dsimp only; omega), hr⟩
      · exact ⟨_, rfl, hG, hr⟩
    · exact ⟨_, rfl, hG, hr⟩
theorem rfGe_r {Γ : GM} {a : AI} {z b : Int} (hG : rG ρ Γ) (hr : rI ρ a z) (hz : b ≤ z) : ∃ q, rfGe Γ a b = some q ∧ rG ρ q.1 ∧ rI ρ q.2 z := by
  unfold rfGe
  by_cases h0 : a.2.1 = 0
  · have hr' := hr
    unfold rI at hr'
    rw [if_pos h0] at hr'
    rw [if_pos h0]
    unfold am_g
    rw [if_pos (by omega)]
    exact ⟨_, rfl, hG, by unfold rI; rw [if_pos rfl]; dsimp only; omega⟩
  · have hr' := hr
    unfold rI at hr'
    rw [if_neg h0] at hr'
    rw [if_neg h0]
    split
    · rename_i hc
      split
      · rename_i q hq
        obtain ⟨g1, g2⟩ := hG _ _ hq
        have h1 : -ρ a.1 ≤ (a.2.2.1 - b) / a.2.1 := by
          rw [Int.le_ediv_iff_mul_le hc]
          rw [Int.mul_comm, Int.mul_neg]
          omega
        unfold am_g
        rw [if_pos (by omega)]
        exact ⟨_, rfl, rG_set hG (by dsimp only; omega), hr⟩
      · exact ⟨_, rfl, hG, hr⟩
    · exact ⟨_, rfl, hG, hr⟩
end
