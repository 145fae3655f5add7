/-! lists side by side -/
def rZ {α β : Type} (R : α → β → Prop) : List α → List β → Prop
  | [], [] => True
  | a :: s, b :: t => R a b ∧ rZ R s t
  | _, _ => False
section
variable {α β : Type} {R : α → β → Prop}
theorem rZ_nil {t : List β} (h : rZ R [] t) : t = [] := by cases t with
  | nil => rfl
  | cons => cases h
theorem rZ_cons {a : α} {s : List α} {t : List β} (h : rZ R (a :: s) t) : ∃ b t', t = b :: t' ∧ R a b ∧ rZ R s t' := by cases t with
  | nil => cases h
  | cons b t' => exact ⟨b, t', rfl, h.1, h.2⟩
theorem rZ_len : ∀ {s : List α} {t : List β}, rZ R s t → s.length = t.length
  | [], t, h => by rw [rZ_nil h]; rfl
  | a :: s, t, h => by
    obtain ⟨b, t', rfl, -, h2⟩ := rZ_cons h
    rw [List.length_cons, List.length_cons, rZ_len h2]
theorem rZ_get : ∀ {s : List α} {t : List β}, rZ R s t → ∀ {j : Nat} {a : α}, s[j]? = some a → ∃ b, t[j]? = some b ∧ R a b
  | [], t, h, j, a, e => by simp at e
  | x :: s, t, h, 0, a, e => by
    obtain ⟨b, t', rfl, h1, -⟩ := rZ_cons h
    simp at e
    subst e
    exact ⟨b, rfl, h1⟩
  | x :: s, t, h, j + 1, a, e => by
    obtain ⟨b, t', rfl, -, h2⟩ := rZ_cons h
    simp at e
    obtain ⟨c, c1, c2⟩ := rZ_get h2 e
    exact ⟨c, by simpa using c1, c2⟩
theorem rZ_set : ∀ {s : List α} {t : List β}, rZ R s t → ∀ {j : Nat} {a : α} {b : β}, R a b → rZ R (s.set j a) (t.set j b)
  | [], t, h, j, a, b, e => by rw [rZ_nil h]; exact trivial
  | x :: s, t, h, 0, a, b, e => by
    obtain ⟨c, t', rfl, h1, h2⟩ := rZ_cons h
    exact ⟨e, h2⟩
  | x :: s, t, h, j + 1, a, b, e => by
    obtain ⟨c, t', rfl, h1, h2⟩ := rZ_cons h
    exact ⟨h1, rZ_set h2 e⟩
theorem rZ_take : ∀ {n : Nat} {s : List α} {t : List β}, rZ R s t → rZ R (s.take n) (t.take n)
  | 0, s, t, h => by rw [List.take_zero, List.take_zero]; exact trivial
  | n + 1, [], t, h => by rw [rZ_nil h]; exact trivial
  | n + 1, x :: s, t, h => by
    obtain ⟨c, t', rfl, h1, h2⟩ := rZ_cons h
    exact ⟨h1, rZ_take h2⟩
theorem rZ_drop : ∀ {n : Nat} {s : List α} {t : List β}, rZ R s t → rZ R (s.drop n) (t.drop n)
  | 0, s, t, h => h
  | n + 1, [], t, h => by rw [rZ_nil h]; exact trivial
  | n + 1, x :: s, t, h => by
    obtain ⟨c, t', rfl, h1, h2⟩ := rZ_cons h
    exact rZ_drop (n := n) h2
theorem rZ_app : ∀ {s : List α} {t : List β} {s' : List α} {t' : List β}, rZ R s t → rZ R s' t' → rZ R (s ++ s') (t ++ t')
  | [], t, s', t', h, h' => by rw [rZ_nil h]; exact h'
  | x :: s, t, s', t', h, h' => by
    obtain ⟨c, t2, rfl, h1, h2⟩ := rZ_cons h
    exact ⟨h1, rZ_app h2 h'⟩
theorem rZ_rev : ∀ {s : List α} {t : List β}, rZ R s t → rZ R s.reverse t.reverse
  | [], t, h => by rw [rZ_nil h]; exact trivial
  | x :: s, t, h => by
    obtain ⟨c, t2, rfl, h1, h2⟩ := rZ_cons h
    rw [List.reverse_cons, List.reverse_cons]
    exact rZ_app (rZ_rev h2) ⟨h1, trivial⟩
end
