/-! by hand, 0: heaps and locals out of what the engine keeps -/
def eH5 (g : AH) : Prop := g.1 = nO ∧ (∀ a, a < nO → g.2.2.1 a = tT.getD a (0, 0)) ∧ (∀ a j, a < nO → j < (tT.getD a (0, 0)).2 → (bI a j).1 ≤ g.2.2.2.1 a j ∧ g.2.2.2.1 a j ≤ (bI a j).2) ∧ (∀ a j, a < nO → j < (tT.getD a (0, 0)).2 → -9223372036854775808 ≤ g.2.2.2.2.1 a j ∧ g.2.2.2.2.1 a j ≤ 9223372036854775807) ∧ (∀ a j, a < nO → j < (tT.getD a (0, 0)).2 → bR a j ≠ [] → ∃ i ∈ bR a j, g.2.2.2.2.2 a j = some i)
theorem eH5_of {g : AH} (h : eH g) : eH5 g := ⟨h.1, h.2.1, h.2.2.1, h.2.2.2.1, h.2.2.2.2.1⟩
theorem eH_mk {g : AH} (h : eH5 g) (hw : eW g) : eH g := ⟨h.1, h.2.1, h.2.2.1, h.2.2.2.1, h.2.2.2.2, hw⟩
theorem eH5_up {c s : Nat} {T : Nat → Nat × Nat} {I J : Nat → Nat → Int} {R : Nat → Nat → Option Nat} {a j : Nat} {v : Int} (h : eH5 (c, s, T, I, J, R)) (h1 : (bI a j).1 ≤ v) (h2 : v ≤ (bI a j).2) : eH5 (c, s, T, up2 I a j v, J, R) := by
  refine ⟨h.1, h.2.1, fun x z hx hz => ?_, h.2.2.2⟩
  show (bI x z).1 ≤ up2 I a j v x z ∧ up2 I a j v x z ≤ (bI x z).2
  unfold up2
  split
  · rename_i e
    rw [e.1, e.2]
    exact ⟨h1, h2⟩
  · exact h.2.2.1 x z hx hz
theorem eH5_upJ {c s : Nat} {T : Nat → Nat × Nat} {I J : Nat → Nat → Int} {R : Nat → Nat → Option Nat} {a j : Nat} {v : Int} (h : eH5 (c, s, T, I, J, R)) (h1 : -9223372036854775808 ≤ v) (h2 : v ≤ 9223372036854775807) : eH5 (c, s, T, I, up2 J a j v, R) := by
  refine ⟨h.1, h.2.1, h.2.2.1, fun x z hx hz => ?_, h.2.2.2.2⟩
  show _ ≤ up2 J a j v x z ∧ up2 J a j v x z ≤ _
  unfold up2
  split
  · exact ⟨h1, h2⟩
  · exact h.2.2.2.1 x z hx hz
theorem eM_up {c s : Nat} {T : Nat → Nat × Nat} {I J : Nat → Nat → Int} {R : Nat → Nat → Option Nat} {M : MO} {g0 : AH} {a j : Nat} {v : Int} (h : eM M g0 (c, s, T, I, J, R)) (hm : inM M a j = true) : eM M g0 (c, s, T, up2 I a j v, J, R) := wrC_fr (.inl v) hm h
theorem eM_upJ {c s : Nat} {T : Nat → Nat × Nat} {I J : Nat → Nat → Int} {R : Nat → Nat → Option Nat} {M : MO} {g0 : AH} {a j : Nat} {v : Int} (h : eM M g0 (c, s, T, I, J, R)) (hm : inM M a j = true) : eM M g0 (c, s, T, I, up2 J a j v, R) := wrC_fr (.inr (.inl v)) hm h
theorem eT {c s : Nat} {T : Nat → Nat × Nat} {I J : Nat → Nat → Int} {R : Nat → Nat → Option Nat} (h : eH5 (c, s, T, I, J, R)) {a : Nat} (ha : a < nO) : T a = tT.getD a (0, 0) := h.2.1 a ha
theorem eR1 {c s : Nat} {T : Nat → Nat × Nat} {I J : Nat → Nat → Int} {R : Nat → Nat → Option Nat} (h : eH5 (c, s, T, I, J, R)) {a j i : Nat} (ha : a < nO) (hj : j < (tT.getD a (0, 0)).2) (hb : bR a j = [i]) : R a j = some i := by
  obtain ⟨i', m, e⟩ := h.2.2.2.2 a j ha hj (by rw [hb]; intro z; cases z)
  rw [hb] at m
  rw [← List.mem_singleton.mp m]
  exact e
theorem eB {c s : Nat} {T : Nat → Nat × Nat} {I J : Nat → Nat → Int} {R : Nat → Nat → Option Nat} (h : eH5 (c, s, T, I, J, R)) {a j : Nat} (ha : a < nO) (hj : j < (tT.getD a (0, 0)).2) : (bI a j).1 ≤ I a j ∧ I a j ≤ (bI a j).2 := h.2.2.1 a j ha hj
theorem pLi {lo hi : Int} {l : List Nat} {w : Option AV} (h : pL (some (0, lo, hi, l)) w) : ∃ z, w = some (.inl z) ∧ lo ≤ z ∧ z ≤ hi := by
  match w, h with
  | some (.inl z), h => exact ⟨z, rfl, h.2.1, h.2.2⟩
  | some (.inr (.inl z)), h => exact absurd h.1 (by show ¬ (0 : Nat) = 1; decide)
  | some (.inr (.inr (some i))), h => exact absurd h.1 (by show ¬ (0 : Nat) = 2; decide)
theorem pLr {i : Nat} {w : Option AV} (h : pL (some (2, (i : Int), (i : Int), [i])) w) : w = some (.inr (.inr (some i))) := by
  match w, h with
  | some (.inl z), h => exact absurd h.1 (by show ¬ (2 : Nat) = 0; decide)
  | some (.inr (.inl z)), h => exact absurd h.1 (by show ¬ (2 : Nat) = 1; decide)
  | some (.inr (.inr (some j))), h => rw [List.mem_singleton.mp h.2.1]
theorem bI_hi {a j : Nat} (ht : 100 ≤ (tT.getD a (0, 0)).1) : bI a j = bI a 0 := by unfold bI; rw [if_pos ht, if_pos ht]
theorem w32_lo (z : Int) : -2147483648 ≤ w32 z ∧ w32 z ≤ 2147483647 := by unfold w32; omega
theorem w32_eq {z : Int} (h1 : -2147483648 ≤ z) (h2 : z ≤ 2147483647) : w32 z = z := by unfold w32; omega
theorem up2_na {α : Type} {f : Nat → Nat → α} {a j x y : Nat} {v : α} (h : x ≠ a) : up2 f a j v x y = f x y := by unfold up2; exact if_neg (fun z => h z.1)
theorem up2_nj {α : Type} {f : Nat → Nat → α} {a j x y : Nat} {v : α} (h : y ≠ j) : up2 f a j v x y = f x y := by unfold up2; exact if_neg (fun z => h z.2)
theorem wfT_of {g g' : AH} {k : Nat} (h : ∀ a, a ∈ [168, 169, 170, 171, 172] → g'.2.2.2.1 a = g.2.2.2.1 a) (hw : wfT g k) : wfT g' k := by
  unfold wfT at hw ⊢
  rw [h 168 (by decide), h 169 (by decide), h 170 (by decide), h 171 (by decide), h 172 (by decide)]
  exact hw
theorem w32_p1 {z : Int} (h1 : 0 ≤ z) (h2 : z ≤ 1080) : w32 (z + 1) = z + 1 := w32_eq (by omega) (by omega)
theorem w32_m1 {z : Int} (h1 : 0 ≤ z) (h2 : z ≤ 1080) : w32 (z - 1) = z - 1 := w32_eq (by omega) (by omega)
theorem w32_sm {z : Int} (h : 0 ≤ z ∧ z ≤ 12) : w32 z = z := w32_eq (by omega) (by omega)
