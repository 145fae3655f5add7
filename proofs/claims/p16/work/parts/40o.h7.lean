/-! by hand, 7: the law's reader: its numbers, apart from the rest of the heap -/
def rg (z : Int) : Prop := -2147483648 ≤ z ∧ z ≤ 2147483647
def XB (X : Nat → Int) : Prop := ∀ j, j < 180 → rg (X j)
def YB (X : Nat → Int) : Prop := ∀ j, j < 12 → 0 ≤ X j ∧ X j ≤ 180
def sx (X : Nat → Int) (j : Nat) (v : Int) : Nat → Int := fun y => if y = j then v else X y
theorem sx_s {X : Nat → Int} {j : Nat} {v : Int} : sx X j v j = v := if_pos rfl
theorem sx_n {X : Nat → Int} {i j : Nat} {v : Int} (h : i ≠ j) : sx X j v i = X i := if_neg h
theorem XB_sx {X : Nat → Int} {j : Nat} {v : Int} (h : XB X) (hv : rg v) : XB (sx X j v) := by
  intro y hy
  unfold sx
  split
  · exact hv
  · exact h y hy
theorem YB_sx {X : Nat → Int} {j : Nat} {v : Int} (h : YB X) (h1 : 0 ≤ v) (h2 : v ≤ 180) : YB (sx X j v) := by
  intro y hy
  unfold sx
  split
  · exact ⟨h1, h2⟩
  · exact h y hy
def pI (I : Nat → Nat → Int) (p fa op cm w sm nm : Int) (X W F H G : Nat → Int) : Nat → Nat → Int := fun a j => if a = 152 then (if j = 18 then p else if j = 20 then fa else if j = 21 then op else if j = 22 then cm else if j = 23 then w else if j = 24 then sm else if j = 25 then nm else I 152 j) else if a = 163 then X j else if a = 164 then W j else if a = 165 then F j else if a = 166 then H j else if a = 167 then G j else I a j
section
variable {I : Nat → Nat → Int} {p fa op cm w sm nm : Int} {X W F H G : Nat → Int} {j : Nat} {v : Int}
theorem pI_18 : pI I p fa op cm w sm nm X W F H G 152 18 = p := rfl
theorem pu_18 : up2 (pI I p fa op cm w sm nm X W F H G) 152 18 v = pI I v fa op cm w sm nm X W F H G := by
  funext a i
  unfold up2 pI
  by_cases h : a = 152
  · subst h
    by_cases h2 : i = 18
    · subst h2
      simp
    · simp [h2]
  · simp [h]
theorem pI_20 : pI I p fa op cm w sm nm X W F H G 152 20 = fa := rfl
theorem pu_20 : up2 (pI I p fa op cm w sm nm X W F H G) 152 20 v = pI I p v op cm w sm nm X W F H G := by
  funext a i
  unfold up2 pI
  by_cases h : a = 152
  · subst h
    by_cases h2 : i = 20
    · subst h2
      simp
    · simp [h2]
  · simp [h]
theorem pI_21 : pI I p fa op cm w sm nm X W F H G 152 21 = op := rfl
theorem pu_21 : up2 (pI I p fa op cm w sm nm X W F H G) 152 21 v = pI I p fa v cm w sm nm X W F H G := by
  funext a i
  unfold up2 pI
  by_cases h : a = 152
  · subst h
    by_cases h2 : i = 21
    · subst h2
      simp
    · simp [h2]
  · simp [h]
theorem pI_22 : pI I p fa op cm w sm nm X W F H G 152 22 = cm := rfl
theorem pu_22 : up2 (pI I p fa op cm w sm nm X W F H G) 152 22 v = pI I p fa op v w sm nm X W F H G := by
  funext a i
  unfold up2 pI
  by_cases h : a = 152
  · subst h
    by_cases h2 : i = 22
    · subst h2
      simp
    · simp [h2]
  · simp [h]
theorem pI_23 : pI I p fa op cm w sm nm X W F H G 152 23 = w := rfl
theorem pu_23 : up2 (pI I p fa op cm w sm nm X W F H G) 152 23 v = pI I p fa op cm v sm nm X W F H G := by
  funext a i
  unfold up2 pI
  by_cases h : a = 152
  · subst h
    by_cases h2 : i = 23
    · subst h2
      simp
    · simp [h2]
  · simp [h]
theorem pI_24 : pI I p fa op cm w sm nm X W F H G 152 24 = sm := rfl
theorem pu_24 : up2 (pI I p fa op cm w sm nm X W F H G) 152 24 v = pI I p fa op cm w v nm X W F H G := by
  funext a i
  unfold up2 pI
  by_cases h : a = 152
  · subst h
    by_cases h2 : i = 24
    · subst h2
      simp
    · simp [h2]
  · simp [h]
theorem pI_25 : pI I p fa op cm w sm nm X W F H G 152 25 = nm := rfl
theorem pu_25 : up2 (pI I p fa op cm w sm nm X W F H G) 152 25 v = pI I p fa op cm w sm v X W F H G := by
  funext a i
  unfold up2 pI
  by_cases h : a = 152
  · subst h
    by_cases h2 : i = 25
    · subst h2
      simp
    · simp [h2]
  · simp [h]
theorem pI_17 : pI I p fa op cm w sm nm X W F H G 152 17 = I 152 17 := rfl
theorem pI_19 : pI I p fa op cm w sm nm X W F H G 152 19 = I 152 19 := rfl
theorem pI_16 : pI I p fa op cm w sm nm X W F H G 152 16 = I 152 16 := rfl
theorem pI_26 : pI I p fa op cm w sm nm X W F H G 152 26 = I 152 26 := rfl
theorem pI_27 : pI I p fa op cm w sm nm X W F H G 152 27 = I 152 27 := rfl
theorem pI_28 : pI I p fa op cm w sm nm X W F H G 152 28 = I 152 28 := rfl
theorem pI_29 : pI I p fa op cm w sm nm X W F H G 152 29 = I 152 29 := rfl
theorem pI_30 : pI I p fa op cm w sm nm X W F H G 152 30 = I 152 30 := rfl
theorem pI_163 : pI I p fa op cm w sm nm X W F H G 163 j = X j := rfl
theorem pu_163 : up2 (pI I p fa op cm w sm nm X W F H G) 163 j v = pI I p fa op cm w sm nm (sx X j v) W F H G := by
  funext a i
  unfold up2 pI sx
  by_cases h : a = 163
  · subst h
    by_cases h2 : i = j
    · subst h2
      simp
    · simp [h2]
  · by_cases h3 : a = 152
    · simp [h3]
    · simp [h, h3]
theorem pI_164 : pI I p fa op cm w sm nm X W F H G 164 j = W j := rfl
theorem pu_164 : up2 (pI I p fa op cm w sm nm X W F H G) 164 j v = pI I p fa op cm w sm nm X (sx W j v) F H G := by
  funext a i
  unfold up2 pI sx
  by_cases h : a = 164
  · subst h
    by_cases h2 : i = j
    · subst h2
      simp
    · simp [h2]
  · by_cases h3 : a = 152
    · simp [h3]
    · simp [h, h3]
theorem pI_165 : pI I p fa op cm w sm nm X W F H G 165 j = F j := rfl
theorem pu_165 : up2 (pI I p fa op cm w sm nm X W F H G) 165 j v = pI I p fa op cm w sm nm X W (sx F j v) H G := by
  funext a i
  unfold up2 pI sx
  by_cases h : a = 165
  · subst h
    by_cases h2 : i = j
    · subst h2
      simp
    · simp [h2]
  · by_cases h3 : a = 152
    · simp [h3]
    · simp [h, h3]
theorem pI_166 : pI I p fa op cm w sm nm X W F H G 166 j = H j := rfl
theorem pu_166 : up2 (pI I p fa op cm w sm nm X W F H G) 166 j v = pI I p fa op cm w sm nm X W F (sx H j v) G := by
  funext a i
  unfold up2 pI sx
  by_cases h : a = 166
  · subst h
    by_cases h2 : i = j
    · subst h2
      simp
    · simp [h2]
  · by_cases h3 : a = 152
    · simp [h3]
    · simp [h, h3]
theorem pI_167 : pI I p fa op cm w sm nm X W F H G 167 j = G j := rfl
theorem pu_167 : up2 (pI I p fa op cm w sm nm X W F H G) 167 j v = pI I p fa op cm w sm nm X W F H (sx G j v) := by
  funext a i
  unfold up2 pI sx
  by_cases h : a = 167
  · subst h
    by_cases h2 : i = j
    · subst h2
      simp
    · simp [h2]
  · by_cases h3 : a = 152
    · simp [h3]
    · simp [h, h3]
theorem pI_162 : pI I p fa op cm w sm nm X W F H G 162 j = I 162 j := rfl
end
theorem cOp_c {o v : Int} (h1 : 0 ≤ o) (h2 : 0 ≤ v) (h3 : v < 1048576) : cOp (1048576 * o + v) = o ∧ cVl (1048576 * o + v) = v := by
  unfold cOp cVl
  rw [Int.tdiv_eq_ediv_of_nonneg (by omega)]
  omega
def ok0 (X : Nat → Int) (f i : Nat) : Prop := 0 ≤ X (f + i) ∧ cOp (X (f + i)) ≤ 12 ∧ (cOp (X (f + i)) = 1 → cVl (X (f + i)) ≤ 8) ∧ cNeed (X (f + i)) ≤ dep X f i
def OK0 (X : Nat → Int) (f n : Nat) : Prop := ∀ i, i < n → ok0 X f i
theorem dep_cg {X Y : Nat → Int} {f : Nat} : ∀ (n : Nat), (∀ i, i < n → cOp (X (f + i)) = cOp (Y (f + i))) → dep X f n = dep Y f n
  | 0, _ => rfl
  | n + 1, h => by
    rw [dep, dep, dep_cg n (fun i hi => h i (by omega))]
    unfold cEff
    rw [h n (by omega)]
theorem dep_sx {X : Nat → Int} {f n : Nat} {c : Int} : dep (sx X (f + n) c) f n = dep X f n := dep_cg n (fun i hi => by rw [sx_n (by omega)])
theorem dep_sx1 {X : Nat → Int} {f n : Nat} {c : Int} : dep (sx X (f + n) c) f (n + 1) = dep X f n + cEff c := by
  rw [dep, dep_sx, sx_s]
theorem OK0_sx {X : Nat → Int} {f n : Nat} {c : Int} (h : OK0 X f n) (h1 : 0 ≤ c) (h2 : cOp c ≤ 12) (h3 : cOp c = 1 → cVl c ≤ 8) (h4 : cNeed c ≤ dep X f n) : OK0 (sx X (f + n) c) f (n + 1) := by
  intro i hi
  by_cases e : i = n
  · subst e
    unfold ok0
    rw [sx_s, dep_sx]
    exact ⟨h1, h2, h3, h4⟩
  · have := h i (by omega)
    unfold ok0 at this ⊢
    rw [sx_n (by omega), dep_cg (X := sx X (f + n) c) (Y := X) i (fun k hk => by rw [sx_n (by omega)])]
    exact this
def nj (W : Nat → Int) : Nat → Nat
  | 0 => 0
  | w + 1 => nj W w + (if cOp (W w) = 11 ∨ cOp (W w) = 12 then 0 else 1)
def nb (W : Nat → Int) : Nat → Nat
  | 0 => 0
  | w + 1 => nb W w + (if cOp (W w) ≤ 6 then 1 else 0)
theorem nj_cg {W V : Nat → Int} : ∀ (w : Nat), (∀ i, i < w → W i = V i) → nj W w = nj V w
  | 0, _ => rfl
  | w + 1, h => by rw [nj, nj, nj_cg w (fun i hi => h i (by omega)), h w (by omega)]
theorem nb_cg {W V : Nat → Int} : ∀ (w : Nat), (∀ i, i < w → W i = V i) → nb W w = nb V w
  | 0, _ => rfl
  | w + 1, h => by rw [nb, nb, nb_cg w (fun i hi => h i (by omega)), h w (by omega)]
theorem nb_z {W : Nat → Int} : ∀ (w : Nat), (∀ i, i < w → 10 ≤ cOp (W i)) → nb W w = 0
  | 0, _ => rfl
  | w + 1, h => by
    rw [nb, nb_z w (fun i hi => h i (by omega)), if_neg (by have := h w (by omega); omega)]
/-- within a sum: X, W now, X0, W0 before it -/
def SS (L : Nat) (X0 W0 : Nat → Int) (f n1 w0 n0 e : Nat) (X W : Nat → Int) (n w p dl : Nat) : Prop := OK0 X f n ∧ dep X f n = ((n0 + nb W w + dl : Nat) : Int) ∧ f + n + nj W w + e ≤ p ∧ w ≤ p ∧ p ≤ L ∧ w0 ≤ w ∧ (∀ i, i < w0 → 10 ≤ cOp (W i) ∧ W i = W0 i) ∧ (∀ i, w0 ≤ i → i < w → (2 ≤ cOp (W i) ∧ cOp (W i) ≤ 6) ∨ cOp (W i) = 14) ∧ n1 ≤ n ∧ (∀ i, i < f + n1 → X i = X0 i) ∧ (∀ i, n1 ≤ i → i < n → cOp (X (f + i)) ≤ 10) ∧ XB X ∧ XB W
section
variable {L : Nat} {X0 W0 : Nat → Int} {f n1 w0 n0 e : Nat} {X W : Nat → Int} {n w p dl : Nat}
/-- a code that ends an operation which waits -/
theorem SS_op {c : Int} (h : SS L X0 W0 f n1 w0 n0 e X W n (w + 1) p 1) (h1 : 2 ≤ cOp c) (h2 : cOp c ≤ 6) (h3 : 0 ≤ c ∧ c ≤ 2147483647) (h4 : cOp (W w) ≤ 6) : SS L X0 W0 f n1 w0 n0 e (sx X (f + n) c) W (n + 1) w p 1 := by
  obtain ⟨a1, a2, a3, a4, a5, a6, a7, a8, a9, a10, a11, a12, a13⟩ := h
  rw [nj, if_neg (by omega)] at a3
  rw [nb, if_pos h4] at a2
  have hw : w0 ≤ w := by
    by_cases z : w0 = w + 1
    · have := (a7 w (by omega)).1
      omega
    · omega
  refine ⟨OK0_sx a1 h3.1 (by omega) (fun z => by omega) ?_, ?_, by omega, by omega, a5, hw, a7, fun i hi hj => a8 i hi (by omega), by omega, fun i hi => ?_, fun i hi hj => ?_, XB_sx a12 ⟨by omega, h3.2⟩, a13⟩
  · unfold cNeed
    rw [if_neg (by omega), if_neg (by omega), a2]
    omega
  · rw [dep_sx1, a2]
    unfold cEff
    rw [if_neg (by omega), if_neg (by omega)]
    omega
  · rw [sx_n (by omega)]
    exact a10 i hi
  · by_cases z : i = n
    · subst z
      rw [sx_s]
      omega
    · rw [sx_n (by omega)]
      exact a11 i hi (by omega)
/-- an operand -/
theorem SS_lit {c : Int} (h : SS L X0 W0 f n1 w0 n0 e X W n w p 0) (h1 : cOp c = 0 ∨ cOp c = 1) (h2 : cOp c = 1 → cVl c ≤ 8) (h3 : 0 ≤ c ∧ c ≤ 2147483647) {q : Nat} (hq : p < q) (hq2 : q ≤ L) : SS L X0 W0 f n1 w0 n0 e (sx X (f + n) c) W (n + 1) w q 1 := by
  obtain ⟨a1, a2, a3, a4, a5, a6, a7, a8, a9, a10, a11, a12, a13⟩ := h
  refine ⟨OK0_sx a1 h3.1 (by omega) h2 ?_, ?_, by omega, by omega, hq2, a6, a7, a8, by omega, fun i hi => ?_, fun i hi hj => ?_, XB_sx a12 ⟨by omega, h3.2⟩, a13⟩
  · unfold cNeed
    rw [if_pos h1, a2]
    omega
  · rw [dep_sx1, a2]
    unfold cEff
    rw [if_pos h1]
    omega
  · rw [sx_n (by omega)]
    exact a10 i hi
  · by_cases z : i = n
    · subst z
      rw [sx_s]
      omega
    · rw [sx_n (by omega)]
      exact a11 i hi (by omega)
/-- something new waits -/
theorem SS_push {c : Int} (h : SS L X0 W0 f n1 w0 n0 e X W n w p dl) {dl2 : Nat} (h1 : (2 ≤ cOp c ∧ cOp c ≤ 6 ∧ dl = dl2 + 1) ∨ (cOp c = 14 ∧ dl = dl2)) (h3 : 0 ≤ c ∧ c ≤ 2147483647) (hp : p < L) : SS L X0 W0 f n1 w0 n0 e X (sx W w c) n (w + 1) (p + 1) dl2 := by
  obtain ⟨a1, a2, a3, a4, a5, a6, a7, a8, a9, a10, a11, a12, a13⟩ := h
  have e1 : nj (sx W w c) (w + 1) = nj W w + 1 := by
    rw [nj, sx_s, nj_cg (V := W) w (fun i hi => sx_n (by omega)), if_neg (by omega)]
  have e2 : nb (sx W w c) (w + 1) + dl2 = nb W w + dl := by
    rw [nb, sx_s, nb_cg (V := W) w (fun i hi => sx_n (by omega))]
    split <;> omega
  refine ⟨a1, ?_, by omega, by omega, by omega, by omega, fun i hi => ?_, fun i hi hj => ?_, a9, a10, a11, a12, XB_sx a13 ⟨by omega, h3.2⟩⟩
  · rw [a2]
    omega
  · rw [sx_n (by omega)]
    exact a7 i hi
  · by_cases z : i = w
    · subst z
      rw [sx_s]
      rcases h1 with h1 | h1
      · exact Or.inl ⟨h1.1, h1.2.1⟩
      · exact Or.inr h1.1
    · rw [sx_n (by omega)]
      exact a8 i hi (by omega)
/-- a bracket that closes -/
theorem SS_pop (h : SS L X0 W0 f n1 w0 n0 e X W n (w + 1) p 1) (h1 : 6 < cOp (W w)) (hw : w0 ≤ w) (hp : p < L) : SS L X0 W0 f n1 w0 n0 e X W n w (p + 1) 1 := by
  obtain ⟨a1, a2, a3, a4, a5, a6, a7, a8, a9, a10, a11, a12, a13⟩ := h
  rw [nj] at a3
  rw [nb, if_neg (by omega)] at a2
  exact ⟨a1, a2, by omega, by omega, by omega, hw, a7, fun i hi hj => a8 i hi (by omega), a9, a10, a11, a12, a13⟩
end
