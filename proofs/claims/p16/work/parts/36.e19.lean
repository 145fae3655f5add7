/-! the engine, 20: a checked contract holds -/
section
variable {K : Nat → List CON} {C : CON} {n : Nat}
theorem okU_r (hK : ∀ m, ∀ c ∈ K m, c.1 = m ∧ conS c) (hM0 : idsM C.2.2.2.1 = true) (hU : ∀ c ∈ C.2.2.2.2.2, okU K C n c = true) {g0 : AH} (h0 : scr g0) : ∀ (mu : Nat), ∀ c ∈ C.2.2.2.2.2, ∀ (g : AH) (m : AL), eH g → eM C.2.2.2.1 g0 g → cutP c m g → meas c m < mu → ∀ d, C.2.2.2.2.1 ≤ d → wp codeT mX d C.1 c.1 m [] g (conQ C g0) := by
  intro mu
  induction mu with
  | zero =>
    intro c _ g m _ _ _ h
    exact absurd h (Nat.not_lt_zero _)
  | succ mu ih =>
    intro c mc g m hH hM hc hlt d hd
    have h1 := hU c mc
    unfold okU at h1
    split at h1
    · cases h1
    · rename_i q hq
      split at h1
      · cases h1
      · rename_i os hos
        have hs := scr_M hM0 hM h0
        obtain ⟨σ, hS, h1n, hY, hl⟩ := iniU_r hs.2.1 hc hq
        obtain ⟨o1, o2⟩ := mcL_r hY.1.2.1 hY.1.1 hl hos
        have hS2 : σ 1 = ((g0.2.2.1 1000000).2 : Nat) := by rw [hS, hM.2.2.1]
        have := walk_r (mu := meas c m) hK h0 rfl hM0 (fun c' mc' g' m' e1 e2 e3 e4 d' hd' => ih c' mc' g' m' e1 e2 e3 (by
          rcases e4 with e4 | e4
          · cases e4
          · omega) d' hd') n [] C.1 c.1 q.1 [] q.2 true h1 (afs := []) (ast := []) (d := d) hY hH hM h1n hS2 (fun os' e => by
            cases e
            exact ⟨o1, by rw [← o2]; rfl⟩) trivial hl trivial (by simpa using hd)
        exact this
theorem okC_r (hK : ∀ m, ∀ c ∈ K m, c.1 = m ∧ conS c) (h : okC K n C = true) : conS C := by
  unfold okC at h
  rw [Bool.and_eq_true, Bool.and_eq_true] at h
  obtain ⟨hM0, hE, hU⟩ := h
  have hU := List.all_eq_true.mp hU
  intro g ls hH hs hc d hd
  unfold okE at hE
  split at hE
  · cases hE
  · rename_i q hq
    rw [Bool.and_eq_true] at hE
    obtain ⟨σ, hS, h1n, hY, hl⟩ := iniU_r hs.2.1 hc hq
    exact walk_r (mu := 0) hK hs rfl hM0 (fun c' mc' g' m' e1 e2 e3 _ d' hd' => okU_r hK hM0 hU hs (meas c' m' + 1) c' mc' g' m' e1 e2 e3 (Nat.lt_succ_self _) d' hd') n [] C.1 0 q.1 [] q.2 true hE.2 (afs := []) (ast := []) (d := d) hY hH eM_rf h1n hS (fun os' e => by cases e) trivial hl trivial (by simpa using hd)
end
/-- the contracts ahead of one, by method -/
def KofA (A : List CON) (tM : List (List Nat)) (i : Nat) (m : Nat) : List CON := (tM.getD m []).filterMap (fun id => if id < i then (match A[id]? with
  | some c => if c.1 = m then some c else none
  | none => none) else none)
theorem KofA_r {A : List CON} {tM : List (List Nat)} {i : Nat} (h : ∀ j, j < i → ∀ c, A[j]? = some c → conS c) : ∀ m, ∀ c ∈ KofA A tM i m, c.1 = m ∧ conS c := by
  intro m c hc
  unfold KofA at hc
  obtain ⟨id, -, h1⟩ := List.mem_filterMap.mp hc
  split at h1
  · rename_i hi
    split at h1
    · rename_i c' hc'
      split at h1
      · rename_i hm
        cases h1
        exact ⟨hm, h id hi _ hc'⟩
      · cases h1
    · cases h1
  · cases h1
def okI (A : List CON) (tM : List (List Nat)) (n : Nat) (i : Nat) : Bool := match A[i]? with
  | some C => okC (KofA A tM i) n C
  | none => true
theorem okA_r {A : List CON} {tM : List (List Nat)} {n N : Nat} {H : Nat → Prop} (hH : ∀ i, i < N → H i → ∀ c, A[i]? = some c → conS c) (h : ∀ i, i < N → H i ∨ okI A tM n i = true) : ∀ i, i < N → ∀ c, A[i]? = some c → conS c := by
  intro i
  induction i using Nat.strongRecOn with
  | _ i ih =>
    intro hi c hc
    rcases h i hi with h1 | h1
    · exact hH i hi h1 c hc
    · unfold okI at h1
      rw [hc] at h1
      exact okC_r (KofA_r (fun j hj c' hc' => ih j hj (Nat.lt_trans hj hi) c' hc')) h1
