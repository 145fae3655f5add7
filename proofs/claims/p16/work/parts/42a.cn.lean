/-! all contracts stand -/
theorem chk_at {f : Nat → Bool} {n lo i : Nat} (h : ((List.range n).map (fun i => i + lo)).all f = true) (h1 : lo ≤ i) (h2 : i < lo + n) : f i = true := List.all_eq_true.mp h i (List.mem_map.mpr ⟨i - lo, List.mem_range.mpr (by omega), by omega⟩)
theorem chk_all : ∀ i, i < 180 → (hndL.any (fun h => h == i) || okI cnA cnT 3000 i) = true := by
  intro i hi
  by_cases hA0 : i < 10
  · exact chk_at ckA0 (by omega) (by omega)
  by_cases hA1 : i < 20
  · exact chk_at ckA1 (by omega) (by omega)
  by_cases hA2 : i < 30
  · exact chk_at ckA2 (by omega) (by omega)
  by_cases hA3 : i < 40
  · exact chk_at ckA3 (by omega) (by omega)
  by_cases hA4 : i < 50
  · exact chk_at ckA4 (by omega) (by omega)
  by_cases hA5 : i < 60
  · exact chk_at ckA5 (by omega) (by omega)
  by_cases hB0 : i < 70
  · exact chk_at ckB0 (by omega) (by omega)
  by_cases hB1 : i < 80
  · exact chk_at ckB1 (by omega) (by omega)
  by_cases hB2 : i < 90
  · exact chk_at ckB2 (by omega) (by omega)
  by_cases hB3 : i < 100
  · exact chk_at ckB3 (by omega) (by omega)
  by_cases hB4 : i < 110
  · exact chk_at ckB4 (by omega) (by omega)
  by_cases hB5 : i < 120
  · exact chk_at ckB5 (by omega) (by omega)
  by_cases hC0 : i < 130
  · exact chk_at ckC0 (by omega) (by omega)
  by_cases hC1 : i < 140
  · exact chk_at ckC1 (by omega) (by omega)
  by_cases hC2 : i < 150
  · exact chk_at ckC2 (by omega) (by omega)
  by_cases hC3 : i < 160
  · exact chk_at ckC3 (by omega) (by omega)
  by_cases hC4 : i < 170
  · exact chk_at ckC4 (by omega) (by omega)
  by_cases hC5 : i < 180
  · exact chk_at ckC5 (by omega) (by omega)
  omega
theorem cn_all : ∀ i, i < 180 → ∀ c, cnA[i]? = some c → conS c := by
  refine okA_r (tM := cnT) (n := 3000) (H := fun i => hndL.any (fun h => h == i) = true) (fun i hi hh c hc => ?_) (fun i hi => ?_)
  · unfold hndL at hh
    simp only [List.any_cons, List.any_nil, Bool.or_false, Bool.or_eq_true, beq_iff_eq] at hh
    rcases hh with rfl | rfl | rfl | rfl
    · have e : cnA[81]? = some cn81 := rfl
      rw [e] at hc
      cases hc
      exact con_add
    · have e : cnA[142]? = some cn142 := rfl
      rw [e] at hc
      cases hc
      exact con_givesBy
    · have e : cnA[178]? = some cn178 := rfl
      rw [e] at hc
      cases hc
      exact con_law
    · have e : cnA[179]? = some cn179 := rfl
      rw [e] at hc
      cases hc
      exact con_worse
  · have := chk_all i hi
    rwa [Bool.or_eq_true] at this
