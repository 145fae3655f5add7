/-! the law's two readers, 28: the tasks of answers too, pair by pair -/
section
variable {L s d mx mm k : Nat} {X : Nat → Int} {lg c1 c2 : Bool}
theorem pv_al2 (h : pr L X s LAL d mx mm k lg c1) (hv : prx L X s LAV (fun g => lkV g.2.2.2.1) d mx mm k lg c2) : pr L X s LAV d mx mm k lg (c1 || c2) := prx_and (prx_pre (prx_of h) (fun _ (h : LAV _) => h.1)) hv
end
theorem LAV_0 {g : AH} {L : Nat} {X : Nat → Int} (h : lalB0 g = true) : LAV (ov L X g) := by
  refine ⟨LAL_0 h, fun i hi => ?_⟩
  unfold lalB0 lrgB0 at h
  simp only [Bool.and_eq_true, decide_eq_true_eq] at h
  have e : (ov L X g).2.2.2.1 17 3 = 0 := by
    show (if 17 = 1000000 then X else g.2.2.2.1 17 : Nat → Int) 3 = 0
    rw [if_neg (by decide)]
    exact h.2.1.1
  rw [e] at hi
  omega
