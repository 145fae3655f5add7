/-! the law by hand, 8: its start -/
def cut0 : CUT := (10, [], [], [], [], [])
def inlF (f : AH → Bool) : Bool := match evm 20000 999 1 0 (am_ent (mX 1) [.inr (.inr (some 0))]) [] (nwH h00 11 19) with
  | some (none, g1) => decide (g1.1 = 152) && (match evm 20000 999 130 0 (am_ent (mX 130) [.inr (.inr (some 152))]) [] (nwH g1 12 53) with
    | some (none, g2) => okG cut0 g2 && f g2
    | _ => false)
  | _ => false
theorem law_ini2 {L : Nat} {X : Nat → Int} {Q : Option AV → AH → Prop} {f : AH → Bool} (hc : inlF f = true) (hL : L ≤ 3072) (hX : ∀ j, rg32 (X j)) (go : ∀ g : AH, f g = true → eH (ov L X g) → scr (ov L X g) → g.1 = 185 → g.2.1 ≤ 100000 → wp codeT mX 1000 0 10 lsH [] (ov L X g) Q) : wp codeT mX 1000 0 0 lwL [] (ov L X h00) Q := by
  unfold inlF at hc
  split at hc
  · rename_i g1 e1
    rw [Bool.and_eq_true, decide_eq_true_eq] at hc
    obtain ⟨n1, hc⟩ := hc
    split at hc
    · rename_i g2 e2
      obtain ⟨r1, i1⟩ := evm_r _ _ _ _ _ _ _ _ e1
      obtain ⟨r2, i2⟩ := evm_r _ _ _ _ _ _ _ _ e2
      have s0 : SC0 h00 := ⟨rfl, by decide⟩
      have s1 : SC0 (nwH h00 11 19) := sc_nw (by decide) s0
      have v1 : invH g1 := i1 (inv_nw (by decide +kernel) (by decide) inv00)
      obtain ⟨o1, t1⟩ := ev_ov L X _ _ _ _ _ _ _ _ _ r1 s1
      have s2 : SC0 (nwH g1 12 53) := sc_nw (by rw [n1]; decide) t1
      have v2 : invH g2 := i2 (inv_nw (by rw [n1]; decide +kernel) (by rw [n1]; decide) v1)
      obtain ⟨o2, t2⟩ := ev_ov L X _ _ _ _ _ _ _ _ _ r2 s2
      rw [Bool.and_eq_true] at hc
      obtain ⟨hc, hcf⟩ := hc
      have hg := hc
      unfold okG at hg
      simp only [Bool.and_eq_true, decide_eq_true_eq] at hg
      have G := go g2 hcf (eH_of L X v2 hc) ⟨rfl, hL, fun j => hX j⟩ hg.1 hg.2.1
      -- new StarDays
      refine (wp_stp codeT mX (i := .new 7) (z := 0) (ns := [11, 19]) rfl rfl).mpr ?_
      rw [show stp (.new 7) 0 [11, 19] 0 lwL [] (ov L X h00) = _ from ov_nw (L := L) (X := X) (h := h00) (tag := 11) (n := 19) (k := 0) (ls := lwL) (st := []) (by decide)]
      refine (wp_stp codeT mX (i := .dup) (z := 0) (ns := []) rfl rfl).mpr ?_
      refine (wp_call codeT mX (d := 999) (i := .invokespecial 9) (z := 0) (ns := [1, 1, 1, 11]) rfl rfl).mpr ⟨rcv_ov s1 rfl, _, _, _, o1, ?_⟩
      refine ⟨ev_grow codeT mX _ _ _ _ _ _ _ _ _ o1, ?_⟩
      refine (wp_stp codeT mX (i := .astore_n 1) (z := 0) (ns := [1]) rfl rfl).mpr ?_
      -- new StarDaysModel
      refine (wp_stp codeT mX (i := .new 10) (z := 0) (ns := [12, 53]) rfl rfl).mpr ?_
      show nxt codeT mX 1000 0 (stp (.new 10) 0 [12, 53] 4 (am_st1 lwL 1 (.inr (.inr (some 0)))) [] (ov L X g1)) Q
      rw [show stp (.new 10) 0 [12, 53] 4 (am_st1 lwL 1 (.inr (.inr (some 0)))) [] (ov L X g1) = _ from ov_nw (L := L) (X := X) (h := g1) (tag := 12) (n := 53) (k := 4) (ls := am_st1 lwL 1 (.inr (.inr (some 0)))) (st := []) (by rw [n1]; decide), n1]
      refine (wp_stp codeT mX (i := .dup) (z := 0) (ns := []) rfl rfl).mpr ?_
      refine (wp_call codeT mX (d := 999) (i := .invokespecial 12) (z := 0) (ns := [130, 1, 1, 12]) rfl rfl).mpr ⟨rcv_ov s2 ?_, _, _, _, o2, ?_⟩
      · have : (nwH g1 12 53).2.2.1 152 = (12, 53) := by
          show up1 g1.2.2.1 g1.1 (12, 53) 152 = _
          unfold up1
          rw [n1]
          rfl
        unfold am_rcv
        simp only [Bool.and_eq_true, Bool.or_eq_true, decide_eq_true_eq]
        refine ⟨⟨⟨by decide, by decide⟩, by decide⟩, Or.inr ?_⟩
        show (if (1 : Nat) = 2 then _ else _) = true
        rw [if_neg (by decide)]
        simp only [Bool.and_eq_true, decide_eq_true_eq]
        exact ⟨by rw [this]; rfl, by show 152 < g1.1 + 1; omega⟩
      · refine ⟨ev_grow codeT mX _ _ _ _ _ _ _ _ _ o2, ?_⟩
        refine (wp_stp codeT mX (i := .astore_n 2) (z := 0) (ns := [2]) rfl rfl).mpr ?_
        refine (wp_stp codeT mX (i := .iconst 0) (z := 0) (ns := []) rfl rfl).mpr ?_
        refine (wp_stp codeT mX (i := .istore_n 3) (z := 0) (ns := [3]) rfl rfl).mpr ?_
        exact G
    · cases hc
  · cases hc
/-- the likeness behind the constructors -/
def lkB0 (g : AH) : Bool := (((decide (g.2.2.2.1 0 0 = 0) && decide (g.2.2.2.1 152 0 = 0)) && ((decide (g.2.2.2.1 0 1 = 0) && decide (g.2.2.2.1 152 1 = 0)) && (decide (g.2.2.2.1 0 2 = 0) && decide (g.2.2.2.1 152 2 = 0)))) && (((decide (g.2.2.2.1 0 3 = 1) && decide (g.2.2.2.1 152 5 = 1)) && (decide (g.2.2.2.1 0 4 = 1) && decide (g.2.2.2.1 152 6 = 1))) && ((decide (g.2.2.2.1 3 3 = 0) && decide (g.2.2.2.1 152 3 = 0)) && ((decide (g.2.2.2.1 17 3 = 0) && decide (g.2.2.2.1 152 4 = 0)) && ((decide (g.2.2.2.1 102 3 = 0) && decide (g.2.2.2.1 152 46 = 0)) && (decide (g.2.2.2.1 1 1 = 0) && decide (g.2.2.2.1 152 17 = 0))))))) && ((List.range 6).all (fun h => (List.range 6).all (fun k => decide (g.2.2.2.1 (88 + h) k = g.2.2.2.1 153 (6 * h + k)))) && ((List.range 8).all (fun t => (List.range 6).all (fun k => decide (g.2.2.2.1 (5 + t) k = 0))) && ((List.range 6).all (fun h => (List.range 8).all (fun t => decide (g.2.2.2.1 (109 + h) t = g.2.2.2.1 182 (8 * h + t)))) && ((List.range 576).all (fun j => decide (g.2.2.2.1 107 j = 0) && decide (g.2.2.2.1 183 j = 0)) && (List.range 1800).all (fun j => decide (g.2.2.2.1 115 j = g.2.2.2.1 184 j))))))
theorem LK_of {g : AH} {L : Nat} {X : Nat → Int} (h : lkB0 g = true) : LKP (ov L X g) := by
  have e : ∀ a j : Nat, a < 185 → (ov L X g).2.2.2.1 a j = g.2.2.2.1 a j := fun a j ha => by
    show (if a = 1000000 then X else g.2.2.2.1 a : Nat → Int) j = _
    rw [if_neg (by omega)]
  unfold lkB0 at h
  simp only [Bool.and_eq_true, decide_eq_true_eq, List.all_eq_true, List.mem_range] at h
  obtain ⟨⟨⟨⟨a0, c0⟩, ⟨a1, c1⟩, a2, c2⟩, ⟨⟨a3, c3⟩, a4, c4⟩, ⟨a5, c5⟩, ⟨a6, c6⟩, ⟨a7, c7⟩, a8, c8⟩, hS, hT, hC1, hC2, hQ⟩ := h
  unfold LKP LK
  generalize (ov L X g).2.2.2.1 = Y at *
  refine ⟨?_, ?_, ?_, ?_, ?_, ?_, ?_, ?_, ?_, ?_, ?_, ?_, ?_, ?_, ?_, ?_⟩
  · unfold twn; rw [e _ _ (by decide), e _ _ (by decide), a0, c0]
  · unfold twn; rw [e _ _ (by decide), e _ _ (by decide), a1, c1]
  · unfold twn; rw [e _ _ (by decide), e _ _ (by decide), a2, c2]
  · unfold twn; rw [e _ _ (by decide), e _ _ (by decide), a3, c3]
  · unfold twn; rw [e _ _ (by decide), e _ _ (by decide), a4, c4]
  · unfold twn; rw [e _ _ (by decide), e _ _ (by decide), a5, c5]
  · unfold twn; rw [e _ _ (by decide), e _ _ (by decide), a6, c6]
  · unfold twn; rw [e _ _ (by decide), e _ _ (by decide), a7, c7]
  · unfold twn; rw [e _ _ (by decide), e _ _ (by decide), a8, c8]
  · intro j hj
    rw [e 1 1 (by decide), a8] at hj
    omega
  · intro a k ha hk
    rw [e _ _ (by omega), e _ _ (by decide)]
    exact hS a ha k hk
  · refine ⟨fun t _ ht => ?_, fun t k ht hk _ _ => ?_⟩
    · rw [e 3 3 (by decide), a5] at ht
      omega
    · rw [e _ _ (by omega)]
      exact hT t ht k hk
  · intro i hi
    rw [e 17 3 (by decide), a6] at hi
    omega
  · intro i hi
    rw [e 102 3 (by decide), a7] at hi
    omega
  · refine ⟨fun a t ha ht => ?_, fun j hj => ?_⟩
    · rw [e _ _ (by omega), e _ _ (by decide)]
      exact hC1 a ha t ht
    · rw [e _ _ (by decide), e _ _ (by decide), (hC2 j hj).1, (hC2 j hj).2]
      decide
  · intro j hj
    rw [e _ _ (by decide), e _ _ (by decide)]
    exact hQ j hj
set_option maxRecDepth 100000 in
theorem inlF_ok : inlF lkB0 = true := by decide +kernel
