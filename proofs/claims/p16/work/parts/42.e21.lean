/-! the law, 1: from its entry to its loop -/
def refsB (g : AH) : Bool := tR.zipIdx.all (fun p => p.1.zipIdx.all (fun q => decide (q.1 = []) || (g.2.2.2.2.2 p.2 q.2).isSome))
def wB0 (g : AH) : Bool := (List.range 6).all (fun k => decide (g.2.2.2.1 169 k = 0)) && (List.range 6).all (fun h => (List.range 8).all (fun t => decide (g.2.2.2.1 (25 + h) t ≤ g.2.2.2.1 17 3)))
def okG (c : CUT) (g : AH) : Bool := decide (g.1 = 185) && (decide (g.2.1 ≤ 100000) && (refsB g && (wB0 g && (c.2.2.1.all (fun e => decide (e.2.1 = 0) && (decide (e.2.2.1 ≤ g.2.2.2.1 e.1.1 e.1.2) && (decide (g.2.2.2.1 e.1.1 e.1.2 ≤ e.2.2.2.1) && decide (e.1.1 < 185)))) && c.2.2.2.1.all (fun e => decide (g.2.2.2.1 e.1.1 e.1.2 = g.2.2.2.1 e.2.1 e.2.2) && decide (e.1.1 < 185 ∧ e.2.1 < 185))))))
def iniB (c : CUT) : Bool := match evm 20000 999 1 0 (am_ent (mX 1) [.inr (.inr (some 0))]) [] (nwH h00 11 19) with
  | some (none, g1) => decide (g1.1 = 152) && (match evm 20000 999 130 0 (am_ent (mX 130) [.inr (.inr (some 152))]) [] (nwH g1 12 53) with
    | some (none, g2) => okG c g2
    | _ => false)
  | _ => false
def lsH : AL := [some (.inr (.inr (some 1000000))), some (.inr (.inr (some 0))), some (.inr (.inr (some 152))), some (.inl 0)]
theorem inv00 : invH h00 := ⟨fun a h => absurd h (Nat.not_lt_zero _), fun a j h => absurd h (Nat.not_lt_zero _), fun a j => ⟨by show (-9223372036854775808 : Int) ≤ 0; decide, by show (0 : Int) ≤ 9223372036854775807; decide⟩, fun a j i h => absurd h (Nat.not_lt_zero _)⟩
theorem inv_nw {h : AH} {tag n : Nat} (hc : tT.getD h.1 (0, 0) = (tag, n)) (h1 : h.1 < 1000000) (hi : invH h) : invH (nwH h tag n) := by
  have := kI_newo (k := 0) (ls := []) (st := []) hc
  have e : am_newo tag n 0 [] [] h = some (0 + 1, [], [.inr (.inr (some h.1))], nwH h tag n) := by
    show am_g (h.1 < 1000000) _ = _
    unfold am_g
    exact if_pos h1
  exact this _ e hi
theorem sc_nw {h : AH} {tag n : Nat} (h1 : h.1 < 1000000) (hs : SC0 h) : SC0 (nwH h tag n) := by
  refine ⟨?_, h1⟩
  show (up1 h.2.2.1 h.1 (tag, n) 1000000).1 = 0
  unfold up1
  rw [if_neg (by omega)]
  exact hs.1
theorem ov_nw {L : Nat} {X : Nat → Int} {h : AH} {tag n k : Nat} {ls : AL} {st : List AV} (h1 : h.1 < 1000000) : am_newo tag n k ls st (ov L X h) = some (k + 1, ls, .inr (.inr (some h.1)) :: st, ov L X (nwH h tag n)) := by
  have e : am_newo tag n k ls st h = some (k + 1, ls, .inr (.inr (some h.1)) :: st, nwH h tag n) := by
    show am_g (h.1 < 1000000) _ = _
    unfold am_g
    exact if_pos h1
  exact OV_newo _ e
theorem eH_of {c : CUT} {g : AH} (L : Nat) (X : Nat → Int) (hi : invH g) (hg : okG c g = true) : eH (ov L X g) := by
  unfold okG at hg
  simp only [Bool.and_eq_true, decide_eq_true_eq] at hg
  obtain ⟨g1, g2, g3, g4, -⟩ := hg
  have hn : ∀ a, a < nO → a ≠ 1000000 := fun a ha => by have : a < 185 := ha; omega
  refine ⟨g1, fun a ha => ?_, fun a j ha _ => ?_, fun a j _ _ => hi.2.2.1 a j, fun a j ha _ hb => ?_, ⟨fun k hk => ?_, fun h t hh ht => ?_⟩⟩
  · show (if a = 1000000 then _ else g.2.2.1 a) = _
    rw [if_neg (hn a ha)]
    exact hi.1 a (by rw [g1]; exact ha)
  · show _ ≤ (if a = 1000000 then X else g.2.2.2.1 a : Nat → Int) j ∧ (if a = 1000000 then X else g.2.2.2.1 a : Nat → Int) j ≤ _
    rw [if_neg (hn a ha)]
    exact hi.2.1 a j (by rw [g1]; exact ha)
  · show ∃ i ∈ bR a j, g.2.2.2.2.2 a j = some i
    have hs : (g.2.2.2.2.2 a j).isSome = true := by
      unfold bR at hb
      rw [List.getD_eq_getElem?_getD, List.getD_eq_getElem?_getD] at hb
      cases h1 : tR[a]? with
      | none => rw [h1] at hb; exact absurd rfl hb
      | some l =>
        rw [h1] at hb
        dsimp only [Option.getD_some] at hb
        cases h2 : l[j]? with
        | none => rw [h2] at hb; exact absurd rfl hb
        | some c9 =>
          rw [h2] at hb
          have m1 : (l, a) ∈ tR.zipIdx := List.mem_of_getElem? (i := a) (by rw [List.getElem?_zipIdx, h1]; simp)
          have m2 : (c9, j) ∈ l.zipIdx := List.mem_of_getElem? (i := j) (by rw [List.getElem?_zipIdx, h2]; simp)
          have h3 := List.all_eq_true.mp (List.all_eq_true.mp g3 _ m1) _ m2
          rw [Bool.or_eq_true, decide_eq_true_eq] at h3
          rcases h3 with h3 | h3
          · exact absurd h3 hb
          · exact h3
    cases h1 : g.2.2.2.2.2 a j with
    | none => rw [h1] at hs; cases hs
    | some i =>
      rcases hi.2.2.2 a j i (by rw [g1]; exact ha) h1 with h2 | h2
      · exact absurd h2 hb
      · exact ⟨i, h2, rfl⟩
  · intro q hq1 hq2
    unfold wB0 at g4
    simp only [Bool.and_eq_true, List.all_eq_true, List.mem_range, decide_eq_true_eq] at g4
    have h1 : (ov L X g).2.2.2.1 169 k = 0 := (show (if 169 = 1000000 then X else g.2.2.2.1 169 : Nat → Int) k = 0 by rw [if_neg (by decide)]; exact g4.1 k hk)
    rw [h1] at hq2
    omega
  · unfold wB0 at g4
    simp only [Bool.and_eq_true, List.all_eq_true, List.mem_range, decide_eq_true_eq] at g4
    show (if 25 + h = 1000000 then X else g.2.2.2.1 (25 + h) : Nat → Int) t ≤ (if 17 = 1000000 then X else g.2.2.2.1 17 : Nat → Int) 3
    rw [if_neg (by omega), if_neg (by decide)]
    exact g4.2 h hh t ht
theorem cutP_of {c : CUT} {g : AH} {L : Nat} {X : Nat → Int} (hg : okG c g = true) (hl : c.2.1 = [some (2, 1000000, 1000000, [1000000]), some (2, 0, 0, [0]), some (2, 152, 152, [152]), some (0, 0, 3072, [])]) (hf : c.2.2.2.2.1 = []) : cutP c lsH (ov L X g) := by
  unfold okG at hg
  simp only [Bool.and_eq_true, decide_eq_true_eq, List.all_eq_true] at hg
  obtain ⟨g1, g2, g3, g4, g5, g6⟩ := hg
  have hn : ∀ a : Nat, a < 185 → ∀ j, (ov L X g).2.2.2.1 a j = g.2.2.2.1 a j := fun a ha j => by
    show (if a = 1000000 then X else g.2.2.2.1 a : Nat → Int) j = _
    rw [if_neg (by omega)]
  refine ⟨?_, fun e he => ?_, fun e he => ?_, fun e he => by rw [hf] at he; cases he⟩
  · rw [hl]
    exact ⟨⟨rfl, List.mem_singleton.mpr rfl, by decide, by decide⟩, ⟨rfl, List.mem_singleton.mpr rfl, by decide, by decide⟩, ⟨rfl, List.mem_singleton.mpr rfl, by decide, by decide⟩, ⟨rfl, by decide, by decide⟩, trivial⟩
  · obtain ⟨h1, h2, h3, h4⟩ := g5 e he
    exact ⟨.inl (g.2.2.2.1 e.1.1 e.1.2), ⟨h1, h2, h3⟩, hn _ h4 _⟩
  · obtain ⟨h1, h2, h3⟩ := g6 e he
    unfold eqP
    rw [hn _ h2, hn _ h3]
    exact h1
theorem law_init {L : Nat} {X : Nat → Int} {Q : Option AV → AH → Prop} {c : CUT} (hc : iniB c = true) (hl : c.2.1 = [some (2, 1000000, 1000000, [1000000]), some (2, 0, 0, [0]), some (2, 152, 152, [152]), some (0, 0, 3072, [])]) (hf : c.2.2.2.2.1 = []) (hL : L ≤ 3072) (hX : ∀ j, rg32 (X j))
    (go : ∀ g : AH, eH g → scr g → cutP c lsH g → g.1 = 185 → g.2.1 ≤ 100000 → wp codeT mX 1000 0 10 lsH [] g Q) : wp codeT mX 1000 0 0 lwL [] (ov L X h00) Q := by
  unfold iniB at hc
  split at hc
  · rename_i g1 e1
    rw [Bool.and_eq_true, decide_eq_true_eq] at hc
    obtain ⟨n1, hc⟩ := hc
    split at hc
    · rename_i g2 e2
      obtain ⟨r1, i1⟩ := evm_r _ _ _ _ _ _ _ _ e1
      obtain ⟨r2, i2⟩ := evm_r _ _ _ _ _ _ _ _ e2
      have s0 : SC0 h00 := ⟨rfl, by decide⟩
      have s1 : SC0 (nwH h00 11 19) := sc_nw (by decide) s0
      have v1 : invH g1 := i1 (inv_nw (by decide +kernel) (by decide) inv00)
      obtain ⟨o1, t1⟩ := ev_ov L X _ _ _ _ _ _ _ _ _ r1 s1
      have s2 : SC0 (nwH g1 12 53) := sc_nw (by rw [n1]; decide) t1
      have v2 : invH g2 := i2 (inv_nw (by rw [n1]; decide +kernel) (by rw [n1]; decide) v1)
      obtain ⟨o2, t2⟩ := ev_ov L X _ _ _ _ _ _ _ _ _ r2 s2
      have hg := hc
      unfold okG at hg
      simp only [Bool.and_eq_true, decide_eq_true_eq] at hg
      have G := go (ov L X g2) (eH_of L X v2 hc) ⟨rfl, hL, fun j => hX j⟩ (cutP_of hc hl hf) hg.1 hg.2.1
      -- new StarDays
      refine (wp_stp codeT mX (i := .new 7) (z := 0) (ns := [11, 19]) rfl rfl).mpr ?_
      rw [show stp (.new 7) 0 [11, 19] 0 lwL [] (ov L X h00) = _ from ov_nw (L := L) (X := X) (h := h00) (tag := 11) (n := 19) (k := 0) (ls := lwL) (st := []) (by decide)]
      refine (wp_stp codeT mX (i := .dup) (z := 0) (ns := []) rfl rfl).mpr ?_
      refine (wp_call codeT mX (d := 999) (i := .invokespecial 9) (z := 0) (ns := [1, 1, 1, 11]) rfl rfl).mpr ⟨rcv_ov s1 rfl, _, _, _, o1, ?_⟩
      refine ⟨ev_grow codeT mX _ _ _ _ _ _ _ _ _ o1, ?_⟩
      refine (wp_stp codeT mX (i := .astore_n 1) (z := 0) (ns := [1]) rfl rfl).mpr ?_
      -- new StarDaysModel
      refine (wp_stp codeT mX (i := .new 10) (z := 0) (ns := [12, 53]) rfl rfl).mpr ?_
      show nxt codeT mX 1000 0 (stp (.new 10) 0 [12, 53] 4 (am_st1 lwL 1 (.inr (.inr (some 0)))) [] (ov L X g1)) Q
      rw [show stp (.new 10) 0 [12, 53] 4 (am_st1 lwL 1 (.inr (.inr (some 0)))) [] (ov L X g1) = _ from ov_nw (L := L) (X := X) (h := g1) (tag := 12) (n := 53) (k := 4) (ls := am_st1 lwL 1 (.inr (.inr (some 0)))) (st := []) (by rw [n1]; decide), n1]
      refine (wp_stp codeT mX (i := .dup) (z := 0) (ns := []) rfl rfl).mpr ?_
      refine (wp_call codeT mX (d := 999) (i := .invokespecial 12) (z := 0) (ns := [130, 1, 1, 12]) rfl rfl).mpr ⟨rcv_ov s2 ?_, _, _, _, o2, ?_⟩
      · have : (nwH g1 12 53).2.2.1 152 = (12, 53) := by
          show up1 g1.2.2.1 g1.1 (12, 53) 152 = _
          unfold up1
          rw [n1]
          rfl
        unfold am_rcv
        simp only [Bool.and_eq_true, Bool.or_eq_true, decide_eq_true_eq]
        refine ⟨⟨⟨by decide, by decide⟩, by decide⟩, Or.inr ?_⟩
        show (if (1 : Nat) = 2 then _ else _) = true
        rw [if_neg (by decide)]
        simp only [Bool.and_eq_true, decide_eq_true_eq]
        exact ⟨by rw [this]; rfl, by show 152 < g1.1 + 1; omega⟩
      · refine ⟨ev_grow codeT mX _ _ _ _ _ _ _ _ _ o2, ?_⟩
        refine (wp_stp codeT mX (i := .astore_n 2) (z := 0) (ns := [2]) rfl rfl).mpr ?_
        refine (wp_stp codeT mX (i := .iconst 0) (z := 0) (ns := []) rfl rfl).mpr ?_
        refine (wp_stp codeT mX (i := .istore_n 3) (z := 0) (ns := [3]) rfl rfl).mpr ?_
        exact G
    · cases hc
  · cases hc
