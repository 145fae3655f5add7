/-! the law's two readers, 20: all of the likeness, pair by pair -/
def sRG0 : MO := [(17, some 3), (22, none), (23, none), (160, none), (161, none), (25, none), (26, none), (27, none), (28, none), (29, none), (30, none), (157, none), (158, none), (33, none), (34, none), (35, none), (36, none), (37, none), (38, none), (39, none), (41, none), (42, none), (43, none), (44, none), (45, none), (46, none), (48, none), (49, none), (50, none), (51, none), (52, none), (53, none), (159, none)]
def sRG : MO := sRG0 ++ sU
theorem LRG_S : rdS sRG0 (fun I => lkR I ∧ lkG I ∧ lkP I) := fun I I' h e => ⟨rdS_sub lkR_S (by decide +kernel) I I' h e.1, rdS_sub lkG_S (by decide +kernel) I I' h e.2.1, rdS_sub lkP_S (by decide +kernel) I I' h e.2.2⟩
theorem LRG2_S : rdS sRG (fun I => (lkR I ∧ lkG I ∧ lkP I) ∧ lkU I) := fun I I' h e => ⟨rdS_sub LRG_S (by decide +kernel) I I' h e.1, rdS_sub lkU_S (by decide +kernel) I I' h e.2⟩
section
variable {L s d mx mm k nx nm : Nat} {X : Nat → Int} {lg cmp : Bool} {cx cm : CON}
theorem pl_K (h : pr L X s LKP d mx mm k lg cmp) : prx L X s LAL LKP d mx mm k lg cmp := prx_pre (prx_of h) (fun _ h => h.1)
theorem pl_W (h : pr L X s LKW d mx mm k lg false) : prx L X s LAL LKW d mx mm k lg false := prx_pre (prx_of h) (fun _ h => h.2.2)
/-- all but law, told, does and share leave the book's counts, the shares and the laws -/
theorem pl_fr (hL : L ≤ 3072) (hX : ∀ j, rg32 (X j)) (hx : conS cx) (hm : conS cm) (hb : pairB cx cm mx mm k nx nm = true) (ha : (ansB lg cx && ansB lg cm) = true) (hd : 40 ≤ d) (hS : (disj cx.2.2.2.1 sRG && disj cm.2.2.2.1 sRG) = true) (hS2 : (disj cx.2.2.2.1 sW && disj cm.2.2.2.1 sW) = true) (h0 : prx L X s LAL LKP d mx mm k lg cmp) : pr L X s LAL d mx mm k lg cmp := by
  have h1 : prx L X s LAL LRG2 d mx mm k lg false := prx_fr hL hX hx hm hb ha hd LRG2_S hS (fun g h => h.2.1)
  have h2 : prx L X s LAL LKW d mx mm k lg false := pl_W (pr_W hL hX hx hm hb ha hd hS2)
  have := prx_and h0 (prx_and h1 h2)
  rw [Bool.or_false, Bool.or_false] at this
  exact this
/-- share -/
theorem pl_share (hL : L ≤ 3072) (hX : ∀ j, rg32 (X j)) (hd : 40 ≤ d) : pr L X s LAL d 15 133 3 false false := by
  have hx := cn_all 2 (by decide) cn2 rfl
  have hm := cn_all 136 (by decide) cn136 rfl
  have h1 : prx L X s LAL LRG d 15 133 3 false false := prx_fr (cx := cn2) (cm := cn136) (nx := 0) (nm := 0) hL hX hx hm rfl rfl hd LRG_S (by decide +kernel) (fun g h => h.2.1.1)
  have h2 : prx L X s LAL (fun g => lkU g.2.2.2.1) d 15 133 3 false false := px_share hL hX hd (fun g h => ⟨h.1, h.2.1.2⟩)
  have h3 : prx L X s LAL LKW d 15 133 3 false false := pl_W (pr_W (cx := cn2) (cm := cn136) (nx := 0) (nm := 0) hL hX hx hm rfl rfl hd (by decide +kernel))
  exact prx_and (pl_K (pr_share (cmp := false) hL hX hd)) (prx_and (prx_and h1 h2) h3)
/-- told -/
theorem pl_told (hL : L ≤ 3072) (hX : ∀ j, rg32 (X j)) (hd : 40 ≤ d) : pr L X s LAL d 73 174 4 false false := by
  have hx := cn_all 83 (by decide) cn83 rfl
  have hm := cn_all 146 (by decide) cn146 rfl
  have h1 : prx L X s LAL LRG d 73 174 4 false false := px_told hL hX hd (fun g h => ⟨h.1, h.2.1.1⟩)
  have h2 : prx L X s LAL (fun g => lkU g.2.2.2.1) d 73 174 4 false false := prx_fr (cx := cn83) (cm := cn146) (nx := 0) (nm := 0) hL hX hx hm rfl rfl hd lkU_S (by decide +kernel) (fun g h => h.2.1.2)
  have h3 : prx L X s LAL LKW d 73 174 4 false false := pl_W (pr_W (cx := cn83) (cm := cn146) (nx := 0) (nm := 0) hL hX hx hm rfl rfl hd (by decide +kernel))
  exact prx_and (pl_K (pr_told (cmp := false) hL hX hd)) (prx_and (prx_and h1 h2) h3)
/-- does: its answer, too -/
theorem pl_does (hL : L ≤ 3072) (hX : ∀ j, rg32 (X j)) (hd : 40 ≤ d) : pr L X s LAL d 66 170 2 false true := by
  have hx := cn_all 82 (by decide) cn82 rfl
  have hm := cn_all 145 (by decide) cn145 rfl
  have h1 : prx L X s LAL LRG d 66 170 2 false true := px_does hL hX hd (fun g h => h)
  have h2 : prx L X s LAL (fun g => lkU g.2.2.2.1) d 66 170 2 false false := prx_fr (cx := cn82) (cm := cn145) (nx := 2) (nm := 1) hL hX hx hm rfl rfl hd lkU_S (by decide +kernel) (fun g h => h.2.1.2)
  have h3 : prx L X s LAL LKW d 66 170 2 false false := pl_W (pr_W (cx := cn82) (cm := cn145) (nx := 2) (nm := 1) hL hX hx hm rfl rfl hd (by decide +kernel))
  exact prx_and (pl_K (pr_does hL hX hd)) (prx_and (prx_and h1 h2) h3)
/-- law -/
theorem pl_law (hL : L ≤ 3072) (hX : ∀ j, rg32 (X j)) (hd : 48 ≤ d) : pr L X s LAL d 26 142 2 false true := by
  have hx := cn_all 73 (by decide) cn73 rfl
  have hm := cn_all 178 (by decide) cn178 rfl
  have hd4 : 40 ≤ d := Nat.le_trans (by decide) hd
  have h1 : prx L X s LAL LRG2 d 26 142 2 false false := prx_fr (cx := cn73) (cm := cn178) (nx := 2) (nm := 3) hL hX hx hm rfl rfl hd4 LRG2_S (by decide +kernel) (fun g h => h.2.1)
  have h2 : prx L X s LAL LKW d 26 142 2 false false := prx_pre (prx_lawW hL hX hd) (fun g h => ⟨h.1, h.2.2⟩)
  exact prx_and (pl_K (pr_law9 hL hX hd)) (prx_and h1 h2)
theorem pl_no (h : pr L X s LAL d mx mm k lg cmp) : pr L X s LAL d mx mm k lg false := prx_no h
end
/-- behind the constructors -/
def lrgB0 (g : AH) : Bool := decide (g.2.2.2.1 17 3 = 0) && (List.range 6).all (fun h => decide (g.2.2.2.1 39 h = 0) && ((List.range 8).all (fun t => decide (g.2.2.2.1 (25 + h) t = 0) && decide (g.2.2.2.1 (33 + h) t = 0)) && (List.range 6).all (fun k => decide (g.2.2.2.1 (88 + h) k = 100))))
theorem LRG2_0 {g : AH} {L : Nat} {X : Nat → Int} (h : lrgB0 g = true) : LRG2 (ov L X g) := by
  have e : ∀ a j : Nat, a < 185 → (ov L X g).2.2.2.1 a j = g.2.2.2.1 a j := fun a j ha => by
    show (if a = 1000000 then X else g.2.2.2.1 a : Nat → Int) j = _
    rw [if_neg (by omega)]
  unfold lrgB0 at h
  simp only [Bool.and_eq_true, decide_eq_true_eq, List.all_eq_true, List.mem_range] at h
  obtain ⟨h1, h2⟩ := h
  have e17 : (ov L X g).2.2.2.1 17 3 = 0 := (e 17 3 (by decide)).trans h1
  refine ⟨⟨fun i hi => ?_, fun N hN a t ha ht => ?_, fun N hN a ha => ?_⟩, fun a k ha hk => ?_⟩
  · rw [e17] at hi
    omega
  · rw [e17] at hN
    have hN : N = 0 := by omega
    subst hN
    rw [e _ _ (by omega), ((h2 a ha).2.1 t ht).1]
    rfl
  · rw [e17] at hN
    have hN : N = 0 := by omega
    subst hN
    rw [e _ _ (by decide), (h2 a ha).1]
    refine ⟨rfl, fun t ht => ?_⟩
    rw [e _ _ (by omega), ((h2 a ha).2.1 t ht).2]
    exact ⟨rfl, fun z => absurd rfl z⟩
  · rw [e _ _ (by omega), (h2 a ha).2.2 k hk]
    decide
def lalB0 (g : AH) : Bool := lkB0 g && (lrgB0 g && lkwB0 g)
theorem LAL_0 {g : AH} {L : Nat} {X : Nat → Int} (h : lalB0 g = true) : LAL (ov L X g) := by
  unfold lalB0 at h
  rw [Bool.and_eq_true, Bool.and_eq_true] at h
  exact ⟨LK_of h.1, LRG2_0 h.2.1, LKW_0 h.2.2⟩
set_option maxRecDepth 100000 in
theorem inlF_al : inlF lalB0 = true := by decide +kernel
