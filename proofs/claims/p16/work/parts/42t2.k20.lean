/-! the law by hand, 20: pairs that keep one thing, given another; the book's counts -/
section
variable {L s d mx mm k : Nat} {X : Nat → Int} {P P' P0 P1 P2 : AH → Prop} {lg cmp c1 c2 : Bool}
def prx (L : Nat) (X : Nat → Int) (s : Nat) (P P' : AH → Prop) (d mx mm k : Nat) (lg cmp : Bool) : Prop := ∀ (as : List Int) (g : AH), as.length = k → (∀ z ∈ as, rg32 z) → Inv L X s P g → wpc codeT mX d mx (.inr (.inr (some 0)) :: as.map (fun z => (Sum.inl z : AV))) g (fun v g1 => ∃ a : Int, v = some (ansV lg a) ∧ Inv L X s (fun _ => True) g1 ∧ wpc codeT mX d mm (.inr (.inr (some 152)) :: as.map (fun z => (Sum.inl z : AV))) g1 (fun v2 g2 => ∃ b : Int, v2 = some (ansV lg b) ∧ (cmp = true → a = b) ∧ Inv L X s P' g2))
theorem prx_of (h : pr L X s P d mx mm k lg cmp) : prx L X s P P d mx mm k lg cmp := h
theorem pr_of (h : prx L X s P P d mx mm k lg cmp) : pr L X s P d mx mm k lg cmp := h
theorem Inv_im {g : AH} (h : Inv L X s P g) (hp : P g → P' g) : Inv L X s P' g := ⟨h.1, h.2.1, h.2.2.1, h.2.2.2.1, hp h.2.2.2.2⟩
theorem prx_pre (h : prx L X s P P' d mx mm k lg cmp) (hp : ∀ g, P0 g → P g) : prx L X s P0 P' d mx mm k lg cmp := fun as g hl hr hI => h as g hl hr (Inv_im hI (hp g))
theorem prx_post (h : prx L X s P P' d mx mm k lg cmp) (hp : ∀ g, P' g → P0 g) : prx L X s P P0 d mx mm k lg cmp := fun as g hl hr hI => wpc_mono (h as g hl hr hI) (fun v g1 q => by
  obtain ⟨a, e, i1, w⟩ := q
  exact ⟨a, e, i1, wpc_mono w (fun v2 g2 q2 => by
    obtain ⟨b, e2, c, i2⟩ := q2
    exact ⟨b, e2, c, Inv_im i2 (hp g2)⟩)⟩)
theorem prx_no (h : prx L X s P P' d mx mm k lg cmp) : prx L X s P P' d mx mm k lg false := fun as g hl hr hI => wpc_mono (h as g hl hr hI) (fun v g1 q => by
  obtain ⟨a, e, i1, w⟩ := q
  exact ⟨a, e, i1, wpc_mono w (fun v2 g2 q2 => by
    obtain ⟨b, e2, c, i2⟩ := q2
    exact ⟨b, e2, fun z => (by cases z), i2⟩)⟩)
theorem wpc_and {as : List AV} {h : AH} {Q1 Q2 : Option AV → AH → Prop} (w1 : wpc codeT mX d mx as h Q1) (w2 : wpc codeT mX d mx as h Q2) : wpc codeT mX d mx as h (fun v g => Q1 v g ∧ Q2 v g) := wp_use w1 (wp_mono codeT mX w2 (fun _ _ q2 q1 => ⟨q1, q2⟩))
theorem ansV_in {lg : Bool} {a b : Int} (h : some (ansV lg a) = some (ansV lg b)) : a = b := by
  cases lg with
  | false => cases h; rfl
  | true => cases h; rfl
theorem prx_and (h1 : prx L X s P P1 d mx mm k lg c1) (h2 : prx L X s P P2 d mx mm k lg c2) : prx L X s P (fun g => P1 g ∧ P2 g) d mx mm k lg (c1 || c2) := fun as g hl hr hI => wpc_mono (wpc_and (h1 as g hl hr hI) (h2 as g hl hr hI)) (fun v g1 q => by
  obtain ⟨⟨a, e, i1, w⟩, ⟨a', e', i1', w'⟩⟩ := q
  have ea : a = a' := ansV_in (e.symm.trans e')
  subst ea
  exact ⟨a, e, i1, wpc_mono (wpc_and w w') (fun v2 g2 q2 => by
    obtain ⟨⟨b, e2, c, i2⟩, ⟨b', e2', c', i2'⟩⟩ := q2
    have eb : b = b' := ansV_in (e2.symm.trans e2')
    subst eb
    refine ⟨b, e2, fun z => ?_, i2.1, i2.2.1, i2.2.2.1, i2.2.2.2.1, i2.2.2.2.2, i2'.2.2.2.2⟩
    cases c1 with
    | true => exact c rfl
    | false => exact c' (by cases c2 with
      | true => rfl
      | false => cases z))⟩)
theorem prx_mk {cx cm : CON} {nx nm : Nat} (hL : L ≤ 3072) (hX : ∀ j, rg32 (X j)) (hx : conS cx) (hm : conS cm) (hb : pairB cx cm mx mm k nx nm = true) (hd : 40 ≤ d) (w : ∀ (as : List Int) (g : AH), as.length = k → (∀ z ∈ as, rg32 z) → eH g → scr g → P g → wpc codeT mX d mx (.inr (.inr (some 0)) :: as.map (fun z => (Sum.inl z : AV))) g (fun v g1 => retP cx.2.2.1 v → eH g1 → eM cx.2.2.2.1 g g1 → scr g1 → ∃ a, v = some (ansV lg a) ∧ wpc codeT mX d mm (.inr (.inr (some 152)) :: as.map (fun z => (Sum.inl z : AV))) g1 (fun v2 g2 => retP cm.2.2.1 v2 → eH g2 → eM cm.2.2.2.1 g1 g2 → ∃ b, v2 = some (ansV lg b) ∧ (cmp = true → a = b) ∧ P' g2))) : prx L X s P P' d mx mm k lg cmp := by
  unfold pairB at hb
  simp only [Bool.and_eq_true, decide_eq_true_eq] at hb
  obtain ⟨b1, b2, b3, b4, b5, b6, b7, b8⟩ := hb
  subst b7 b8
  intro as g hl hr hI
  have hs := Inv_scr hL hX hI
  refine con_use hx b1 (Nat.le_trans b5 hd) hl hr hI.1 hs (wpc_mono (w as g hl hr hI.1 hs hI.2.2.2.2) (fun v g1 q r1 r2 r3 => ?_))
  have hI1 : Inv L X s (fun _ => True) g1 := Inv_M b3 hI r3 r2 trivial
  have hs1 := Inv_scr hL hX hI1
  obtain ⟨a, ha, w2⟩ := q r1 r2 r3 hs1
  refine ⟨a, ha, hI1, con_use hm b2 (Nat.le_trans b6 hd) hl hr hI1.1 hs1 (wpc_mono w2 (fun v2 g2 q2 t1 t2 t3 => ?_))⟩
  obtain ⟨b, hb, hc, hP⟩ := q2 t1 t2 t3
  exact ⟨b, hb, hc, Inv_M b4 hI1 t3 t2 hP⟩
/-- what neither call touches -/
theorem prx_fr {cx cm : CON} {nx nm : Nat} {S : MO} {C : (Nat → Nat → Int) → Prop} (hL : L ≤ 3072) (hX : ∀ j, rg32 (X j)) (hx : conS cx) (hm : conS cm) (hb : pairB cx cm mx mm k nx nm = true) (ha : (ansB lg cx && ansB lg cm) = true) (hd : 40 ≤ d) (hC : rdS S C) (hS : (disj cx.2.2.2.1 S && disj cm.2.2.2.1 S) = true) (hp : ∀ g, P g → C g.2.2.2.1) : prx L X s P (fun g => C g.2.2.2.1) d mx mm k lg false := by
  rw [Bool.and_eq_true] at ha hS
  exact prx_pre (prx_of (pr_fr (P := fun g => C g.2.2.2.1) hL hX hx hm hb ha.1 ha.2 hd (fun g g' hM h => rdS_M hC hS.1 hM h) (fun g g' hM h => rdS_M hC hS.2 hM h))) hp
end
/-- the answers' outcomes and what was had -/
def lkR (I : Nat → Nat → Int) : Prop := ∀ i : Nat, (i : Int) < I 17 3 → I 22 i = I 160 i ∧ I 23 i = I 161 i
def sR : MO := [(17, some 3), (22, none), (23, none), (160, none), (161, none)]
theorem lkR_S : rdS sR lkR := by
  intro I I' h e i hi
  rw [h 17 3 rfl] at hi
  rw [h 22 i rfl, h 160 i rfl, h 23 i rfl, h 161 i rfl]
  exact e i hi
/-- the first n answers: how many a head gave in all, its last to a task, those since then -/
def alF (I : Nat → Nat → Int) (h : Int) : Nat → Int
  | 0 => 0
  | n + 1 => alF I h n + (if I 157 n = h then 1 else 0)
def lsF (I : Nat → Nat → Int) (h t : Int) : Nat → Int
  | 0 => -1
  | n + 1 => if I 157 n = h ∧ I 158 n = t then I 159 n else lsF I h t n
def snF (I : Nat → Nat → Int) (h t : Int) : Nat → Int
  | 0 => 0
  | n + 1 => if I 157 n = h then (if I 158 n = t then 0 else snF I h t n + 1) else snF I h t n
theorem mny_of {I I' : Nat → Nat → Int} {h t : Int} : ∀ n : Nat, (∀ i, i < n → I' 157 i = I 157 i ∧ I' 158 i = I 158 i) → mny I' h t n = mny I h t n
  | 0, _ => rfl
  | n + 1, e => by
    obtain ⟨e1, e2⟩ := e n (by omega)
    rw [mny, mny, mny_of n (fun i hi => e i (by omega)), e1, e2]
theorem rgt_of {I I' : Nat → Nat → Int} {h t : Int} : ∀ n : Nat, (∀ i, i < n → I' 157 i = I 157 i ∧ I' 158 i = I 158 i ∧ I' 160 i = I 160 i) → rgt I' h t n = rgt I h t n
  | 0, _ => rfl
  | n + 1, e => by
    obtain ⟨e1, e2, e3⟩ := e n (by omega)
    rw [rgt, rgt, rgt_of n (fun i hi => e i (by omega)), e1, e2, e3]
theorem alF_of {I I' : Nat → Nat → Int} {h : Int} : ∀ n : Nat, (∀ i, i < n → I' 157 i = I 157 i) → alF I' h n = alF I h n
  | 0, _ => rfl
  | n + 1, e => by
    rw [alF, alF, alF_of n (fun i hi => e i (by omega)), e n (by omega)]
theorem lsF_of {I I' : Nat → Nat → Int} {h t : Int} : ∀ n : Nat, (∀ i, i < n → I' 157 i = I 157 i ∧ I' 158 i = I 158 i ∧ I' 159 i = I 159 i) → lsF I' h t n = lsF I h t n
  | 0, _ => rfl
  | n + 1, e => by
    obtain ⟨e1, e2, e3⟩ := e n (by omega)
    rw [lsF, lsF, lsF_of n (fun i hi => e i (by omega)), e1, e2, e3]
theorem snF_of {I I' : Nat → Nat → Int} {h t : Int} : ∀ n : Nat, (∀ i, i < n → I' 157 i = I 157 i ∧ I' 158 i = I 158 i) → snF I' h t n = snF I h t n
  | 0, _ => rfl
  | n + 1, e => by
    obtain ⟨e1, e2⟩ := e n (by omega)
    rw [snF, snF, snF_of n (fun i hi => e i (by omega)), e1, e2]
theorem alF_bd (I : Nat → Nat → Int) (h : Int) : ∀ n : Nat, 0 ≤ alF I h n ∧ alF I h n ≤ n
  | 0 => ⟨Int.le_refl _, Int.le_refl _⟩
  | n + 1 => by
    have := alF_bd I h n
    rw [alF]
    split <;> omega
theorem snF_bd (I : Nat → Nat → Int) (h t : Int) : ∀ n : Nat, 0 ≤ snF I h t n ∧ snF I h t n ≤ n
  | 0 => ⟨Int.le_refl _, Int.le_refl _⟩
  | n + 1 => by
    have := snF_bd I h t n
    rw [snF]
    split
    · split <;> omega
    · omega
/-- the book's counts -/
def lkG (I : Nat → Nat → Int) : Prop := ∀ N : Nat, I 17 3 = N → ∀ h t : Nat, h < 6 → t < 8 → I (25 + h) t = rgt I h t N
def lkP (I : Nat → Nat → Int) : Prop := ∀ N : Nat, I 17 3 = N → ∀ h : Nat, h < 6 → I 39 h = alF I h N ∧ ∀ t : Nat, t < 8 → I (33 + h) t = mny I h t N ∧ (mny I h t N ≠ 0 → I (41 + h) t = lsF I h t N ∧ I (48 + h) t = alF I h N - snF I h t N)
def sG : MO := [(17, some 3), (25, none), (26, none), (27, none), (28, none), (29, none), (30, none), (157, none), (158, none), (160, none)]
def sP : MO := [(17, some 3), (33, none), (34, none), (35, none), (36, none), (37, none), (38, none), (39, none), (41, none), (42, none), (43, none), (44, none), (45, none), (46, none), (48, none), (49, none), (50, none), (51, none), (52, none), (53, none), (157, none), (158, none), (159, none)]
theorem lkG_S : rdS sG lkG := by
  intro I I' h e N hN a t ha ht
  rw [h 17 3 rfl] at hN
  rw [h (25 + a) t (in6 (by decide) ha), rgt_of N (fun i _ => ⟨h 157 i rfl, h 158 i rfl, h 160 i rfl⟩)]
  exact e N hN a t ha ht
theorem lkP_S : rdS sP lkP := by
  intro I I' h e N hN a ha
  rw [h 17 3 rfl] at hN
  obtain ⟨e1, e2⟩ := e N hN a ha
  rw [h 39 a rfl, alF_of N (fun i _ => h 157 i rfl)]
  refine ⟨e1, fun t ht => ?_⟩
  obtain ⟨e3, e4⟩ := e2 t ht
  rw [h (33 + a) t (in6 (by decide) ha), h (41 + a) t (in6 (by decide) ha), h (48 + a) t (in6 (by decide) ha), mny_of N (fun i _ => ⟨h 157 i rfl, h 158 i rfl⟩), lsF_of N (fun i _ => ⟨h 157 i rfl, h 158 i rfl, h 159 i rfl⟩), snF_of N (fun i _ => ⟨h 157 i rfl, h 158 i rfl⟩)]
  exact ⟨e3, e4⟩
/-! an answer more: what both books say then -/
section
variable {I Y : Nat → Nat → Int} {h t n : Nat} {day right had : Int}
theorem ad_cols (hY : ∀ a j, 157 ≤ a → a ≤ 161 → Y a j = I a j) {i : Nat} (hi : i < n) {r2 h2 : Int} : adR Y h t n day r2 h2 157 i = I 157 i ∧ adR Y h t n day r2 h2 158 i = I 158 i ∧ adR Y h t n day r2 h2 159 i = I 159 i ∧ adR Y h t n day r2 h2 160 i = I 160 i ∧ adR Y h t n day r2 h2 161 i = I 161 i := by
  rw [adR_o (by omega), adR_o (by omega), adR_o (by omega), adR_o (by omega), adR_o (by omega), hY _ _ (by omega) (by omega), hY _ _ (by omega) (by omega), hY _ _ (by omega) (by omega), hY _ _ (by omega) (by omega), hY _ _ (by omega) (by omega)]
  exact ⟨rfl, rfl, rfl, rfl, rfl⟩
theorem lkR_ad (h6 : h < 6) (hn : I 17 3 = n) (hY : ∀ a j, 157 ≤ a → a ≤ 161 → Y a j = I a j) (hX : ∀ a j, (a = 17 ∧ j = 3 ∨ 19 ≤ a ∧ a ≤ 53) → Y a j = adX I h t n day right had a j) (hb : lkR I) : lkR (adR Y h t n day right had) := by
  intro i hi
  have e1 : adR Y h t n day right had 17 3 = ((n + 1 : Nat) : Int) := by rw [adR_o (by omega), hX 17 3 (by omega), adX_3]
  rw [e1] at hi
  have e2 : ∀ a, (a = 22 ∨ a = 23) → adR Y h t n day right had a i = adX I h t n day right had a i := fun a ha => by rw [adR_o (by omega), hX a i (by omega)]
  rw [e2 22 (by omega), e2 23 (by omega)]
  by_cases he : i = n
  · subst he
    rw [adX_r h6, adX_k h6, adR_r, adR_k]
    exact ⟨rfl, rfl⟩
  · obtain ⟨c1, c2, c3, c4, c5⟩ := ad_cols (h := h) (t := t) (n := n) (day := day) (r2 := right) (h2 := had) hY (show i < n by omega)
    rw [c4, c5]
    have f : ∀ a, (a = 22 ∨ a = 23) → adX I h t n day right had a i = I a i := by
      intro a ha
      unfold adX
      rw [up2_na (by omega), up2_na (by omega), up2_na (by omega), up2_na (by omega), up2_na (by omega), up2_na (by omega)]
      rw [up2_ne _ _ (by omega), up2_ne _ _ (by omega), up2_na (by omega), up2_na (by omega), up2_na (by omega)]
    rw [f 22 (by omega), f 23 (by omega)]
    exact hb i (by omega)
theorem adX_25 (h6 : h < 6) {a j : Nat} (ha : a < 6) : adX I h t n day right had (25 + a) j = if a = h ∧ j = t then w32 (I (25 + h) t + right) else I (25 + a) j := by
  unfold adX
  rw [up2_na (by omega), up2_na (by omega), up2_na (by omega), up2_na (by omega), up2_na (by omega)]
  by_cases e : a = h ∧ j = t
  · rw [if_pos e, e.1, e.2, up2_same]
  · rw [if_neg e, up2_ne _ _ (by omega), up2_na (by omega), up2_na (by omega), up2_na (by omega), up2_na (by omega), up2_na (by omega)]
theorem adX_33 (h6 : h < 6) {a j : Nat} (ha : a < 6) : adX I h t n day right had (33 + a) j = if a = h ∧ j = t then w32 (I (33 + h) t + 1) else I (33 + a) j := by
  unfold adX
  rw [up2_na (by omega), up2_na (by omega), up2_na (by omega), up2_na (by omega)]
  by_cases e : a = h ∧ j = t
  · rw [if_pos e, e.1, e.2, up2_same]
  · rw [if_neg e, up2_ne _ _ (by omega), up2_na (by omega), up2_na (by omega), up2_na (by omega), up2_na (by omega), up2_na (by omega), up2_na (by omega)]
theorem adX_39 (h6 : h < 6) {a : Nat} : adX I h t n day right had 39 a = if a = h then w32 (I 39 h + 1) else I 39 a := by
  unfold adX
  rw [up2_na (by omega), up2_na (by omega), up2_na (by omega)]
  by_cases e : a = h
  · rw [if_pos e, e, up2_same]
  · rw [if_neg e, up2_nj e, up2_na (by omega), up2_na (by omega), up2_na (by omega), up2_na (by omega), up2_na (by omega), up2_na (by omega), up2_na (by omega)]
theorem adX_41 (h6 : h < 6) {a j : Nat} (ha : a < 6) : adX I h t n day right had (41 + a) j = if a = h ∧ j = t then day else I (41 + a) j := by
  unfold adX
  rw [up2_na (by omega), up2_na (by omega)]
  by_cases e : a = h ∧ j = t
  · rw [if_pos e, e.1, e.2, up2_same]
  · rw [if_neg e, up2_ne _ _ (by omega), up2_na (by omega), up2_na (by omega), up2_na (by omega), up2_na (by omega), up2_na (by omega), up2_na (by omega), up2_na (by omega), up2_na (by omega)]
theorem adX_48 (h6 : h < 6) {a j : Nat} (ha : a < 6) : adX I h t n day right had (48 + a) j = if a = h ∧ j = t then w32 (I 39 h + 1) else I (48 + a) j := by
  unfold adX
  rw [up2_na (by omega)]
  by_cases e : a = h ∧ j = t
  · rw [if_pos e, e.1, e.2, up2_same]
  · rw [if_neg e, up2_ne _ _ (by omega), up2_na (by omega), up2_na (by omega), up2_na (by omega), up2_na (by omega), up2_na (by omega), up2_na (by omega), up2_na (by omega), up2_na (by omega), up2_na (by omega)]
theorem lkG_ad (h6 : h < 6) (hn : I 17 3 = n) (n2 : n < 200) (hr : 0 ≤ right ∧ right ≤ 1) (hI : ∀ j, j < n → 0 ≤ I 160 j ∧ I 160 j ≤ 1) (hY : ∀ a j, 157 ≤ a → a ≤ 161 → Y a j = I a j) (hX : ∀ a j, (a = 17 ∧ j = 3 ∨ 19 ≤ a ∧ a ≤ 53) → Y a j = adX I h t n day right had a j) (hb : lkG I) : lkG (adR Y h t n day right had) := by
  intro N hN a j ha hj
  have e1 : adR Y h t n day right had 17 3 = ((n + 1 : Nat) : Int) := by rw [adR_o (by omega), hX 17 3 (by omega), adX_3]
  rw [e1] at hN
  have hN : N = n + 1 := by omega
  subst hN
  have c := fun i (hi : i < n) => ad_cols (h := h) (t := t) (n := n) (day := day) (r2 := right) (h2 := had) hY hi
  rw [adR_o (by omega), hX _ _ (by omega), adX_25 h6 ha, rgt, rgt_of (I := I) n (fun i hi => ⟨(c i hi).1, (c i hi).2.1, (c i hi).2.2.2.1⟩), adR_h, adR_t, adR_r]
  have g := hb n hn a j ha hj
  have b1 := rgt_bd (I := I) (N := n) hI a j n (Nat.le_refl _)
  have b2 := mny_bd I a j n
  by_cases e : a = h ∧ j = t
  · rw [if_pos e, if_pos (by omega), ← e.1, ← e.2, g, w32_eq (by omega) (by omega)]
  · rw [if_neg e, if_neg (by omega), g, Int.add_zero]
theorem lkP_ad (h6 : h < 6) (hn : I 17 3 = n) (n2 : n < 200) (hY : ∀ a j, 157 ≤ a → a ≤ 161 → Y a j = I a j) (hX : ∀ a j, (a = 17 ∧ j = 3 ∨ 19 ≤ a ∧ a ≤ 53) → Y a j = adX I h t n day right had a j) (hb : lkP I) : lkP (adR Y h t n day right had) := by
  intro N hN a ha
  have e1 : adR Y h t n day right had 17 3 = ((n + 1 : Nat) : Int) := by rw [adR_o (by omega), hX 17 3 (by omega), adX_3]
  rw [e1] at hN
  have hN : N = n + 1 := by omega
  subst hN
  have c := fun i (hi : i < n) => ad_cols (h := h) (t := t) (n := n) (day := day) (r2 := right) (h2 := had) hY hi
  obtain ⟨g1, g2⟩ := hb n hn a ha
  have b1 := alF_bd I a n
  have ea : adR Y h t n day right had 39 a = alF I a n + (if (h : Int) = (a : Int) then 1 else 0) := by
    rw [adR_o (by omega), hX _ _ (by omega), adX_39 h6]
    by_cases e : a = h
    · rw [if_pos e, if_pos (by omega), ← e, g1, w32_eq (by omega) (by omega)]
    · rw [if_neg e, if_neg (by omega), g1, Int.add_zero]
  have eal : alF (adR Y h t n day right had) a (n + 1) = alF I a n + (if (h : Int) = (a : Int) then 1 else 0) := by
    rw [alF, alF_of (I := I) n (fun i hi => (c i hi).1), adR_h]
  refine ⟨ea.trans eal.symm, fun j hj => ?_⟩
  obtain ⟨g3, g4⟩ := g2 j hj
  have b2 := mny_bd I a j n
  have b3 := snF_bd I a j n
  have em : mny (adR Y h t n day right had) a j (n + 1) = mny I a j n + (if (h : Int) = (a : Int) ∧ (t : Int) = (j : Int) then 1 else 0) := by
    rw [mny, mny_of (I := I) n (fun i hi => ⟨(c i hi).1, (c i hi).2.1⟩), adR_h, adR_t]
  have el : lsF (adR Y h t n day right had) a j (n + 1) = if (h : Int) = (a : Int) ∧ (t : Int) = (j : Int) then day else lsF I a j n := by
    rw [lsF, lsF_of (I := I) n (fun i hi => ⟨(c i hi).1, (c i hi).2.1, (c i hi).2.2.1⟩), adR_h, adR_t, adR_d]
  have es : snF (adR Y h t n day right had) a j (n + 1) = if (h : Int) = (a : Int) then (if (t : Int) = (j : Int) then 0 else snF I a j n + 1) else snF I a j n := by
    rw [snF, snF_of (I := I) n (fun i hi => ⟨(c i hi).1, (c i hi).2.1⟩), adR_h, adR_t]
  rw [em, el, es, eal, adR_o (by omega), adR_o (by omega), adR_o (by omega), hX _ _ (by omega), hX _ _ (by omega), hX _ _ (by omega), adX_33 h6 ha, adX_41 h6 ha, adX_48 h6 ha]
  by_cases e : a = h
  · by_cases e2 : j = t
    · subst e e2
      rw [if_pos ⟨rfl, rfl⟩, if_pos ⟨rfl, rfl⟩, if_pos ⟨rfl, rfl⟩, if_pos ⟨rfl, rfl⟩, if_pos ⟨rfl, rfl⟩, if_pos rfl, if_pos rfl, if_pos rfl, g3, g1, w32_eq (by omega) (by omega), w32_eq (by omega) (by omega)]
      exact ⟨rfl, fun _ => ⟨rfl, by omega⟩⟩
    · subst e
      have x1 : ¬ (a = a ∧ j = t) := fun z => e2 z.2
      have x2 : ¬ ((a : Int) = (a : Int) ∧ (t : Int) = (j : Int)) := by omega
      have x3 : ¬ (t : Int) = (j : Int) := by omega
      rw [if_neg x1, if_neg x2, if_neg x1, if_neg x2, if_neg x1, if_pos rfl, if_pos rfl, if_neg x3, Int.add_zero]
      refine ⟨g3, fun q => ?_⟩
      obtain ⟨q1, q2⟩ := g4 q
      exact ⟨q1, by rw [q2]; omega⟩
  · have x1 : ¬ (a = h ∧ j = t) := fun z => e z.1
    have x2 : ¬ ((h : Int) = (a : Int) ∧ (t : Int) = (j : Int)) := by omega
    have x3 : ¬ (h : Int) = (a : Int) := by omega
    rw [if_neg x1, if_neg x2, if_neg x1, if_neg x2, if_neg x1, if_neg x3, if_neg x3, Int.add_zero, Int.add_zero]
    exact ⟨g3, g4⟩
end
