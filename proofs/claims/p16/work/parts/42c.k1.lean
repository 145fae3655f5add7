/-! the law by hand, 1: contracts, frames, pairs of calls -/
theorem wp_use {d m k : Nat} {ls : AL} {st : List AV} {h : AH} {Q1 Q2 : Option AV → AH → Prop} (w : wp codeT mX d m k ls st h Q1) (w2 : wp codeT mX d m k ls st h (fun v g => Q1 v g → Q2 v g)) : wp codeT mX d m k ls st h Q2 := by
  obtain ⟨n, v, g, e, q⟩ := w
  obtain ⟨n2, v2, g2, e2, q2⟩ := w2
  have h1 := ev_mono codeT mX _ _ _ _ _ _ _ _ e (max n n2) (Nat.le_max_left _ _)
  have h2 := ev_mono codeT mX _ _ _ _ _ _ _ _ e2 (max n n2) (Nat.le_max_right _ _)
  rw [h1] at h2
  cases h2
  exact ⟨n, _, _, e, q2 q⟩
theorem wpc_mono {d m : Nat} {as : List AV} {h : AH} {Q1 Q2 : Option AV → AH → Prop} (w : wpc codeT mX d m as h Q1) (hq : ∀ v g, Q1 v g → Q2 v g) : wpc codeT mX d m as h Q2 := wp_mono codeT mX w hq
/-- a contract that takes any k numbers, on object r; n further locals -/
def entB (c : CON) (r k n : Nat) : Bool := decide (c.2.1.2.1 = some (2, (r : Int), (r : Int), [r]) :: (List.replicate k (some (0, -2147483648, 2147483647, [])) ++ List.replicate n none)) && (c.2.1.2.2.1.isEmpty && (c.2.1.2.2.2.1.isEmpty && (c.2.1.2.2.2.2.1.isEmpty && decide (mX c.1 = 1 + (k + n)))))
theorem ent_i : ∀ (as : List Int) (n : Nat), am_ent (as.length + n) (as.map (fun z => (Sum.inl z : AV))) = as.map (fun z => some (Sum.inl z : AV)) ++ List.replicate n none
  | [], 0 => rfl
  | [], n + 1 => by
    have := ent_i [] n
    rw [show ([] : List Int).length + (n + 1) = ([].length + n) + 1 from rfl, List.map_nil, am_ent, ← List.map_nil (f := fun z => (Sum.inl z : AV)), this]
    rfl
  | a :: as, n => by
    have := ent_i as n
    rw [show (a :: as).length + n = (as.length + n) + 1 by rw [List.length_cons]; omega]
    show some (Sum.inl a) :: am_ent (as.length + n) (as.map (fun z => (Sum.inl z : AV))) = _
    rw [this]
    rfl
theorem ent_z : ∀ (as : List Int) (n : Nat), (∀ z ∈ as, rg32 z) → rZ pL (List.replicate as.length (some ((0, -2147483648, 2147483647, []) : EP)) ++ List.replicate n none) (as.map (fun z => some (Sum.inl z : AV)) ++ List.replicate n none)
  | [], 0, _ => trivial
  | [], n + 1, h => ⟨trivial, ent_z [] n h⟩
  | a :: as, n, h => ⟨⟨rfl, (h a (List.mem_cons_self ..)).1, by have := (h a (List.mem_cons_self ..)).2; show a ≤ 2147483647; omega⟩, ent_z as n (fun z hz => h z (List.mem_cons_of_mem _ hz))⟩
theorem ent_r {c : CON} {r k n : Nat} (h : entB c r k n = true) {as : List Int} (hl : as.length = k) (hr : ∀ z ∈ as, rg32 z) (g : AH) : cutP c.2.1 (am_ent (mX c.1) (.inr (.inr (some r)) :: as.map (fun z => (Sum.inl z : AV)))) g := by
  unfold entB at h
  rw [Bool.and_eq_true, Bool.and_eq_true, Bool.and_eq_true, Bool.and_eq_true, decide_eq_true_eq, decide_eq_true_eq] at h
  obtain ⟨h1, e1, e2, e3, h2⟩ := h
  have e1 := List.isEmpty_iff.mp e1
  have e2 := List.isEmpty_iff.mp e2
  have e3 := List.isEmpty_iff.mp e3
  subst hl
  unfold cutP
  rw [h1, h2, e1, e2, e3, show 1 + (as.length + n) = (as.length + n) + 1 by omega]
  refine ⟨?_, fun e he => (List.not_mem_nil he).elim, fun e he => (List.not_mem_nil he).elim, fun e he => (List.not_mem_nil he).elim⟩
  show rZ pL _ (some (Sum.inr (Sum.inr (some r))) :: am_ent (as.length + n) (as.map (fun z => (Sum.inl z : AV))))
  rw [ent_i]
  exact ⟨⟨rfl, List.mem_singleton.mpr rfl, Int.le_refl _, Int.le_refl _⟩, ent_z as n hr⟩
/-- a call by contract, with what an exact walk tells besides -/
theorem con_use {C : CON} {r k n : Nat} (hC : conS C) (he : entB C r k n = true) {d : Nat} (hd : C.2.2.2.2.1 ≤ d) {as : List Int} {g : AH} {Q : Option AV → AH → Prop} (hl : as.length = k) (hr : ∀ z ∈ as, rg32 z) (hH : eH g) (hs : scr g) (w : wpc codeT mX d C.1 (.inr (.inr (some r)) :: as.map (fun z => (Sum.inl z : AV))) g (fun v g1 => retP C.2.2.1 v → eH g1 → eM C.2.2.2.1 g g1 → Q v g1)) : wpc codeT mX d C.1 (.inr (.inr (some r)) :: as.map (fun z => (Sum.inl z : AV))) g Q := wp_use (hC g _ hH hs (ent_r he hl hr g) d hd) (wp_mono codeT mX w (fun v h q z => q z.1 z.2.1 z.2.2))
theorem con_only {C : CON} {r k n : Nat} (hC : conS C) (he : entB C r k n = true) {d : Nat} (hd : C.2.2.2.2.1 ≤ d) {as : List Int} {g : AH} {Q : Option AV → AH → Prop} (hl : as.length = k) (hr : ∀ z ∈ as, rg32 z) (hH : eH g) (hs : scr g) (hQ : ∀ v g1, retP C.2.2.1 v → eH g1 → eM C.2.2.2.1 g g1 → Q v g1) : wpc codeT mX d C.1 (.inr (.inr (some r)) :: as.map (fun z => (Sum.inl z : AV))) g Q := wp_mono codeT mX (hC g _ hH hs (ent_r he hl hr g) d hd) (fun v h z => hQ v h z.1 z.2.1 z.2.2)
/-- an answer: false: an int, true: a long -/
def ansV : Bool → Int → AV
  | false, a => .inl a
  | true, a => .inr (.inl a)
def ansB (lg : Bool) (c : CON) : Bool := match c.2.2.1 with
  | some p => decide (p.1 = if lg then 1 else 0)
  | none => false
theorem ansB_r {lg : Bool} {c : CON} (h : ansB lg c = true) {v : Option AV} (hr : retP c.2.2.1 v) : ∃ a, v = some (ansV lg a) := by
  unfold ansB at h
  cases hp : c.2.2.1 with
  | none => rw [hp] at h; cases h
  | some p =>
    rw [hp] at h hr
    have h : p.1 = if lg = true then 1 else 0 := of_decide_eq_true h
    match v, hr with
    | some (.inl z), hr =>
      cases lg with
      | false => exact ⟨z, rfl⟩
      | true => exact absurd (h.symm.trans hr.1) (by decide)
    | some (.inr (.inl z)), hr =>
      cases lg with
      | false => exact absurd (h.symm.trans hr.1) (by decide)
      | true => exact ⟨z, rfl⟩
    | some (.inr (.inr (some z))), hr =>
      cases lg with
      | false => exact absurd (h.symm.trans hr.1) (by decide)
      | true => exact absurd (h.symm.trans hr.1) (by decide)
/-- what the law's loop keeps: the heap as the engine has it, the script, and a likeness -/
def Inv (L : Nat) (X : Nat → Int) (s : Nat) (P : AH → Prop) (g : AH) : Prop := eH g ∧ g.2.1 = s ∧ g.2.2.1 1000000 = (100, L) ∧ g.2.2.2.1 1000000 = X ∧ P g
section
variable {L s : Nat} {X : Nat → Int} {P P' : AH → Prop} {g g' : AH}
theorem Inv_scr (hL : L ≤ 3072) (hX : ∀ j, rg32 (X j)) (h : Inv L X s P g) : scr g := ⟨by rw [h.2.2.1], by rw [h.2.2.1]; exact hL, fun j => by rw [h.2.2.2.1]; exact hX j⟩
theorem Inv_M {M : MO} (hi : idsM M = true) (h : Inv L X s P g) (hM : eM M g g') (hH : eH g') (hP : P' g') : Inv L X s P' g' := ⟨hH, hM.2.1.trans h.2.1, by rw [hM.2.2.1]; exact h.2.2.1, by
  funext j
  rw [(hM.2.2.2 _ j (idsM_r hi)).1, h.2.2.2.1], hP⟩
/-- a pair of calls keeps it (and, where that is compared, answers the same) -/
def pr (L : Nat) (X : Nat → Int) (s : Nat) (P : AH → Prop) (d mx mm k : Nat) (lg cmp : Bool) : Prop := ∀ (as : List Int) (g : AH), as.length = k → (∀ z ∈ as, rg32 z) → Inv L X s P g → wpc codeT mX d mx (.inr (.inr (some 0)) :: as.map (fun z => (Sum.inl z : AV))) g (fun v g1 => ∃ a : Int, v = some (ansV lg a) ∧ Inv L X s (fun _ => True) g1 ∧ wpc codeT mX d mm (.inr (.inr (some 152)) :: as.map (fun z => (Sum.inl z : AV))) g1 (fun v2 g2 => ∃ b : Int, v2 = some (ansV lg b) ∧ (cmp = true → a = b) ∧ Inv L X s P g2))
def pairB (cx cm : CON) (mx mm k nx nm : Nat) : Bool := entB cx 0 k nx && (entB cm 152 k nm && (idsM cx.2.2.2.1 && (idsM cm.2.2.2.1 && (decide (cx.2.2.2.2.1 ≤ 40) && (decide (cm.2.2.2.2.1 ≤ 40) && (decide (cx.1 = mx) && decide (cm.1 = mm)))))))
theorem pr_mk {cx cm : CON} {mx mm k nx nm d : Nat} {lg cmp : Bool} (hL : L ≤ 3072) (hX : ∀ j, rg32 (X j)) (hx : conS cx) (hm : conS cm) (hb : pairB cx cm mx mm k nx nm = true) (hd : 40 ≤ d) (w : ∀ (as : List Int) (g : AH), as.length = k → (∀ z ∈ as, rg32 z) → eH g → scr g → P g → wpc codeT mX d mx (.inr (.inr (some 0)) :: as.map (fun z => (Sum.inl z : AV))) g (fun v g1 => retP cx.2.2.1 v → eH g1 → eM cx.2.2.2.1 g g1 → scr g1 → ∃ a, v = some (ansV lg a) ∧ wpc codeT mX d mm (.inr (.inr (some 152)) :: as.map (fun z => (Sum.inl z : AV))) g1 (fun v2 g2 => retP cm.2.2.1 v2 → eH g2 → eM cm.2.2.2.1 g1 g2 → ∃ b, v2 = some (ansV lg b) ∧ (cmp = true → a = b) ∧ P g2))) : pr L X s P d mx mm k lg cmp := by
  unfold pairB at hb
  simp only [Bool.and_eq_true, decide_eq_true_eq] at hb
  obtain ⟨b1, b2, b3, b4, b5, b6, b7, b8⟩ := hb
  subst b7 b8
  intro as g hl hr hI
  have hs := Inv_scr hL hX hI
  refine con_use hx b1 (Nat.le_trans b5 hd) hl hr hI.1 hs (wpc_mono (w as g hl hr hI.1 hs hI.2.2.2.2) (fun v g1 q r1 r2 r3 => ?_))
  have hI1 : Inv L X s (fun _ => True) g1 := Inv_M b3 hI r3 r2 trivial
  have hs1 := Inv_scr hL hX hI1
  obtain ⟨a, ha, w2⟩ := q r1 r2 r3 hs1
  refine ⟨a, ha, hI1, con_use hm b2 (Nat.le_trans b6 hd) hl hr hI1.1 hs1 (wpc_mono w2 (fun v2 g2 q2 t1 t2 t3 => ?_))⟩
  obtain ⟨b, hb, hc, hP⟩ := q2 t1 t2 t3
  exact ⟨b, hb, hc, Inv_M b4 hI1 t3 t2 hP⟩
/-- calls that touch nothing of the likeness -/
theorem pr_fr {cx cm : CON} {mx mm k nx nm d : Nat} {lg : Bool} (hL : L ≤ 3072) (hX : ∀ j, rg32 (X j)) (hx : conS cx) (hm : conS cm) (hb : pairB cx cm mx mm k nx nm = true) (ha : ansB lg cx = true) (ha2 : ansB lg cm = true) (hd : 40 ≤ d) (f1 : ∀ g g', eM cx.2.2.2.1 g g' → P g → P g') (f2 : ∀ g g', eM cm.2.2.2.1 g g' → P g → P g') : pr L X s P d mx mm k lg false := by
  unfold pairB at hb
  simp only [Bool.and_eq_true, decide_eq_true_eq] at hb
  obtain ⟨b1, b2, b3, b4, b5, b6, b7, b8⟩ := hb
  subst b7 b8
  intro as g hl hr hI
  refine con_only hx b1 (Nat.le_trans b5 hd) hl hr hI.1 (Inv_scr hL hX hI) (fun v g1 r1 r2 r3 => ?_)
  obtain ⟨a, e⟩ := ansB_r ha r1
  have hI1 : Inv L X s P g1 := Inv_M b3 hI r3 r2 (f1 _ _ r3 hI.2.2.2.2)
  refine ⟨a, e, Inv_M b3 hI r3 r2 trivial, con_only hm b2 (Nat.le_trans b6 hd) hl hr hI1.1 (Inv_scr hL hX hI1) (fun v2 g2 t1 t2 t3 => ?_)⟩
  obtain ⟨b, e2⟩ := ansB_r ha2 t1
  exact ⟨b, e2, fun z => (by cases z), Inv_M b4 hI1 t3 t2 (f2 _ _ t3 hI1.2.2.2.2)⟩
/-- cells that a likeness reads, as a list; changes beside them -/
def disj (M S : MO) : Bool := S.all (fun e => M.all (fun q => decide (q.1 ≠ e.1) || (match e.2, q.2 with
  | some a, some b => decide (a ≠ b)
  | _, _ => false)))
theorem disj_r {M S : MO} (h : disj M S = true) {a j : Nat} (hi : inM S a j = true) : inM M a j = false := by
  rw [← Bool.not_eq_true]
  intro hc
  unfold inM at hi hc
  obtain ⟨e, me, he⟩ := List.any_eq_true.mp hi
  obtain ⟨q, mq, hq⟩ := List.any_eq_true.mp hc
  have h1 := List.all_eq_true.mp (List.all_eq_true.mp h e me) q mq
  rw [Bool.and_eq_true, decide_eq_true_eq] at he hq
  obtain ⟨e1, e2⟩ := he
  obtain ⟨q1, q2⟩ := hq
  rw [Bool.or_eq_true, decide_eq_true_eq] at h1
  rcases h1 with h1 | h1
  · exact h1 (q1.trans e1.symm)
  · cases h2 : e.2 with
    | none => rw [h2] at h1; cases h1
    | some x =>
      cases h3 : q.2 with
      | none => rw [h2, h3] at h1; cases h1
      | some y =>
        rw [h2, h3] at h1
        rw [h2] at e2
        rw [h3] at q2
        simp only [decide_eq_true_eq] at h1 e2 q2
        omega
/-- a likeness of numbers that reads the cells S alone -/
def rdS (S : MO) (C : (Nat → Nat → Int) → Prop) : Prop := ∀ I I' : Nat → Nat → Int, (∀ a j, inM S a j = true → I' a j = I a j) → C I → C I'
theorem rdS_M {S M : MO} {C : (Nat → Nat → Int) → Prop} (hC : rdS S C) (hd : disj M S = true) {g g' : AH} (hM : eM M g g') (h : C g.2.2.2.1) : C g'.2.2.2.1 := hC _ _ (fun a j hi => (hM.2.2.2 a j (disj_r hd hi)).1) h
end
