/-! the engine, 10: instructions are sound -/
section
variable {σ : Nat → Int} {y : EY} {g g0 : AH} {M : MO} {N : Nat}
theorem eS_i {a : AE} {s : List EV} {t : List AV} (h : rZ (eV σ N) (.inl a :: s) t) : ∃ t', t = .inl (vA σ a) :: t' ∧ a.1 < N ∧ rZ (eV σ N) s t' := by
  obtain ⟨b, t', rfl, h1, h2⟩ := rZ_cons h
  exact ⟨t', by rw [h1.2]; rfl, h1.1, h2⟩
theorem eS_l {a : AE} {s : List EV} {t : List AV} (h : rZ (eV σ N) (.inr (.inl a) :: s) t) : ∃ t', t = .inr (.inl (vA σ a)) :: t' ∧ a.1 < N ∧ rZ (eV σ N) s t' := by
  obtain ⟨b, t', rfl, h1, h2⟩ := rZ_cons h
  exact ⟨t', by rw [h1.2]; rfl, h1.1, h2⟩
theorem eS_r {a : AE} {s : List EV} {t : List AV} (h : rZ (eV σ N) (.inr (.inr a) :: s) t) : ∃ t', t = .inr (.inr (some (vA σ a).toNat)) :: t' ∧ a.1 < N ∧ rZ (eV σ N) s t' := by
  obtain ⟨b, t', rfl, h1, h2⟩ := rZ_cons h
  exact ⟨t', by rw [h1.2]; rfl, h1.1, h2⟩
theorem ecat_r {a : EV} {b : AV} (h : eV σ N a b) : em_cat a = am_cat b := by
  rw [h.2]
  match a with
  | .inl _ => rfl
  | .inr (.inl _) => rfl
  | .inr (.inr _) => rfl
theorem ecats_r : ∀ {s : List EV} {t : List AV}, rZ (eV σ N) s t → em_cats s = am_cats t
  | [], t, h => by rw [rZ_nil h]; rfl
  | x :: s, t, h => by
    obtain ⟨c, t2, rfl, h1, h2⟩ := rZ_cons h
    rw [em_cats, am_cats, ecat_r h1, ecats_r h2]
theorem rZ_setl {α β : Type} {R : α → β → Prop} {a : α} (ha : ∀ b, R a b) : ∀ {s : List α} {t : List β}, rZ R s t → ∀ {j : Nat}, rZ R (s.set j a) t
  | [], t, h, j => by rw [rZ_nil h]; exact trivial
  | x :: s, t, h, 0 => by
    obtain ⟨c, t', rfl, h1, h2⟩ := rZ_cons h
    exact ⟨ha c, h2⟩
  | x :: s, t, h, j + 1 => by
    obtain ⟨c, t', rfl, h1, h2⟩ := rZ_cons h
    exact ⟨h1, rZ_setl ha h2⟩
theorem eclr_r {l : EL} {m : AL} (h : rZ (eL σ N) l m) (i : Nat) : rZ (eL σ N) (em_clr l i) (am_clr m i) := by
  cases i with
  | zero => exact h
  | succ j =>
    unfold em_clr am_clr
    dsimp only
    cases hl : l[j]? with
    | none =>
      have hm : m[j]? = none := by
        rw [List.getElem?_eq_none_iff] at hl ⊢
        rw [← rZ_len h]; exact hl
      rw [hm]; exact h
    | some x =>
      obtain ⟨w, h1, h2⟩ := rZ_get h hl
      rw [h1]
      match x, w, h2 with
      | none, some (.inr (.inl b)), _ => exact rZ_set h trivial
      | none, none, _ => exact rZ_setl (fun _ => trivial) h
      | none, some (.inl b), _ => exact rZ_setl (fun _ => trivial) h
      | none, some (.inr (.inr b)), _ => exact rZ_setl (fun _ => trivial) h
      | some (.inl a), some w, h2 =>
        have e : w = .inl (vA σ a) := h2.2
        subst e
        exact h
      | some (.inr (.inr a)), some w, h2 =>
        have e : w = .inr (.inr (some (vA σ a).toNat)) := h2.2
        subst e
        exact h
      | some (.inr (.inl a)), some w, h2 =>
        have e : w = .inr (.inl (vA σ a)) := h2.2
        subst e
        exact rZ_set h trivial
theorem est1_r {l : EL} {m : AL} (h : rZ (eL σ N) l m) (i : Nat) {a : EV} {b : AV} (hv : eV σ N a b) : rZ (eL σ N) (em_st1 l i a) (am_st1 m i b) := rZ_set (a := some a) (b := some b) (eclr_r h i) hv
theorem est2_r {l : EL} {m : AL} (h : rZ (eL σ N) l m) (i : Nat) {a : EV} {b : AV} (hv : eV σ N a b) : rZ (eL σ N) (em_st2 l i a) (am_st2 m i b) := rZ_set (a := none) (b := none) (rZ_set (a := some a) (b := some b) (eclr_r h i) hv) trivial
/-- what a step of the engine says of a step of the machine -/
def SE (σ : Nat → Int) (y : EY) (M : MO) (g0 : AH) (o : ER) (o' : AR) : Prop := ∀ q, o = some q → ∃ σ' m t g', o' = some (q.1, m, t, g') ∧ agree σ σ' y.1.length ∧ y.1.length ≤ q.2.2.2.1.length ∧ eY σ' q.2.2.2 g' ∧ eH g' ∧ eM M g0 g' ∧ rZ (eL σ' q.2.2.2.1.length) q.2.1 m ∧ rZ (eV σ' q.2.2.2.1.length) q.2.2.1 t
theorem SE_n {o' : AR} : SE σ y M g0 none o' := fun q e => by cases e
theorem SE_s {k : Nat} {l : EL} {m : AL} {s : List EV} {t : List AV} (hY : eY σ y g) (hH : eH g) (hM : eM M g0 g) (hl : rZ (eL σ y.1.length) l m) (hs : rZ (eV σ y.1.length) s t) : SE σ y M g0 (some (k, l, s, y)) (some (k, m, t, g)) := fun q e => by cases e; exact ⟨σ, m, t, g, rfl, agree_rf, Nat.le_refl _, hY, hH, hM, hl, hs⟩
theorem SE_g {c : Prop} [Decidable c] {c' : Prop} [Decidable c'] {x : ER} {x' : AR} (hc : c → c') (hx : c → SE σ y M g0 x x') : SE σ y M g0 (am_g c x) (am_g c' x') := by
  intro q e
  obtain ⟨h1, h2⟩ := am_g_some e
  unfold am_g
  rw [if_pos (hc h1)]
  exact hx h1 q h2
/-- a fresh value on the stack -/
theorem SE_p {k : Nat} {l : EL} {m : AL} {s : List EV} {t : List AV} {r : AE × EY} {z : Int} (mk : AE → EV) (mkc : Int → AV) (hmk : ∀ (σ : Nat → Int) (N : Nat) (a : AE), a.1 < N → eV σ N (mk a) (mkc (vA σ a))) (hp : stpY σ y g r z) (hH : eH g) (hM : eM M g0 g) (hl : rZ (eL σ y.1.length) l m) (hs : rZ (eV σ y.1.length) s t) : SE σ y M g0 (some (k, l, mk r.1 :: s, r.2)) (some (k, m, mkc z :: t, g)) := by
  intro q e
  cases e
  obtain ⟨σ', ag, hy, hle, hlt, hz⟩ := hp
  exact ⟨σ', m, _, g, rfl, ag, hle, hy, hH, hM, rZ_imp (fun a b h => eL_ag ag hle h) hl, ⟨by rw [← hz]; exact hmk σ' _ _ hlt, rZ_imp (fun a b h => eV_ag ag hle h) hs⟩⟩
theorem mkI (σ : Nat → Int) (N : Nat) (a : AE) (h : a.1 < N) : eV σ N (.inl a) (.inl (vA σ a)) := ⟨h, rfl⟩
theorem mkL (σ : Nat → Int) (N : Nat) (a : AE) (h : a.1 < N) : eV σ N (.inr (.inl a)) (.inr (.inl (vA σ a))) := ⟨h, rfl⟩
variable {l : EL} {m : AL} {s : List EV} {t : List AV} {k : Nat}
theorem SE_bin {op : Nat} {f : Int → Int → Int} (hf : ∀ a b, f a b = opf op a b) (hY : eY σ y g) (hH : eH g) (hM : eM M g0 g) (hl : rZ (eL σ y.1.length) l m) (hs : rZ (eV σ y.1.length) s t) : SE σ y M g0 (em_bin op k l s y) (am_bin f k m t g) := by
  unfold em_bin
  split
  · obtain ⟨t1, rfl, hb, hs1⟩ := eS_i hs
    obtain ⟨t2, rfl, ha, hs2⟩ := eS_i hs1
    exact SE_p Sum.inl Sum.inl mkI (by rw [hf]; exact eop_r hY ha hb) hH hM hl hs2
  · exact SE_n
theorem nzE_r (hY : eY σ y g) {b : AE} (hb : b.1 < y.1.length) (h : nzE y b = true) : vA σ b ≠ 0 := by
  unfold nzE at h
  rw [Bool.or_eq_true, decide_eq_true_eq, decide_eq_true_eq] at h
  have := bd_r hY hb
  omega
theorem SE_div {op : Nat} {f : Int → Int → Int} (hf : ∀ a b, f a b = opf op a b) (hY : eY σ y g) (hH : eH g) (hM : eM M g0 g) (hl : rZ (eL σ y.1.length) l m) (hs : rZ (eV σ y.1.length) s t) : SE σ y M g0 (em_div op k l s y) (am_div f k m t g) := by
  unfold em_div
  split
  · split
    · rename_i hz
      obtain ⟨t1, rfl, hb, hs1⟩ := eS_i hs
      obtain ⟨t2, rfl, ha, hs2⟩ := eS_i hs1
      unfold am_div am_g
      dsimp only
      rw [if_pos (nzE_r hY hb hz)]
      exact SE_p Sum.inl Sum.inl mkI (by rw [hf]; exact eop_r hY ha hb) hH hM hl hs2
    · exact SE_n
  · exact SE_n
theorem SE_binL {op : Nat} {f : Int → Int → Int} (hf : ∀ a b, f a b = opf op a b) (hY : eY σ y g) (hH : eH g) (hM : eM M g0 g) (hl : rZ (eL σ y.1.length) l m) (hs : rZ (eV σ y.1.length) s t) : SE σ y M g0 (em_binL op k l s y) (am_binL f k m t g) := by
  unfold em_binL
  split
  · obtain ⟨t1, rfl, hb, hs1⟩ := eS_l hs
    obtain ⟨t2, rfl, ha, hs2⟩ := eS_l hs1
    exact SE_p (fun a => Sum.inr (Sum.inl a)) (fun a => Sum.inr (Sum.inl a)) mkL (by rw [hf]; exact eop_r hY ha hb) hH hM hl hs2
  · exact SE_n
theorem SE_divL {op : Nat} {f : Int → Int → Int} (hf : ∀ a b, f a b = opf op a b) (hY : eY σ y g) (hH : eH g) (hM : eM M g0 g) (hl : rZ (eL σ y.1.length) l m) (hs : rZ (eV σ y.1.length) s t) : SE σ y M g0 (em_divL op k l s y) (am_divL f k m t g) := by
  unfold em_divL
  split
  · split
    · rename_i hz
      obtain ⟨t1, rfl, hb, hs1⟩ := eS_l hs
      obtain ⟨t2, rfl, ha, hs2⟩ := eS_l hs1
      unfold am_divL am_g
      dsimp only
      rw [if_pos (nzE_r hY hb hz)]
      exact SE_p (fun a => Sum.inr (Sum.inl a)) (fun a => Sum.inr (Sum.inl a)) mkL (by rw [hf]; exact eop_r hY ha hb) hH hM hl hs2
    · exact SE_n
  · exact SE_n
theorem SE_shL {op : Nat} {f : Int → Int → Int} (hf : ∀ a b, f a b = opf op a b) (hY : eY σ y g) (hH : eH g) (hM : eM M g0 g) (hl : rZ (eL σ y.1.length) l m) (hs : rZ (eV σ y.1.length) s t) : SE σ y M g0 (em_shL op k l s y) (am_shL f k m t g) := by
  unfold em_shL
  split
  · obtain ⟨t1, rfl, hb, hs1⟩ := eS_i hs
    obtain ⟨t2, rfl, ha, hs2⟩ := eS_l hs1
    exact SE_p (fun a => Sum.inr (Sum.inl a)) (fun a => Sum.inr (Sum.inl a)) mkL (by rw [hf]; exact eop_r hY ha hb) hH hM hl hs2
  · exact SE_n
theorem SE_ldI {j : Nat} (hY : eY σ y g) (hH : eH g) (hM : eM M g0 g) (hl : rZ (eL σ y.1.length) l m) (hs : rZ (eV σ y.1.length) s t) : SE σ y M g0 (em_ld 0 j k l s y) (am_ldI j k m t g) := by
  unfold em_ld
  split
  · rename_i v hv
    obtain ⟨w, h1, h2⟩ := rZ_get hl hv
    match v, w, h2 with
    | .inr (.inl _), _, _ => exact SE_n
    | .inr (.inr _), _, _ => exact SE_n
    | .inl a, some w, h2 =>
      have e := h2.2
      subst e
      unfold am_ldI
      rw [h1]
      exact SE_s hY hH hM hl ⟨h2, hs⟩
  · exact SE_n
theorem SE_ldL {j : Nat} (hY : eY σ y g) (hH : eH g) (hM : eM M g0 g) (hl : rZ (eL σ y.1.length) l m) (hs : rZ (eV σ y.1.length) s t) : SE σ y M g0 (em_ld 1 j k l s y) (am_ldL j k m t g) := by
  unfold em_ld
  split
  · rename_i v hv
    obtain ⟨w, h1, h2⟩ := rZ_get hl hv
    match v, w, h2 with
    | .inl _, _, _ => exact SE_n
    | .inr (.inr _), _, _ => exact SE_n
    | .inr (.inl a), some w, h2 =>
      have e := h2.2
      subst e
      unfold am_ldL
      rw [h1]
      exact SE_s hY hH hM hl ⟨h2, hs⟩
  · exact SE_n
theorem SE_ldA {j : Nat} (hY : eY σ y g) (hH : eH g) (hM : eM M g0 g) (hl : rZ (eL σ y.1.length) l m) (hs : rZ (eV σ y.1.length) s t) : SE σ y M g0 (em_ld 2 j k l s y) (am_ldA j k m t g) := by
  unfold em_ld
  split
  · rename_i v hv
    obtain ⟨w, h1, h2⟩ := rZ_get hl hv
    match v, w, h2 with
    | .inl _, _, _ => exact SE_n
    | .inr (.inl _), _, _ => exact SE_n
    | .inr (.inr a), some w, h2 =>
      have e := h2.2
      subst e
      unfold am_ldA
      rw [h1]
      exact SE_s hY hH hM hl ⟨h2, hs⟩
  · exact SE_n
theorem SE_stI {j : Nat} (hY : eY σ y g) (hH : eH g) (hM : eM M g0 g) (hl : rZ (eL σ y.1.length) l m) (hs : rZ (eV σ y.1.length) s t) : SE σ y M g0 (em_stI 0 j k l s y) (am_stI j k m t g) := by
  unfold em_stI
  split
  · rename_i v s1
    match v with
    | .inr (.inl _) => exact SE_n
    | .inr (.inr _) => exact SE_n
    | .inl a =>
      obtain ⟨t1, rfl, hb, hs1⟩ := eS_i hs
      exact SE_g (fun z => by rw [← rZ_len hl]; exact z) (fun _ => SE_s hY hH hM (est1_r hl j (mkI σ _ a hb)) hs1)
  · exact SE_n
theorem SE_stL {j : Nat} (hY : eY σ y g) (hH : eH g) (hM : eM M g0 g) (hl : rZ (eL σ y.1.length) l m) (hs : rZ (eV σ y.1.length) s t) : SE σ y M g0 (em_stI 1 j k l s y) (am_stL j k m t g) := by
  unfold em_stI
  split
  · rename_i v s1
    match v with
    | .inl _ => exact SE_n
    | .inr (.inr _) => exact SE_n
    | .inr (.inl a) =>
      obtain ⟨t1, rfl, hb, hs1⟩ := eS_l hs
      exact SE_g (fun z => by rw [← rZ_len hl]; exact z) (fun _ => SE_s hY hH hM (est2_r hl j (mkL σ _ a hb)) hs1)
  · exact SE_n
theorem SE_stA {j : Nat} (hY : eY σ y g) (hH : eH g) (hM : eM M g0 g) (hl : rZ (eL σ y.1.length) l m) (hs : rZ (eV σ y.1.length) s t) : SE σ y M g0 (em_stI 2 j k l s y) (am_stA j k m t g) := by
  unfold em_stI
  split
  · rename_i v s1
    match v with
    | .inl _ => exact SE_n
    | .inr (.inl _) => exact SE_n
    | .inr (.inr a) =>
      obtain ⟨t1, rfl, hb, hs1⟩ := eS_r hs
      exact SE_g (fun z => by rw [← rZ_len hl]; exact z) (fun _ => SE_s hY hH hM (est1_r hl j (a := .inr (.inr a)) (b := .inr (.inr (some (vA σ a).toNat))) ⟨hb, rfl⟩) hs1)
  · exact SE_n
end
