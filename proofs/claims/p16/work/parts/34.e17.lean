/-! the engine, 18: the walk is sound (what it stands on) -/
def scr (g : AH) : Prop := (g.2.2.1 1000000).1 = 100 ∧ (g.2.2.1 1000000).2 ≤ 3072 ∧ ∀ j, rg32 (g.2.2.2.1 1000000 j)
section
variable {σ : Nat → Int} {y : EY} {g g0 g' : AH} {M M' : MO} {N : Nat}
theorem cellH_M {a j : Nat} {w : AV} (h : eM M g g') (hi : inM M a j = false) (hc : cellH g a j w) : cellH g' a j w := by
  obtain ⟨-, -, -, h4⟩ := h
  obtain ⟨h5, h6, h7⟩ := h4 a j hi
  match w, hc with
  | .inl z, hc => exact h5.trans hc
  | .inr (.inl z), hc => exact h6.trans hc
  | .inr (.inr z), hc => exact h7.trans hc
theorem offM_r (h : eY σ y g) {e : (AE × AE) × EV} (h1 : e.1.1.1 < y.1.length) (h2 : e.1.2.1 < y.1.length) (ho : offM y M e = true) : inM M (vA σ e.1.1).toNat (vA σ e.1.2).toNat = false := by
  unfold offM at ho
  rw [Bool.and_eq_true, decide_eq_true_eq] at ho
  obtain ⟨i, m1, e1⟩ := eIds_r h h1 ho.1
  have h3 := List.all_eq_true.mp ho.2 i m1
  rw [← Bool.not_eq_true]
  intro hc
  unfold inM at hc
  obtain ⟨q, mq, hc⟩ := List.any_eq_true.mp hc
  have h4 := List.all_eq_true.mp h3 q mq
  rw [Bool.and_eq_true, decide_eq_true_eq] at hc
  rw [Bool.or_eq_true, decide_eq_true_eq] at h4
  obtain ⟨c1, c2⟩ := hc
  have ei : q.1 = i := by omega
  rcases h4 with h4 | h4
  · exact h4 ei
  · cases hq : q.2 with
    | none => rw [hq] at h4; cases h4
    | some s =>
      rw [hq] at h4 c2
      simp only [Bool.and_eq_true, Bool.or_eq_true, decide_eq_true_eq] at h4 c2
      have b := bd_r h h2
      omega
theorem kilM_r (h : eY σ y g) (hm : eM M g g') : eY σ (kilM M y) g' := by
  have hh := h
  obtain ⟨hG, hO, hF, hD, hC⟩ := h
  refine ⟨hG, fun e he => ?_, hF, hD, hC⟩
  obtain ⟨m1, m2⟩ := List.mem_filter.mp he
  obtain ⟨o1, o2, o3, o4⟩ := hO e m1
  exact ⟨o1, o2, o3, cellH_M hm (offM_r hh o1 o2 m2) o4⟩
theorem subM_r (h : subM M' M = true) {a j : Nat} (hi : inM M a j = false) : inM M' a j = false := by
  rw [← Bool.not_eq_true] at hi ⊢
  intro hc
  refine hi ?_
  unfold inM at hc ⊢
  obtain ⟨q, mq, hc⟩ := List.any_eq_true.mp hc
  obtain ⟨e, me, he⟩ := List.any_eq_true.mp (List.all_eq_true.mp h q mq)
  refine List.any_eq_true.mpr ⟨e, me, ?_⟩
  rw [Bool.and_eq_true, decide_eq_true_eq] at hc he ⊢
  refine ⟨he.1.trans hc.1, ?_⟩
  obtain ⟨-, h2⟩ := he
  obtain ⟨-, h3⟩ := hc
  cases e2 : e.2 with
  | none => rfl
  | some s =>
    rw [e2] at h2
    dsimp only at h2 ⊢
    cases q2 : q.2 with
    | none => rw [q2] at h2; cases h2
    | some s' =>
      rw [q2] at h2 h3
      dsimp only at h2 h3
      rw [decide_eq_true_eq] at h2 h3 ⊢
      omega
theorem eM_tr (h : eM M g0 g) (h2 : eM M' g g') (hs : subM M' M = true) : eM M g0 g' := by
  obtain ⟨a1, a2, a3, a4⟩ := h
  obtain ⟨b1, b2, b3, b4⟩ := h2
  refine ⟨b1.trans a1, b2.trans a2, b3.trans a3, fun a j hi => ?_⟩
  obtain ⟨c1, c2, c3⟩ := a4 a j hi
  obtain ⟨d1, d2, d3⟩ := b4 a j (subM_r hs hi)
  exact ⟨d1.trans c1, d2.trans c2, d3.trans c3⟩
theorem eM_rf : eM M g g := ⟨rfl, rfl, rfl, fun _ _ _ => ⟨rfl, rfl, rfl⟩⟩
theorem idsM_r (h : idsM M = true) {j : Nat} : inM M 1000000 j = false := by
  rw [← Bool.not_eq_true]
  intro hc
  unfold inM at hc
  obtain ⟨q, mq, hc⟩ := List.any_eq_true.mp hc
  have h1 := of_decide_eq_true (List.all_eq_true.mp h q mq)
  rw [Bool.and_eq_true, decide_eq_true_eq] at hc
  have : q.1 < 185 := h1
  omega
theorem scr_M (hi : idsM M = true) (h : eM M g0 g) (hs : scr g0) : scr g := by
  obtain ⟨h1, h2, h3⟩ := hs
  obtain ⟨-, -, e3, e4⟩ := h
  refine ⟨by rw [e3]; exact h1, by rw [e3]; exact h2, fun j => ?_⟩
  rw [(e4 1000000 j (idsM_r hi)).1]
  exact h3 j
theorem em_ent_r : ∀ (n : Nat) {as : List EV} {bs : List AV}, rZ (eV σ N) as bs → rZ (eL σ N) (em_ent n as) (am_ent n bs)
  | 0, as, bs, h => by
    unfold em_ent am_ent
    exact trivial
  | n + 1, [], bs, h => by
    rw [rZ_nil h]
    unfold em_ent am_ent
    exact ⟨trivial, em_ent_r n (as := []) (bs := []) trivial⟩
  | n + 1, .inl a :: as, bs, h => by
    obtain ⟨t, rfl, h1, h2⟩ := eS_i h
    unfold em_ent am_ent
    exact ⟨⟨h1, rfl⟩, em_ent_r n h2⟩
  | n + 1, .inr (.inr a) :: as, bs, h => by
    obtain ⟨t, rfl, h1, h2⟩ := eS_r h
    unfold em_ent am_ent
    exact ⟨⟨h1, rfl⟩, em_ent_r n h2⟩
  | 1, .inr (.inl a) :: as, bs, h => by
    obtain ⟨t, rfl, h1, h2⟩ := eS_l h
    unfold em_ent am_ent
    exact ⟨⟨h1, rfl⟩, trivial⟩
  | n + 2, .inr (.inl a) :: as, bs, h => by
    obtain ⟨t, rfl, h1, h2⟩ := eS_l h
    unfold em_ent am_ent
    exact ⟨⟨h1, rfl⟩, trivial, em_ent_r n h2⟩
/-- an answer and its picture -/
def eR (σ : Nat → Int) (N : Nat) (v : Option EV) (w : Option AV) : Prop := match v, w with
  | none, none => True
  | some a, some b => eV σ N a b
  | _, _ => False
theorem em_ret_r (h : eY σ y g) {i : Instr} {ns : List Nat} {s : List EV} {t : List AV} (hs : rZ (eV σ y.1.length) s t) {v : Option EV} (hr : em_ret i ns s y = some v) : am_kind i ns = 2 ∧ ∃ w, am_ret i ns t = some w ∧ eR σ y.1.length v w := by
  unfold em_ret at hr
  split at hr
  · rename_i z
    split at hr
    · rename_i hc
      cases hr
      obtain ⟨t1, rfl, h1, h2⟩ := eS_i hs
      rw [rZ_nil h2]
      refine ⟨rfl, some (.inl (vA σ z)), ?_, ⟨h1, rfl⟩⟩
      unfold am_ret
      dsimp only
      unfold am_g
      refine if_pos ?_
      rw [Bool.or_eq_true, decide_eq_true_eq] at hc
      rcases hc with hc | hc
      · exact Or.inl hc
      · have := b01_r h h1 hc
        exact Or.inr (by omega)
    · cases hr
  · cases hr
    obtain ⟨t1, rfl, h1, h2⟩ := eS_l hs
    rw [rZ_nil h2]
    exact ⟨rfl, _, rfl, ⟨h1, rfl⟩⟩
  · cases hr
    rw [rZ_nil hs]
    exact ⟨rfl, _, rfl, trivial⟩
  · cases hr
theorem em_rcv_r (h : eY σ y g) (hH : eH g) {mx : Nat} {ns : List Nat} {s : List EV} {t : List AV} (hs : rZ (eV σ y.1.length) s t) (hr : em_rcv mx ns s y = true) : am_rcv mx ns t g = true := by
  unfold em_rcv at hr
  simp only [Bool.and_eq_true, Bool.or_eq_true, decide_eq_true_eq] at hr
  obtain ⟨h1, h2, h3, h4⟩ := hr
  rw [ecats_r (rZ_take hs)] at h1
  rw [ecats_r (rZ_drop hs)] at h2
  rw [rZ_len hs] at h3
  unfold am_rcv
  simp only [Bool.and_eq_true, Bool.or_eq_true, decide_eq_true_eq]
  refine ⟨⟨⟨h1, h2⟩, h3⟩, ?_⟩
  rcases h4 with h4 | h4
  · exact Or.inl h4
  · right
    split at h4
    · rename_i a ha
      obtain ⟨w, w1, w2⟩ := rZ_get hs ha
      split at h4
      · rename_i e2
        have h4 := aeB_r h4
        subst h4
        rw [w1, w2.2]
        dsimp only [vV]
        rw [if_pos e2, show vA σ (0, 1000001) = 1000001 from (kE_r h 1000001).2]
        rfl
      rename_i e2
      simp only [Bool.and_eq_true, decide_eq_true_eq] at h4
      obtain ⟨i, m1, e1⟩ := eIds_r h w2.1 h4.1
      have h5 := List.all_eq_true.mp h4.2 i m1
      simp only [Bool.and_eq_true, decide_eq_true_eq] at h5
      rw [w1, w2.2]
      dsimp only [vV]
      rw [if_neg e2]
      have e2 : (vA σ a).toNat = i := by omega
      rw [e2]
      have hT := hH.2.1 i h5.1
      have hc := hH.1
      simp only [Bool.and_eq_true, decide_eq_true_eq]
      exact ⟨by rw [hT]; exact h5.2, by omega⟩
    · cases h4
theorem esc_r (hY : eY σ y g) (hH : eH g) (hM : eM M g0 g) (hs9 : scr g) (h1 : 1 < y.1.length) (hL : σ 1 = (g.2.2.1 1000000).2) {i : Instr} {z : Int} {ns : List Nat} {k : Nat} {l : EL} {m : AL} {s : List EV} {t : List AV} (hl : rZ (eL σ y.1.length) l m) (hs : rZ (eV σ y.1.length) s t) : SE σ y M g0 (esc i ns k l s y) (stp i z ns k m t g) := by
  unfold esc
  split
  · split
    · rename_i j r s1
      split
      · rename_i hc
        rw [Bool.and_eq_true, Bool.and_eq_true, decide_eq_true_eq] at hc
        obtain ⟨c1, c2, c3⟩ := hc
        have c1 := aeB_r c1
        subst c1
        obtain ⟨t1, rfl, hj, hs1⟩ := eS_i hs
        obtain ⟨t2, rfl, hr, hs2⟩ := eS_r hs1
        have hk : vA σ ((0, 1000000) : AE) = 1000000 := (kE_r hY 1000000).2
        have b := bd_r hY hj
        have lq := leq_r hY (a := (j.1, j.2 + 1)) (b := (1, 0)) hj h1 c3
        rw [vA0, hL] at lq
        have lq2 : vA σ j + 1 ≤ ((g.2.2.1 1000000).2 : Int) := by
          have : vA σ (j.1, j.2 + 1) = vA σ j + 1 := by unfold vA; dsimp only; omega
          omega
        rw [hk]
        obtain ⟨s1, s2, s3⟩ := hs9
        have hz := s3 (vA σ j).toNat
        obtain ⟨σ', ag, hy, hzz⟩ := frs_r (ids := []) hY (lo := -2147483648) (hi := 2147483647) hz.1 (by have := hz.2; omega) (Or.inl rfl)
        have hl2 := frs_len (y := y) (lo := -2147483648) (hi := 2147483647) (ids := [])
        have hle : y.1.length ≤ (frs y (-2147483648) 2147483647 []).1.length := by omega
        intro q e
        cases e
        refine ⟨σ', m, .inl (g.2.2.2.1 1000000 (vA σ j).toNat) :: t2, g, ?_, ag, hle, hy, hH, hM, rZ_imp (fun a b h => eL_ag ag hle h) hl, ⟨⟨?_, ?_⟩, rZ_imp (fun a b h => eV_ag ag hle h) hs2⟩⟩
        · obtain ⟨c, sl, T, I, J, R⟩ := g
          show am_g _ _ = _
          unfold am_g
          exact if_pos ⟨s1, by omega, lq2, Or.inr rfl⟩
        · exact Nat.lt_of_lt_of_eq (Nat.lt_succ_self _) hl2.symm
        · show Sum.inl _ = Sum.inl (vA σ' (y.1.length, 0))
          rw [vA0, hzz]
      · exact SE_n
    · exact SE_n
  · split
    · rename_i r s1
      split
      · rename_i hc
        rw [Bool.and_eq_true, decide_eq_true_eq] at hc
        obtain ⟨hc, hn3⟩ := hc
        have c1 := aeB_r hc
        subst c1
        obtain ⟨t2, rfl, hr, hs2⟩ := eS_r hs
        have hk : vA σ ((0, 1000000) : AE) = 1000000 := (kE_r hY 1000000).2
        rw [hk]
        obtain ⟨s1, s2, s3⟩ := hs9
        have e9 : stp Instr.arraylength z ns k m (.inr (.inr (some (1000000 : Int).toNat)) :: t2) g = some (k + 1, m, .inl (((g.2.2.1 1000000).2 : Nat) : Int) :: t2, g) := by
          obtain ⟨c, sl, T, I, J, R⟩ := g
          simp only [stp]
          rw [if_neg hn3]
          show am_g _ _ = _
          unfold am_g
          dsimp only at s1 s2 ⊢
          exact if_pos ⟨by rw [show (1000000 : Int).toNat = 1000000 from rfl, s1]; decide, by rw [show (1000000 : Int).toNat = 1000000 from rfl, s1]; decide, by rw [show (1000000 : Int).toNat = 1000000 from rfl]; omega, Or.inr rfl⟩
        rw [e9]
        exact SE_s hY hH hM hl ⟨⟨h1, by show Sum.inl _ = Sum.inl (vA σ (1, 0)); rw [vA0, hL]⟩, hs2⟩
      · exact SE_n
    · exact SE_n
  · exact SE_n
end
