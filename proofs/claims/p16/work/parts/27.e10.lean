/-! the engine, 11: instructions that read and write are sound -/
section
variable {σ : Nat → Int} {y : EY} {g g0 : AH} {M : MO} {l : EL} {m : AL} {s : List EV} {t : List AV} {k : Nat}
/-- a reading on the stack -/
theorem SE_v {r : EV × EY} {w : AV} (hp : rdY σ y g r w) (hH : eH g) (hM : eM M g0 g) (hl : rZ (eL σ y.1.length) l m) (hs : rZ (eV σ y.1.length) s t) : SE σ y M g0 (some (k, l, r.1 :: s, r.2)) (some (k, m, w :: t, g)) := by
  intro q e
  cases e
  obtain ⟨σ', ag, hy, hle, hv⟩ := hp
  exact ⟨σ', m, _, g, rfl, ag, hle, hy, hH, hM, rZ_imp (fun a b h => eL_ag ag hle h) hl, ⟨hv, rZ_imp (fun a b h => eV_ag ag hle h) hs⟩⟩
theorem SE_rdI {tag : Nat} (hY : eY σ y g) (hH : eH g) (hM : eM M g0 g) (hl : rZ (eL σ y.1.length) l m) (hs : rZ (eV σ y.1.length) s t) : SE σ y M g0 (em_rd 0 tag k l s y) (am_ald tag k m t g) := by
  unfold em_rd
  split
  · rename_i j r s1
    obtain ⟨t1, rfl, hj, hs1⟩ := eS_i hs
    obtain ⟨t2, rfl, hr, hs2⟩ := eS_r hs1
    split
    · rename_i v y' he
      obtain ⟨⟨c1, c2, c3, c4, c5⟩, hrd⟩ := erd_r hY hH hr hj he
      obtain ⟨c, sl, T, I, J, R⟩ := g
      unfold am_ald am_g
      dsimp only at c1 c2 c3 ⊢
      rw [if_pos ⟨c1, c4, by omega, Or.inl c3⟩]
      exact SE_v hrd hH hM hl hs2
    · exact SE_n
  · exact SE_n
theorem SE_rdL (hY : eY σ y g) (hH : eH g) (hM : eM M g0 g) (hl : rZ (eL σ y.1.length) l m) (hs : rZ (eV σ y.1.length) s t) : SE σ y M g0 (em_rd 1 103 k l s y) (am_aldL k m t g) := by
  unfold em_rd
  split
  · rename_i j r s1
    obtain ⟨t1, rfl, hj, hs1⟩ := eS_i hs
    obtain ⟨t2, rfl, hr, hs2⟩ := eS_r hs1
    split
    · rename_i v y' he
      obtain ⟨⟨c1, c2, c3, c4, c5⟩, hrd⟩ := erd_r hY hH hr hj he
      obtain ⟨c, sl, T, I, J, R⟩ := g
      unfold am_aldL am_g
      dsimp only at c1 c2 c3 ⊢
      rw [if_pos ⟨c1, c4, by omega, c3⟩]
      exact SE_v hrd hH hM hl hs2
    · exact SE_n
  · exact SE_n
theorem SE_rdA {tag : Nat} (hY : eY σ y g) (hH : eH g) (hM : eM M g0 g) (hl : rZ (eL σ y.1.length) l m) (hs : rZ (eV σ y.1.length) s t) : SE σ y M g0 (em_rd 2 tag k l s y) (am_aldA tag k m t g) := by
  unfold em_rd
  split
  · rename_i j r s1
    obtain ⟨t1, rfl, hj, hs1⟩ := eS_i hs
    obtain ⟨t2, rfl, hr, hs2⟩ := eS_r hs1
    split
    · rename_i v y' he
      obtain ⟨⟨c1, c2, c3, c4, c5⟩, hrd⟩ := erd_r hY hH hr hj he
      obtain ⟨c, sl, T, I, J, R⟩ := g
      unfold am_aldA am_g
      dsimp only at c1 c2 c3 ⊢
      rw [if_pos ⟨c1, c4, by omega, c3⟩]
      exact SE_v hrd hH hM hl hs2
    · exact SE_n
  · exact SE_n
/-- a writing -/
theorem SE_w {tag : Nat} {r j : AE} {v : EV} {y' : EY} {o' : AR} (hY : eY σ y g) (hH : eH g) (hM : eM M g0 g) (hl : rZ (eL σ y.1.length) l m) (hs : rZ (eV σ y.1.length) s t) (hr : r.1 < y.1.length) (hj : j.1 < y.1.length) (hv : okV y.1.length v) (he : ewr tag M y r j v = some y') (ho : ((g.2.2.1 (vA σ r).toNat).1 = tag ∧ (vA σ j).toNat < (g.2.2.1 (vA σ r).toNat).2 ∧ (vA σ r).toNat < g.1 ∧ 0 ≤ vA σ j ∧ 0 ≤ vA σ r) → o' = some (k, m, t, wrC g (vA σ r).toNat (vA σ j).toNat (vV σ v))) : SE σ y M g0 (some (k, l, s, y')) o' := by
  obtain ⟨c, hn, h1, h2, h3⟩ := ewr_r hY hH hr hj hv he
  intro q e
  cases e
  have hn : y'.1.length = y.1.length := hn
  exact ⟨σ, m, t, _, ho c, agree_rf, Nat.le_of_eq hn.symm, h1, h2, h3 g0 hM, by dsimp only; rw [hn]; exact hl, by dsimp only; rw [hn]; exact hs⟩
theorem SE_wr {tag : Nat} (hY : eY σ y g) (hH : eH g) (hM : eM M g0 g) (hl : rZ (eL σ y.1.length) l m) (hs : rZ (eV σ y.1.length) s t) : SE σ y M g0 (em_wr tag k M l s y) (am_ast tag (fun v => v) k m t g) := by
  unfold em_wr
  split
  · obtain ⟨t0, rfl, hv, hs0⟩ := eS_i hs
    obtain ⟨t1, rfl, hj, hs1⟩ := eS_i hs0
    obtain ⟨t2, rfl, hr, hs2⟩ := eS_r hs1
    split
    · rename_i y' he
      refine SE_w (v := .inl _) hY hH hM hl hs2 hr hj hv he (fun c => ?_)
      obtain ⟨c1, c2, c3, c4, c5⟩ := c
      obtain ⟨c, sl, T, I, J, R⟩ := g
      unfold am_ast am_g
      dsimp only at c1 c2 c3 ⊢
      rw [if_pos ⟨c1, c4, by omega, c3⟩]
      rfl
    · exact SE_n
  · exact SE_n
theorem SE_wrL (hY : eY σ y g) (hH : eH g) (hM : eM M g0 g) (hl : rZ (eL σ y.1.length) l m) (hs : rZ (eV σ y.1.length) s t) : SE σ y M g0 (em_wrL k M l s y) (am_astL k m t g) := by
  unfold em_wrL
  split
  · obtain ⟨t0, rfl, hv, hs0⟩ := eS_l hs
    obtain ⟨t1, rfl, hj, hs1⟩ := eS_i hs0
    obtain ⟨t2, rfl, hr, hs2⟩ := eS_r hs1
    split
    · rename_i y' he
      refine SE_w (v := .inr (.inl _)) hY hH hM hl hs2 hr hj hv he (fun c => ?_)
      obtain ⟨c1, c2, c3, c4, c5⟩ := c
      obtain ⟨c, sl, T, I, J, R⟩ := g
      unfold am_astL am_g
      dsimp only at c1 c2 c3 ⊢
      rw [if_pos ⟨c1, c4, by omega, c3⟩]
      rfl
    · exact SE_n
  · exact SE_n
theorem SE_wrA {tag tag2 : Nat} (hY : eY σ y g) (hH : eH g) (hM : eM M g0 g) (hl : rZ (eL σ y.1.length) l m) (hs : rZ (eV σ y.1.length) s t) : SE σ y M g0 (em_wrA tag tag2 k M l s y) (am_astA tag tag2 k m t g) := by
  unfold em_wrA
  split
  · obtain ⟨t0, rfl, hv, hs0⟩ := eS_r hs
    obtain ⟨t1, rfl, hj, hs1⟩ := eS_i hs0
    obtain ⟨t2, rfl, hr, hs2⟩ := eS_r hs1
    split
    · rename_i h2
      split
      · rename_i y' he
        refine SE_w (v := .inr (.inr _)) hY hH hM hl hs2 hr hj hv he (fun c => ?_)
        obtain ⟨i, -, e1, e2, e3, -, -⟩ := okR_r hY (j := (0, 0)) hv hY.1.1 h2
        obtain ⟨c1, c2, c3, c4, c5⟩ := c
        have hT := hH.2.1 i e2
        have hc := hH.1
        obtain ⟨c, sl, T, I, J, R⟩ := g
        unfold am_astA am_g
        dsimp only at c1 c2 c3 hT hc ⊢
        rw [e1, Int.toNat_natCast]
        rw [if_pos ⟨c1, c4, by omega, c3, by rw [hT]; exact e3, by omega⟩]
        show some (k + 1, m, t2, c, sl, T, I, J, up2 R _ _ (some i)) = some (k + 1, m, t2, c, sl, T, I, J, up2 R _ _ (some (vA σ _).toNat))
        rw [e1, Int.toNat_natCast]
      · exact SE_n
    · exact SE_n
  · exact SE_n
theorem b01_r (hY : eY σ y g) {v : AE} (hv : v.1 < y.1.length) (h : b01 y v = true) : 0 ≤ vA σ v ∧ vA σ v ≤ 1 := by
  unfold b01 at h
  rw [Bool.and_eq_true, decide_eq_true_eq, decide_eq_true_eq] at h
  have := bd_r hY hv
  omega
theorem SE_wrZ (hY : eY σ y g) (hH : eH g) (hM : eM M g0 g) (hl : rZ (eL σ y.1.length) l m) (hs : rZ (eV σ y.1.length) s t) : SE σ y M g0 (em_wrZ k M l s y) (am_astZ k m t g) := by
  unfold em_wrZ
  split
  · obtain ⟨t0, rfl, hv, hs0⟩ := eS_i hs
    obtain ⟨t1, rfl, hj, hs1⟩ := eS_i hs0
    obtain ⟨t2, rfl, hr, hs2⟩ := eS_r hs1
    split
    · rename_i h2
      have hb := b01_r hY hv h2
      split
      · rename_i y' he
        refine SE_w (v := .inl _) hY hH hM hl hs2 hr hj hv he (fun c => ?_)
        obtain ⟨c1, c2, c3, c4, c5⟩ := c
        obtain ⟨c, sl, T, I, J, R⟩ := g
        unfold am_astZ am_g
        dsimp only at c1 c2 c3 ⊢
        rw [if_pos ⟨c1, c4, by omega, c3, hb⟩]
        rfl
      · exact SE_n
    · exact SE_n
  · exact SE_n
theorem enar_r (hY : eY σ y g) {a : AE} (ha : a.1 < y.1.length) {lo hi : Int} {f : Int → Int} (h1 : ∀ z, lo ≤ f z ∧ f z ≤ hi) (h2 : ∀ z, lo ≤ z → z ≤ hi → f z = z) : stpY σ y g (enar y a lo hi) (f (vA σ a)) := by
  unfold enar
  split
  · have := bd_r hY ha
    exact stpY_now hY ha (h2 _ (by omega) (by omega)).symm
  · obtain ⟨σ', ag, hy, hz⟩ := frs_r (ids := []) hY (h1 (vA σ a)).1 (h1 (vA σ a)).2 (Or.inl rfl)
    have hl2 := frs_len (y := y) (lo := lo) (hi := hi) (ids := [])
    exact ⟨σ', ag, hy, Nat.le_trans (Nat.le_succ _) (Nat.le_of_eq hl2.symm), Nat.lt_of_lt_of_eq (Nat.lt_succ_self _) hl2.symm, by rw [vA0]; exact hz⟩
theorem w8_bd (z : Int) : -128 ≤ w8 z ∧ w8 z ≤ 127 := by unfold w8; omega
theorem w8_id (z : Int) (h1 : -128 ≤ z) (h2 : z ≤ 127) : w8 z = z := by unfold w8; omega
theorem SE_wrB (hY : eY σ y g) (hH : eH g) (hM : eM M g0 g) (hl : rZ (eL σ y.1.length) l m) (hs : rZ (eV σ y.1.length) s t) : SE σ y M g0 (em_wrB k M l s y) (am_ast 101 w8 k m t g) := by
  unfold em_wrB
  split
  · rename_i v j r s1
    obtain ⟨t0, rfl, hv, hs0⟩ := eS_i hs
    obtain ⟨t1, rfl, hj, hs1⟩ := eS_i hs0
    obtain ⟨t2, rfl, hr, hs2⟩ := eS_r hs1
    obtain ⟨σ', ag, hy, hle, hlt, hz⟩ := enar_r hY hv w8_bd w8_id
    split
    · rename_i y' he
      have hj' : j.1 < (enar y v (-128) 127).2.1.length := Nat.lt_of_lt_of_le hj hle
      have hr' : r.1 < (enar y v (-128) 127).2.1.length := Nat.lt_of_lt_of_le hr hle
      have X := SE_w (k := k + 1) (o' := am_ast 101 w8 k m (.inl (vA σ v) :: .inl (vA σ j) :: .inr (.inr (some (vA σ r).toNat)) :: t2) g) hy hH hM (rZ_imp (fun a b h => eL_ag ag hle h) hl) (rZ_imp (fun a b h => eV_ag ag hle h) hs2) hr' hj' (v := .inl (enar y v (-128) 127).1) hlt he (fun c => by
        obtain ⟨c1, c2, c3, c4, c5⟩ := c
        rw [vA_ag ag hr, vA_ag ag hj] at *
        obtain ⟨c, sl, T, I, J, R⟩ := g
        unfold am_ast am_g
        dsimp only at c1 c2 c3 ⊢
        rw [if_pos ⟨c1, c4, by omega, c3⟩, ← hz]
        rfl)
      intro q e
      obtain ⟨σ2, m2, t3, g2, x1, x2, x3, x4⟩ := X q e
      exact ⟨σ2, m2, t3, g2, x1, agree_tr ag x2 hle, Nat.le_trans hle x3, x4⟩
    · exact SE_n
  · exact SE_n
theorem SE_len (hY : eY σ y g) (hH : eH g) (hM : eM M g0 g) (hl : rZ (eL σ y.1.length) l m) (hs : rZ (eV σ y.1.length) s t) : SE σ y M g0 (em_len k l s y) (am_len k m t g) := by
  unfold em_len
  split
  · rename_i r s1
    obtain ⟨t1, rfl, hr, hs1⟩ := eS_r hs
    split
    · exact SE_n
    · rename_i i l9 hi
      split
      · rename_i hc
        rw [Bool.and_eq_true, decide_eq_true_eq] at hc
        obtain ⟨id, m1, e1⟩ := eIds_r hY hr (by rw [hi]; intro z; cases z)
        rw [hi] at m1
        have ha := List.all_eq_true.mp hc.1 id m1
        simp only [Bool.and_eq_true, decide_eq_true_eq] at ha
        have hT := hH.2.1 id ha.1.1.1
        have hc0 := hH.1
        have er : (vA σ r).toNat = id := by omega
        have hk := kE_r hY ((tT.getD i (0, 0)).2 : Int)
        rw [er]
        obtain ⟨c, sl, T, I, J, R⟩ := g
        unfold am_len am_g
        dsimp only at hT hc0 ⊢
        rw [hT, if_pos ⟨ha.1.1.2, ha.1.2, by omega, Or.inl (by omega)⟩]
        refine SE_s hY hH hM hl ⟨⟨hk.1, ?_⟩, hs1⟩
        show Sum.inl _ = Sum.inl (vA σ (0, _))
        rw [show vA σ (0, ((tT.getD i (0, 0)).2 : Int)) = _ from hk.2, ha.2]
      · exact SE_n
  · exact SE_n
theorem SE_get {tag f kind : Nat} (hY : eY σ y g) (hH : eH g) (hM : eM M g0 g) (hl : rZ (eL σ y.1.length) l m) (hs : rZ (eV σ y.1.length) s t) : SE σ y M g0 (em_get tag f kind k l s y) (am_get tag f kind k m t g) := by
  unfold em_get
  split
  · rename_i r s1
    obtain ⟨t2, rfl, hr, hs2⟩ := eS_r hs
    split
    · rename_i v y' he
      have hk := kE_r hY (f : Int)
      obtain ⟨⟨c1, c2, c3, c4, c5⟩, hrd⟩ := erd_r hY hH hr hk.1 he
      rw [show vA σ (kE (f : Int)) = f from hk.2, Int.toNat_natCast] at c2 hrd
      obtain ⟨c, sl, T, I, J, R⟩ := g
      unfold am_get am_g
      dsimp only at c1 c2 c3 ⊢
      rw [if_pos ⟨c1, c2, c3⟩]
      have X := SE_v (k := k + 1) hrd hH hM hl hs2
      match kind with
      | 0 => exact X
      | 1 => exact X
      | 2 => exact X
      | n + 3 =>
        have e : (if n + 3 = 1 then 1 else if n + 3 = 2 then 2 else 0 : Nat) = 0 := by rw [if_neg (by omega), if_neg (by omega)]
        rw [e] at X
        exact X
    · exact SE_n
  · exact SE_n
end
