/-! the engine, 12: every instruction is sound -/
section
variable {σ : Nat → Int} {y : EY} {g g0 : AH} {M : MO} {l : EL} {m : AL} {s : List EV} {t : List AV} {k : Nat}
theorem SE_put {tag f kind : Nat} (hY : eY σ y g) (hH : eH g) (hM : eM M g0 g) (hl : rZ (eL σ y.1.length) l m) (hs : rZ (eV σ y.1.length) s t) : SE σ y M g0 (em_put tag f kind k M l s y) (am_put tag f kind k m t g) := by
  unfold em_put
  split
  · rename_i v r s1
    obtain ⟨w, t1, rfl, hv, hs1⟩ := rZ_cons hs
    obtain ⟨t2, rfl, hr, hs2⟩ := eS_r hs1
    obtain ⟨hv, rfl⟩ := hv
    have hk := kE_r hY (f : Int)
    split
    · rename_i hc
      split
      · rename_i y' he
        refine SE_w (j := kE (f : Int)) hY hH hM hl hs2 hr hk.1 hv he (fun c => ?_)
        obtain ⟨c1, c2, c3, c4, c5⟩ := c
        rw [hk.2, Int.toNat_natCast] at c2 ⊢
        have hc0 := hH.1
        have fin : ∀ a, v = .inr (.inr a) → (vA σ a).toNat < nO := by
          intro a ea
          subst ea
          unfold ewr at he
          split at he
          · rename_i h9
            rw [Bool.and_eq_true, Bool.and_eq_true] at h9
            have h8 := h9.2.1
            unfold fitV at h8
            rw [Bool.and_eq_true, Bool.and_eq_true, decide_eq_true_eq] at h8
            obtain ⟨i, m1, e1⟩ := eIds_r hY (r := a) hv h8.1.1
            have := of_decide_eq_true (List.all_eq_true.mp h8.1.2 i m1)
            omega
          · cases he
        obtain ⟨c, sl, T, I, J, R⟩ := g
        dsimp only at c1 c2 c3 hc0
        match kind, v, hv, hc, fin with
        | 0, .inl a, hv, hc, fin =>
          show am_g _ _ = _
          unfold am_g
          rw [if_pos ⟨c1, c2, c3⟩]
          rfl
        | 1, .inr (.inl a), hv, hc, fin =>
          show am_g _ _ = _
          unfold am_g
          rw [if_pos ⟨c1, c2, c3⟩]
          rfl
        | 2, .inr (.inr a), hv, hc, fin =>
          show am_g _ _ = _
          have := fin a rfl
          unfold am_g
          rw [if_pos ⟨c1, c2, c3, by omega⟩]
          rfl
        | n + 3, .inl a, hv, hc, fin =>
          have hb := b01_r hY hv hc
          show am_g _ _ = _
          unfold am_g
          rw [if_pos ⟨c1, c2, c3, hb⟩]
          rfl
      · exact SE_n
    · exact SE_n
  · exact SE_n
theorem w32_bd (z : Int) : -2147483648 ≤ w32 z ∧ w32 z ≤ 2147483647 := by unfold w32; omega
theorem w32_idb (z : Int) (h1 : -2147483648 ≤ z) (h2 : z ≤ 2147483647) : w32 z = z := by unfold w32; omega
theorem SE_getS {f : Nat} (hY : eY σ y g) (hH : eH g) (hM : eM M g0 g) (hl : rZ (eL σ y.1.length) l m) (hs : rZ (eV σ y.1.length) s t) : SE σ y M g0 (em_getS f k l s y) (am_getS f k m t g) := by
  unfold em_getS
  split
  · split
    · rename_i hc
      have c1 := aeB_r hc
      subst c1
      obtain ⟨t2, rfl, hr, hs2⟩ := eS_r hs
      rw [show vA σ ((0, 1000001) : AE) = 1000001 from (kE_r hY 1000001).2]
      show SE σ y M g0 _ (am_g _ _)
      unfold am_g
      rw [if_pos (show Int.toNat 1000001 = 1000001 from rfl)]
      refine SE_s hY hH hM hl ⟨?_, hs2⟩
      match f with
      | 0 => exact ⟨(kE_r hY 1000002).1, by show Sum.inr (Sum.inr (some 1000002)) = Sum.inr (Sum.inr (some (vA σ (0, 1000002)).toNat)); rw [show vA σ (0, 1000002) = 1000002 from (kE_r hY 1000002).2]; rfl⟩
      | n + 1 => exact ⟨(kE_r hY 0).1, congrArg Sum.inl (kE_r hY 0).2.symm⟩
    · exact SE_n
  · exact SE_n
theorem SE_lenS (hY : eY σ y g) (hH : eH g) (hM : eM M g0 g) (hl : rZ (eL σ y.1.length) l m) (hs : rZ (eV σ y.1.length) s t) : SE σ y M g0 (em_lenS k l s y) (am_lenS k m t g) := by
  unfold em_lenS
  split
  · split
    · rename_i hc
      have c1 := aeB_r hc
      subst c1
      obtain ⟨t2, rfl, hr, hs2⟩ := eS_r hs
      rw [show vA σ ((0, 1000002) : AE) = 1000002 from (kE_r hY 1000002).2]
      show SE σ y M g0 _ (am_g _ _)
      unfold am_g
      rw [if_pos (show Int.toNat 1000002 = 1000002 from rfl)]
      exact SE_s hY hH hM hl ⟨⟨(kE_r hY 9).1, congrArg Sum.inl (kE_r hY 9).2.symm⟩, hs2⟩
    · exact SE_n
  · exact SE_n
theorem txI_bd : ∀ j, j < 9 → 97 ≤ txI j ∧ txI j ≤ 121 := by decide
theorem SE_aldS (hY : eY σ y g) (hH : eH g) (hM : eM M g0 g) (hl : rZ (eL σ y.1.length) l m) (hs : rZ (eV σ y.1.length) s t) : SE σ y M g0 (em_aldS k l s y) (am_aldS k m t g) := by
  unfold em_aldS
  split
  · rename_i j r s1
    split
    · rename_i hc
      rw [Bool.and_eq_true, Bool.and_eq_true, decide_eq_true_eq, decide_eq_true_eq] at hc
      obtain ⟨c1, c2, c3⟩ := hc
      have c1 := aeB_r c1
      subst c1
      obtain ⟨t1, rfl, hj, hs1⟩ := eS_i hs
      obtain ⟨t2, rfl, hr, hs2⟩ := eS_r hs1
      have b := bd_r hY hj
      rw [show vA σ ((0, 1000002) : AE) = 1000002 from (kE_r hY 1000002).2]
      have hz := txI_bd (vA σ j).toNat (by omega)
      obtain ⟨σ', ag, hy, hzz⟩ := frs_r (ids := []) hY hz.1 hz.2 (Or.inl rfl)
      have hl2 := frs_len (y := y) (lo := 97) (hi := 121) (ids := [])
      have hle : y.1.length ≤ (frs y 97 121 []).1.length := by omega
      intro q e
      cases e
      refine ⟨σ', m, .inl (txI (vA σ j).toNat) :: t2, g, ?_, ag, hle, hy, hH, hM, rZ_imp (fun a b h => eL_ag ag hle h) hl, ⟨⟨?_, ?_⟩, rZ_imp (fun a b h => eV_ag ag hle h) hs2⟩⟩
      · show am_g _ _ = _
        unfold am_g
        exact if_pos ⟨rfl, by omega, by omega⟩
      · exact Nat.lt_of_lt_of_eq (Nat.lt_succ_self _) hl2.symm
      · show Sum.inl _ = Sum.inl (vA σ' (y.1.length, 0))
        rw [vA0, hzz]
    · exact SE_n
  · exact SE_n
theorem est_r {i : Instr} {z : Int} {ns : List Nat} (hY : eY σ y g) (hH : eH g) (hM : eM M g0 g) (hl : rZ (eL σ y.1.length) l m) (hs : rZ (eV σ y.1.length) s t) : SE σ y M g0 (est i z ns k M l s y) (stp i z ns k m t g) := by
  have hz := kE_r hY z
  have ci : eV σ y.1.length (.inl (0, z)) (.inl z) := ⟨hz.1, congrArg Sum.inl hz.2.symm⟩
  have cl : eV σ y.1.length (.inr (.inl (0, z))) (.inr (.inl z)) := ⟨hz.1, congrArg (fun z => Sum.inr (Sum.inl z)) hz.2.symm⟩
  cases i with
  | iconst _ => exact SE_s hY hH hM hl ⟨ci, hs⟩
  | bipush _ => exact SE_s hY hH hM hl ⟨ci, hs⟩
  | sipush _ => exact SE_s hY hH hM hl ⟨ci, hs⟩
  | ldc _ =>
    cases ns with
    | nil => exact SE_s hY hH hM hl ⟨ci, hs⟩
    | cons n ns => exact SE_s hY hH hM hl ⟨⟨(kE_r hY 1000001).1, by show _ = Sum.inr (Sum.inr (some (vA σ (0, 1000001)).toNat)); rw [show vA σ (0, 1000001) = 1000001 from (kE_r hY 1000001).2]; rfl⟩, hs⟩
  | getstatic _ => exact SE_s hY hH hM hl ⟨⟨(kE_r hY 1).1, congrArg Sum.inl (kE_r hY 1).2.symm⟩, hs⟩
  | i2c =>
    simp only [est]
    split
    · obtain ⟨t1, rfl, ha, hs1⟩ := eS_i hs
      exact SE_p Sum.inl Sum.inl mkI (enar_r hY ha (f := fun z => z % 65536) (fun z => by omega) (fun z h1 h2 => by omega)) hH hM hl hs1
    · exact SE_n
  | ldc_w _ => exact SE_s hY hH hM hl ⟨ci, hs⟩
  | lconst _ => exact SE_s hY hH hM hl ⟨cl, hs⟩
  | ldc2_w _ => exact SE_s hY hH hM hl ⟨cl, hs⟩
  | iload _ => exact SE_ldI hY hH hM hl hs
  | iload_n _ => exact SE_ldI hY hH hM hl hs
  | lload _ => exact SE_ldL hY hH hM hl hs
  | lload_n _ => exact SE_ldL hY hH hM hl hs
  | aload _ => exact SE_ldA hY hH hM hl hs
  | aload_n _ => exact SE_ldA hY hH hM hl hs
  | istore _ => exact SE_stI hY hH hM hl hs
  | istore_n _ => exact SE_stI hY hH hM hl hs
  | lstore _ => exact SE_stL hY hH hM hl hs
  | lstore_n _ => exact SE_stL hY hH hM hl hs
  | astore _ => exact SE_stA hY hH hM hl hs
  | astore_n _ => exact SE_stA hY hH hM hl hs
  | iinc _ _ =>
    simp only [est, stp]
    split
    · rename_i x hx
      obtain ⟨w, h1, h2⟩ := rZ_get hl hx
      match w, h2 with
      | some w, h2 =>
        have e := h2.2
        subst e
        rw [h1]
        have hp := eop_r hY (op := 0) h2.1 hz.1
        rw [hz.2] at hp
        obtain ⟨σ', ag, hy, hle, hlt, hzz⟩ := hp
        intro q e
        cases e
        refine ⟨σ', _, t, g, rfl, ag, hle, hy, hH, hM, ?_, rZ_imp (fun a b h => eV_ag ag hle h) hs⟩
        exact est1_r (rZ_imp (fun a b h => eL_ag ag hle h) hl) _ ⟨hlt, congrArg Sum.inl hzz.symm⟩
    · exact SE_n
  | pop =>
    simp only [est]
    split
    · obtain ⟨b, t1, rfl, hb, hs1⟩ := rZ_cons hs
      exact SE_g (fun z => by rw [← ecat_r hb]; exact z) (fun _ => SE_s hY hH hM hl hs1)
    · exact SE_n
  | pop2 =>
    simp only [est]
    split
    · obtain ⟨t1, rfl, ha, hs1⟩ := eS_l hs
      exact SE_s hY hH hM hl hs1
    · exact SE_n
  | dup =>
    simp only [est]
    split
    · obtain ⟨b, t1, rfl, hb, hs1⟩ := rZ_cons hs
      exact SE_g (fun z => by rw [← ecat_r hb]; exact z) (fun _ => SE_s hY hH hM hl ⟨hb, hb, hs1⟩)
    · exact SE_n
  | dup2 =>
    simp only [est]
    split
    · obtain ⟨b, t1, rfl, hb, hs1⟩ := rZ_cons hs
      obtain ⟨b2, t2, rfl, hb2, hs2⟩ := rZ_cons hs1
      exact SE_g (fun z => by rw [← ecat_r hb, ← ecat_r hb2]; exact z) (fun _ => SE_s hY hH hM hl ⟨hb, hb2, hb, hb2, hs2⟩)
    · exact SE_n
  | iadd => exact SE_bin (fun _ _ => rfl) hY hH hM hl hs
  | isub => exact SE_bin (fun _ _ => rfl) hY hH hM hl hs
  | imul => exact SE_bin (fun _ _ => rfl) hY hH hM hl hs
  | idiv => exact SE_div (fun _ _ => rfl) hY hH hM hl hs
  | irem => exact SE_div (fun _ _ => rfl) hY hH hM hl hs
  | iand => exact SE_bin (fun _ _ => rfl) hY hH hM hl hs
  | ior => exact SE_bin (fun _ _ => rfl) hY hH hM hl hs
  | ixor => exact SE_bin (fun _ _ => rfl) hY hH hM hl hs
  | ishl => exact SE_bin (fun _ _ => rfl) hY hH hM hl hs
  | ishr => exact SE_bin (fun _ _ => rfl) hY hH hM hl hs
  | iushr => exact SE_bin (fun _ _ => rfl) hY hH hM hl hs
  | ladd => exact SE_binL (fun _ _ => rfl) hY hH hM hl hs
  | lsub => exact SE_binL (fun _ _ => rfl) hY hH hM hl hs
  | lmul => exact SE_binL (fun _ _ => rfl) hY hH hM hl hs
  | land => exact SE_binL (fun _ _ => rfl) hY hH hM hl hs
  | lor => exact SE_binL (fun _ _ => rfl) hY hH hM hl hs
  | lxor => exact SE_binL (fun _ _ => rfl) hY hH hM hl hs
  | ldiv => exact SE_divL (fun _ _ => rfl) hY hH hM hl hs
  | lrem => exact SE_divL (fun _ _ => rfl) hY hH hM hl hs
  | lshl => exact SE_shL (fun _ _ => rfl) hY hH hM hl hs
  | lshr => exact SE_shL (fun _ _ => rfl) hY hH hM hl hs
  | lushr => exact SE_shL (fun _ _ => rfl) hY hH hM hl hs
  | lneg =>
    simp only [est]
    split
    · obtain ⟨t1, rfl, ha, hs1⟩ := eS_l hs
      refine SE_p (fun a => Sum.inr (Sum.inl a)) (fun a => Sum.inr (Sum.inl a)) mkL ?_ hH hM hl hs1
      have h0 := kE_r hY 0
      have hp := eop_r hY (op := 21) h0.1 ha
      rw [h0.2] at hp
      rw [show opf 21 0 (vA σ _) = w64 (0 - vA σ _) from rfl, Int.zero_sub] at hp
      exact hp
    · exact SE_n
  | lcmp =>
    simp only [est]
    split
    · rename_i b a s1
      obtain ⟨t1, rfl, hb, hs1⟩ := eS_l hs
      obtain ⟨t2, rfl, ha, hs2⟩ := eS_l hs1
      refine SE_p (r := ((y.1.length, 0), puC (frs y (-1) 1 []) (y.1.length, a, b))) Sum.inl Sum.inl mkI ?_ hH hM hl hs2
      have h1 : -1 ≤ sgnI (vA σ a) (vA σ b) ∧ sgnI (vA σ a) (vA σ b) ≤ 1 := by
        unfold sgnI
        split
        · omega
        · split <;> omega
      obtain ⟨σ', ag, hy, hzz⟩ := frs_r (ids := []) hY h1.1 h1.2 (Or.inl rfl)
      have hl2 := frs_len (y := y) (lo := -1) (hi := 1) (ids := [])
      refine ⟨σ', ag, puC_r hy (by dsimp only; omega) (by dsimp only; omega) (by dsimp only; omega) (by dsimp only; rw [vA_ag ag ha, vA_ag ag hb]; exact hzz), Nat.le_trans (Nat.le_succ _) (Nat.le_of_eq hl2.symm), Nat.lt_of_lt_of_eq (Nat.lt_succ_self _) hl2.symm, by rw [vA0]; exact hzz⟩
    · exact SE_n
  | i2l =>
    simp only [est]
    split
    · obtain ⟨t1, rfl, ha, hs1⟩ := eS_i hs
      exact SE_s hY hH hM hl ⟨mkL σ _ _ ha, hs1⟩
    · exact SE_n
  | l2i =>
    simp only [est]
    split
    · obtain ⟨t1, rfl, ha, hs1⟩ := eS_l hs
      exact SE_p Sum.inl Sum.inl mkI (enar_r hY ha w32_bd w32_idb) hH hM hl hs1
    · exact SE_n
  | i2b =>
    simp only [est]
    split
    · obtain ⟨t1, rfl, ha, hs1⟩ := eS_i hs
      exact SE_p Sum.inl Sum.inl mkI (enar_r hY ha w8_bd w8_id) hH hM hl hs1
    · exact SE_n
  | goto _ => exact SE_s hY hH hM hl hs
  | iaload => exact SE_rdI hY hH hM hl hs
  | baload =>
    simp only [est, stp]
    split
    · exact SE_aldS hY hH hM hl hs
    · exact SE_rdI hY hH hM hl hs
  | laload => exact SE_rdL hY hH hM hl hs
  | aaload => exact SE_rdA hY hH hM hl hs
  | iastore => exact SE_wr hY hH hM hl hs
  | bastore =>
    simp only [est, stp]
    split
    · split
      · exact SE_wrB hY hH hM hl hs
      · rename_i e9 _ hne
        exact absurd e9 hne
    · rename_i hne
      split
      · rename_i e9
        exact absurd e9 hne
      · exact SE_wrZ hY hH hM hl hs
  | lastore => exact SE_wrL hY hH hM hl hs
  | aastore => exact SE_wrA hY hH hM hl hs
  | arraylength =>
    simp only [est, stp]
    split
    · exact SE_lenS hY hH hM hl hs
    · exact SE_len hY hH hM hl hs
  | getfield _ =>
    simp only [est, stp]
    split
    · exact SE_getS hY hH hM hl hs
    · exact SE_get hY hH hM hl hs
  | putfield _ => exact SE_put hY hH hM hl hs
  | _ => exact SE_n
end
