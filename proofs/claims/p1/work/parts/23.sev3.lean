/-! part 19: the same for what reads and writes -/
section
variable {ρ : Nat → Int} {l : BL} {m : AL} {s : List BV} {t : List AV} {h : BH} {g : AH} {Γ : GM} {k : Nat}
theorem up2_r {I : Nat → Nat → AI} {I' : Nat → Nat → Int} {P Q : Nat → Nat → Prop} (hI : ∀ a j, P a j → Q a j → rI ρ (I a j) (I' a j)) (a j : Nat) {v : AI} {v' : Int} (hv : rI ρ v v') : ∀ x y, P x y → Q x y → rI ρ (up2 I a j v x y) (up2 I' a j v' x y) := by
  intro x y p q
  unfold up2
  split
  · exact hv
  · exact hI x y p q
theorem up2_e {α : Type} {I I' : Nat → Nat → α} {P Q : Nat → Nat → Prop} (hI : ∀ a j, P a j → Q a j → I a j = I' a j) (a j : Nat) (v : α) : ∀ x y, P x y → Q x y → up2 I a j v x y = up2 I' a j v x y := by
  intro x y p q
  unfold up2
  split
  · rfl
  · exact hI x y p q
theorem SN_newo {tag n : Nat} (hl : rZ (rO ρ) l m) (hs : rZ (rV ρ) s t) (hh : rH ρ h g) : SN ρ (bm_newo tag n k l s h) (am_newo tag n k m t g) := by
  obtain ⟨c, sl, T, I, J, R⟩ := h
  obtain ⟨c', sl', T', I', J', R'⟩ := g
  obtain ⟨h1, h2, hT, hI, hJ, hR⟩ := hh
  dsimp only at h1 h2 hT hI hJ hR
  subst h1 h2
  refine SN_g (fun z => z) (fun _ => SN_s hl ⟨rfl, hs⟩ ⟨rfl, rfl, fun a p => ?_, fun a j p q => ?_, fun a j p q => ?_, fun a j p q => ?_⟩)
  · dsimp only at p ⊢
    unfold up1
    split
    · rfl
    · exact hT a (by omega)
  all_goals
    dsimp only at p q ⊢
    unfold up1 at q
    split
    · first | exact ck_r 0 | rfl
    · rename_i h9
      rw [if_neg h9] at q
      first | exact hI a j (by omega) q | exact hJ a j (by omega) q | exact hR a j (by omega) q
theorem SN_newa {tag : Nat} (hl : rZ (rO ρ) l m) (hs : rZ (rV ρ) s t) (hh : rH ρ h g) : SN ρ (bm_newa tag k l s h) (am_newa tag k m t g) := by
  unfold bm_newa
  split
  · split
    · rename_i z hz
      obtain ⟨b, t1, rfl, hb, hs1⟩ := rS_i hs
      have := kc_r hz hb
      subst this
      exact SN_g (fun z => z) (fun _ => SN_newo hl hs1 hh)
    · exact SN_n
  · exact SN_n
theorem SN_newm {tag tag2 : Nat} (hl : rZ (rO ρ) l m) (hs : rZ (rV ρ) s t) (hh : rH ρ h g) : SN ρ (bm_newm tag tag2 k l s h) (am_newm tag tag2 k m t g) := by
  unfold bm_newm
  split
  · split
    · rename_i z y hz hy
      obtain ⟨b, t1, rfl, hb, hs1⟩ := rS_i hs
      obtain ⟨b2, t2, rfl, hb2, hs2⟩ := rS_i hs1
      have := kc_r hz hb
      subst this
      have := kc_r hy hb2
      subst this
      obtain ⟨c, sl, T, I, J, R⟩ := h
      obtain ⟨c', sl', T', I', J', R'⟩ := g
      obtain ⟨h1, h2, hT, hI, hJ, hR⟩ := hh
      dsimp only at h1 h2 hT hI hJ hR
      subst h1 h2
      refine SN_g (fun z => z) (fun _ => SN_s hl ⟨rfl, hs2⟩ ⟨rfl, rfl, fun a p => ?_, fun a j p q => ?_, fun a j p q => ?_, fun a j p q => ?_⟩)
      · dsimp only at p ⊢
        split
        · rfl
        · split
          · rfl
          · exact hT a (by omega)
      · dsimp only at p q ⊢
        split
        · exact ck_r 0
        · rename_i h9
          rw [if_neg (by omega), if_neg (by omega)] at q
          exact hI a j (by omega) q
      · dsimp only at p q ⊢
        split
        · rfl
        · rename_i h9
          rw [if_neg (by omega), if_neg (by omega)] at q
          exact hJ a j (by omega) q
      · dsimp only at p q ⊢
        split
        · rfl
        · rename_i h9
          rw [if_neg h9] at q
          split
          · rfl
          · rename_i h8
            rw [if_neg h8] at q
            exact hR a j (by omega) q
    · exact SN_n
  · exact SN_n
theorem SN_ald {tag : Nat} (hl : rZ (rO ρ) l m) (hs : rZ (rV ρ) s t) (hh : rH ρ h g) : SN ρ (bm_ald tag k l s h) (am_ald tag k m t g) := by
  unfold bm_ald
  split
  · split
    · rename_i z hz
      obtain ⟨b, t1, rfl, hb, hs1⟩ := rS_i hs
      have := kc_r hz hb
      subst this
      obtain ⟨t2, rfl, hs2⟩ := rS_r hs1
      obtain ⟨c, sl, T, I, J, R⟩ := h
      obtain ⟨c', sl', T', I', J', R'⟩ := g
      obtain ⟨h1, h2, hT, hI, hJ, hR⟩ := hh
      dsimp only at h1 h2 hT hI hJ hR
      subst h1 h2
      exact SN_g (fun z => by rw [← hT _ z.2.2.2]; exact z) (fun z => SN_s hl ⟨hI _ _ z.2.2.2 (by have := z.2.1; have := z.2.2.1; omega), hs2⟩ ⟨rfl, rfl, hT, hI, hJ, hR⟩)
    · exact SN_n
  · exact SN_n
theorem SN_aldL (hl : rZ (rO ρ) l m) (hs : rZ (rV ρ) s t) (hh : rH ρ h g) : SN ρ (bm_aldL k l s h) (am_aldL k m t g) := by
  unfold bm_aldL
  split
  · split
    · rename_i z hz
      obtain ⟨b, t1, rfl, hb, hs1⟩ := rS_i hs
      have := kc_r hz hb
      subst this
      obtain ⟨t2, rfl, hs2⟩ := rS_r hs1
      obtain ⟨c, sl, T, I, J, R⟩ := h
      obtain ⟨c', sl', T', I', J', R'⟩ := g
      obtain ⟨h1, h2, hT, hI, hJ, hR⟩ := hh
      dsimp only at h1 h2 hT hI hJ hR
      subst h1 h2
      exact SN_g (fun z => by rw [← hT _ (Or.inl z.2.2.2)]; exact z) (fun z => SN_s hl ⟨by rw [hJ _ _ (Or.inl z.2.2.2) (by have := z.2.1; have := z.2.2.1; omega)]; rfl, hs2⟩ ⟨rfl, rfl, hT, hI, hJ, hR⟩)
    · exact SN_n
  · exact SN_n
theorem SN_aldA {tag : Nat} (hl : rZ (rO ρ) l m) (hs : rZ (rV ρ) s t) (hh : rH ρ h g) : SN ρ (bm_aldA tag k l s h) (am_aldA tag k m t g) := by
  unfold bm_aldA
  split
  · split
    · rename_i z hz
      obtain ⟨b, t1, rfl, hb, hs1⟩ := rS_i hs
      have := kc_r hz hb
      subst this
      obtain ⟨t2, rfl, hs2⟩ := rS_r hs1
      obtain ⟨c, sl, T, I, J, R⟩ := h
      obtain ⟨c', sl', T', I', J', R'⟩ := g
      obtain ⟨h1, h2, hT, hI, hJ, hR⟩ := hh
      dsimp only at h1 h2 hT hI hJ hR
      subst h1 h2
      exact SN_g (fun z => by rw [← hT _ (Or.inl z.2.2.2)]; exact z) (fun z => SN_s hl ⟨by rw [hR _ _ (Or.inl z.2.2.2) (by have := z.2.1; have := z.2.2.1; omega)]; rfl, hs2⟩ ⟨rfl, rfl, hT, hI, hJ, hR⟩)
    · exact SN_n
  · exact SN_n
theorem SN_ast {tag : Nat} {f : AI → AI} {f' : Int → Int} (hf : ∀ v z, rI ρ v z → rI ρ (f v) (f' z)) (hl : rZ (rO ρ) l m) (hs : rZ (rV ρ) s t) (hh : rH ρ h g) : SN ρ (bm_ast tag f k l s h) (am_ast tag f' k m t g) := by
  unfold bm_ast
  split
  · split
    · rename_i z hz
      obtain ⟨v, t1, rfl, hv, hs1⟩ := rS_i hs
      obtain ⟨b, t2, rfl, hb, hs2⟩ := rS_i hs1
      have := kc_r hz hb
      subst this
      obtain ⟨t3, rfl, hs3⟩ := rS_r hs2
      obtain ⟨c, sl, T, I, J, R⟩ := h
      obtain ⟨c', sl', T', I', J', R'⟩ := g
      obtain ⟨h1, h2, hT, hI, hJ, hR⟩ := hh
      dsimp only at h1 h2 hT hI hJ hR
      subst h1 h2
      exact SN_g (fun z => by rw [← hT _ (Or.inl z.2.2.2)]; exact z) (fun _ => SN_s hl hs3 ⟨rfl, rfl, hT, up2_r hI _ _ (hf _ _ hv), hJ, hR⟩)
    · exact SN_n
  · exact SN_n
theorem SN_astL (hl : rZ (rO ρ) l m) (hs : rZ (rV ρ) s t) (hh : rH ρ h g) : SN ρ (bm_astL k l s h) (am_astL k m t g) := by
  unfold bm_astL
  split
  · split
    · rename_i z hz
      obtain ⟨t1, rfl, hs1⟩ := rS_r hs
      obtain ⟨b, t2, rfl, hb, hs2⟩ := rS_i hs1
      have := kc_r hz hb
      subst this
      obtain ⟨t3, rfl, hs3⟩ := rS_r hs2
      obtain ⟨c, sl, T, I, J, R⟩ := h
      obtain ⟨c', sl', T', I', J', R'⟩ := g
      obtain ⟨h1, h2, hT, hI, hJ, hR⟩ := hh
      dsimp only at h1 h2 hT hI hJ hR
      subst h1 h2
      exact SN_g (fun z => by rw [← hT _ (Or.inl z.2.2.2)]; exact z) (fun _ => SN_s hl hs3 ⟨rfl, rfl, hT, hI, up2_e hJ _ _ _, hR⟩)
    · exact SN_n
  · exact SN_n
theorem SN_astA {tag tag2 : Nat} (hl : rZ (rO ρ) l m) (hs : rZ (rV ρ) s t) (hh : rH ρ h g) : SN ρ (bm_astA tag tag2 k l s h) (am_astA tag tag2 k m t g) := by
  unfold bm_astA
  split
  · split
    · rename_i z hz
      obtain ⟨t1, rfl, hs1⟩ := rS_r hs
      obtain ⟨b, t2, rfl, hb, hs2⟩ := rS_i hs1
      have := kc_r hz hb
      subst this
      obtain ⟨t3, rfl, hs3⟩ := rS_r hs2
      obtain ⟨c, sl, T, I, J, R⟩ := h
      obtain ⟨c', sl', T', I', J', R'⟩ := g
      obtain ⟨h1, h2, hT, hI, hJ, hR⟩ := hh
      dsimp only at h1 h2 hT hI hJ hR
      subst h1 h2
      exact SN_g (fun z => by rw [← hT _ (Or.inl z.2.2.2.1), ← hT _ (Or.inl z.2.2.2.2.2)]; exact z) (fun _ => SN_s hl hs3 ⟨rfl, rfl, hT, hI, hJ, up2_e hR _ _ _⟩)
    · exact SN_n
  · exact SN_n
theorem SN_len (hl : rZ (rO ρ) l m) (hs : rZ (rV ρ) s t) (hh : rH ρ h g) : SN ρ (bm_len k l s h) (am_len k m t g) := by
  unfold bm_len
  split
  · obtain ⟨t1, rfl, hs1⟩ := rS_r hs
    obtain ⟨c, sl, T, I, J, R⟩ := h
    obtain ⟨c', sl', T', I', J', R'⟩ := g
    obtain ⟨h1, h2, hT, hI, hJ, hR⟩ := hh
    dsimp only at h1 h2 hT hI hJ hR
    subst h1 h2
    exact SN_g (fun z => by rw [← hT _ z.2.2.2]; exact z) (fun z => SN_s hl ⟨by rw [← hT _ z.2.2.2]; exact ck_r _, hs1⟩ ⟨rfl, rfl, hT, hI, hJ, hR⟩)
  · exact SN_n
theorem SN_get {tag f kind : Nat} (hl : rZ (rO ρ) l m) (hs : rZ (rV ρ) s t) (hh : rH ρ h g) : SN ρ (bm_get tag f kind k l s h) (am_get tag f kind k m t g) := by
  unfold bm_get
  split
  · obtain ⟨t1, rfl, hs1⟩ := rS_r hs
    obtain ⟨c, sl, T, I, J, R⟩ := h
    obtain ⟨c', sl', T', I', J', R'⟩ := g
    obtain ⟨h1, h2, hT, hI, hJ, hR⟩ := hh
    dsimp only at h1 h2 hT hI hJ hR
    subst h1 h2
    refine SN_g (fun z => by rw [← hT _ (Or.inl z.2.2)]; exact z) (fun z => SN_s hl ⟨?_, hs1⟩ ⟨rfl, rfl, hT, hI, hJ, hR⟩)
    match kind with
    | 0 => exact hI _ _ (Or.inl z.2.2) z.2.1
    | 1 => exact congrArg Sum.inl (hJ _ _ (Or.inl z.2.2) z.2.1)
    | 2 => exact congrArg Sum.inr (hR _ _ (Or.inl z.2.2) z.2.1)
    | _ + 3 => exact hI _ _ (Or.inl z.2.2) z.2.1
  · exact SN_n
theorem SN_put {tag f kind : Nat} (hl : rZ (rO ρ) l m) (hs : rZ (rV ρ) s t) (hh : rH ρ h g) (hG : rG ρ Γ) : SN ρ (bm_put tag f kind Γ k l s h) (am_put tag f kind k m t g) := by
  unfold bm_put
  split
  · split
    · obtain ⟨v, t1, rfl, hv, hs1⟩ := rS_i hs
      obtain ⟨t2, rfl, hs2⟩ := rS_r hs1
      obtain ⟨c, sl, T, I, J, R⟩ := h
      obtain ⟨c', sl', T', I', J', R'⟩ := g
      obtain ⟨h1, h2, hT, hI, hJ, hR⟩ := hh
      dsimp only at h1 h2 hT hI hJ hR
      subst h1 h2
      exact SN_g (fun z => by rw [← hT _ (Or.inl z.2.2)]; exact z) (fun _ => SN_s hl hs2 ⟨rfl, rfl, hT, up2_r hI _ _ hv, hJ, hR⟩)
    · exact SN_n
  · split
    · obtain ⟨t1, rfl, hs1⟩ := rS_r hs
      obtain ⟨t2, rfl, hs2⟩ := rS_r hs1
      obtain ⟨c, sl, T, I, J, R⟩ := h
      obtain ⟨c', sl', T', I', J', R'⟩ := g
      obtain ⟨h1, h2, hT, hI, hJ, hR⟩ := hh
      dsimp only at h1 h2 hT hI hJ hR
      subst h1 h2
      exact SN_g (fun z => by rw [← hT _ (Or.inl z.2.2)]; exact z) (fun _ => SN_s hl hs2 ⟨rfl, rfl, hT, hI, up2_e hJ _ _ _, hR⟩)
    · exact SN_n
  · split
    · obtain ⟨t1, rfl, hs1⟩ := rS_r hs
      obtain ⟨t2, rfl, hs2⟩ := rS_r hs1
      obtain ⟨c, sl, T, I, J, R⟩ := h
      obtain ⟨c', sl', T', I', J', R'⟩ := g
      obtain ⟨h1, h2, hT, hI, hJ, hR⟩ := hh
      dsimp only at h1 h2 hT hI hJ hR
      subst h1 h2
      exact SN_g (fun z => by rw [← hT _ (Or.inl z.2.2.1)]; exact z) (fun _ => SN_s hl hs2 ⟨rfl, rfl, hT, hI, hJ, up2_e hR _ _ _⟩)
    · exact SN_n
  · rename_i n0 n1 n2
    split
    · obtain ⟨v, t1, rfl, hv, hs1⟩ := rS_i hs
      obtain ⟨t2, rfl, hs2⟩ := rS_r hs1
      obtain ⟨c, sl, T, I, J, R⟩ := h
      obtain ⟨c', sl', T', I', J', R'⟩ := g
      obtain ⟨h1, h2, hT, hI, hJ, hR⟩ := hh
      dsimp only at h1 h2 hT hI hJ hR
      subst h1 h2
      obtain ⟨q, rfl⟩ : ∃ q, kind = q + 3 := ⟨kind - 3, by
        have : kind ≠ 0 := n0
        have : kind ≠ 1 := n1
        have : kind ≠ 2 := n2
        omega⟩
      exact SN_g (fun z => by rw [← hT _ (Or.inl z.2.2.1)]; exact ⟨z.1, z.2.1, z.2.2.1, isB_r hG z.2.2.2 hv⟩) (fun _ => SN_s hl hs2 ⟨rfl, rfl, hT, up2_r hI _ _ hv, hJ, hR⟩)
    · exact SN_n
theorem rg_i32 (x : Int32) : rg32 x.toInt := r32 x
theorem astp_r {i : Instr} {z : Int} {ns : List Nat} (hl : rZ (rO ρ) l m) (hs : rZ (rV ρ) s t) (hh : rH ρ h g) (hG : rG ρ Γ) : SN ρ (astp i z ns k l s h Γ) (stp i z ns k m t g) := by
  cases i with
  | iconst _ => exact SN_s hl ⟨ck_r _, hs⟩ hh
  | bipush _ => exact SN_s hl ⟨ck_r _, hs⟩ hh
  | sipush _ => exact SN_s hl ⟨ck_r _, hs⟩ hh
  | ldc _ => exact SN_s hl ⟨ck_r _, hs⟩ hh
  | ldc_w _ => exact SN_s hl ⟨ck_r _, hs⟩ hh
  | lconst _ => exact SN_s hl ⟨rfl, hs⟩ hh
  | ldc2_w _ => exact SN_s hl ⟨rfl, hs⟩ hh
  | iload _ => exact SN_ld hl hs hh
  | iload_n _ => exact SN_ld hl hs hh
  | lload _ => exact SN_ldL hl hs hh
  | lload_n _ => exact SN_ldL hl hs hh
  | aload _ => exact SN_ldA hl hs hh
  | aload_n _ => exact SN_ldA hl hs hh
  | istore _ => exact SN_stI hl hs hh
  | istore_n _ => exact SN_stI hl hs hh
  | lstore _ => exact SN_stL hl hs hh
  | lstore_n _ => exact SN_stL hl hs hh
  | astore _ => exact SN_stA hl hs hh
  | astore_n _ => exact SN_stA hl hs hh
  | iinc _ _ =>
    simp only [astp, stp]
    split
    · rename_i x hx
      obtain ⟨b, h1, h2⟩ := rZ_get hl hx
      match b, h2 with
      | some (.inl y), h2 =>
        rw [h1]
        exact SN_s (st1_r hl _ (a := .inl _) (b := .inl _) (bop_r (f := fun a b => w32 (a + b)) (fun x y => w32_rg _) gAdd_ok hG h2 (ck_r z))) hs hh
    · exact SN_n
  | pop =>
    simp only [astp]
    split
    · obtain ⟨b, t1, rfl, hb, hs1⟩ := rZ_cons hs
      exact SN_g (fun z => by rw [← cat_r hb]; exact z) (fun _ => SN_s hl hs1 hh)
    · exact SN_n
  | dup =>
    simp only [astp]
    split
    · obtain ⟨b, t1, rfl, hb, hs1⟩ := rZ_cons hs
      exact SN_g (fun z => by rw [← cat_r hb]; exact z) (fun _ => SN_s hl ⟨hb, hb, hs1⟩ hh)
    · exact SN_n
  | dup2 =>
    simp only [astp]
    split
    · obtain ⟨b, t1, rfl, hb, hs1⟩ := rZ_cons hs
      obtain ⟨b2, t2, rfl, hb2, hs2⟩ := rZ_cons hs1
      exact SN_g (fun z => by rw [← cat_r hb, ← cat_r hb2]; exact z) (fun _ => SN_s hl ⟨hb, hb2, hb, hb2, hs2⟩ hh)
    · exact SN_n
  | iadd => exact SN_bin (fun x y => w32_rg _) gAdd_ok hl hs hh hG
  | isub => exact SN_bin (fun x y => w32_rg _) gSub_ok hl hs hh hG
  | imul => exact SN_bin (fun x y => w32_rg _) gMul_ok hl hs hh hG
  | idiv => exact SN_div (fun x y => w32_rg _) gDiv_ok hl hs hh hG
  | irem => exact SN_div (fun x y => w32_rg _) g0_ok hl hs hh hG
  | iand => exact SN_bin (fun x y => rg_i32 _) g0_ok hl hs hh hG
  | ior => exact SN_bin (fun x y => rg_i32 _) g0_ok hl hs hh hG
  | ixor => exact SN_bin (fun x y => rg_i32 _) g0_ok hl hs hh hG
  | ishl => exact SN_bin (fun x y => rg_i32 _) g0_ok hl hs hh hG
  | ishr => exact SN_bin (fun x y => rg_i32 _) g0_ok hl hs hh hG
  | iushr => exact SN_bin (fun x y => rg_i32 _) g0_ok hl hs hh hG
  | ladd => exact SN_binL hl hs hh
  | lsub => exact SN_binL hl hs hh
  | lmul => exact SN_binL hl hs hh
  | land => exact SN_binL hl hs hh
  | lor => exact SN_binL hl hs hh
  | lxor => exact SN_binL hl hs hh
  | ldiv => exact SN_divL hl hs hh
  | lrem => exact SN_divL hl hs hh
  | lshl => exact SN_shL hl hs hh
  | lshr => exact SN_shL hl hs hh
  | lneg =>
    simp only [astp]
    split
    · obtain ⟨t1, rfl, hs1⟩ := rS_r hs
      exact SN_s hl ⟨rfl, hs1⟩ hh
    · exact SN_n
  | lcmp =>
    simp only [astp]
    split
    · obtain ⟨t1, rfl, hs1⟩ := rS_r hs
      obtain ⟨t2, rfl, hs2⟩ := rS_r hs1
      exact SN_s hl ⟨ck_r _, hs2⟩ hh
    · exact SN_n
  | i2l =>
    simp only [astp]
    split
    · split
      · rename_i x hx
        obtain ⟨b, t1, rfl, hb, hs1⟩ := rS_i hs
        have := kc_r hx hb
        subst this
        exact SN_s hl ⟨rfl, hs1⟩ hh
      · exact SN_n
    · exact SN_n
  | l2i =>
    simp only [astp]
    split
    · obtain ⟨t1, rfl, hs1⟩ := rS_r hs
      exact SN_s hl ⟨ck_r _, hs1⟩ hh
    · exact SN_n
  | i2b =>
    simp only [astp]
    split
    · obtain ⟨b, t1, rfl, hb, hs1⟩ := rS_i hs
      exact SN_s hl ⟨w8b_r hb, hs1⟩ hh
    · exact SN_n
  | goto _ => exact SN_s hl hs hh
  | new _ => exact SN_newo hl hs hh
  | newarray _ => exact SN_newa hl hs hh
  | anewarray _ => exact SN_newa hl hs hh
  | multianewarray _ _ => exact SN_newm hl hs hh
  | iaload => exact SN_ald hl hs hh
  | baload => exact SN_ald hl hs hh
  | laload => exact SN_aldL hl hs hh
  | aaload => exact SN_aldA hl hs hh
  | iastore => exact SN_ast (fun _ _ z => z) hl hs hh
  | bastore =>
    simp only [astp, stp]
    split
    · rename_i e9
      simp only [e9]
      exact SN_ast (f' := w8) (fun _ _ z => w8b_r z) hl hs hh
    · exact SN_n
  | lastore => exact SN_astL hl hs hh
  | aastore => exact SN_astA hl hs hh
  | arraylength => exact SN_len hl hs hh
  | getfield _ => exact SN_get hl hs hh
  | putfield _ => exact SN_put hl hs hh hG
  | invokespecial _ =>
    simp only [astp]
    split
    · obtain ⟨t1, rfl, hs1⟩ := rS_r hs
      exact SN_g (fun z => by rw [← cats_r hs1]; exact z) (fun _ => SN_s hl hs1 hh)
    · exact SN_n
  | _ => exact SN_n
end
