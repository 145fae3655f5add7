/-! part 18: instructions over such numbers -/
section
variable {ρ : Nat → Int}
def SN (ρ : Nat → Int) (o : BR) (o' : AR) : Prop := ∀ q, o = some q → ∃ ls st h, o' = some (q.1, ls, st, h) ∧ rZ (rO ρ) q.2.1 ls ∧ rZ (rV ρ) q.2.2.1 st ∧ rH ρ q.2.2.2 h
theorem SN_n {o' : AR} : SN ρ none o' := fun q e => by cases e
theorem SN_s {k : Nat} {l : BL} {m : AL} {s : List BV} {t : List AV} {h : BH} {g : AH} (hl : rZ (rO ρ) l m) (hs : rZ (rV ρ) s t) (hh : rH ρ h g) : SN ρ (some (k, l, s, h)) (some (k, m, t, g)) := fun q e => by cases e; exact ⟨m, t, g, rfl, hl, hs, hh⟩
theorem SN_g {c : Prop} [Decidable c] {c' : Prop} [Decidable c'] {x : BR} {x' : AR} (hc : c → c') (hx : c → SN ρ x x') : SN ρ (am_g c x) (am_g c' x') := by
  intro q e
  obtain ⟨h1, h2⟩ := am_g_some e
  unfold am_g
  rw [if_pos (hc h1)]
  exact hx h1 q h2
theorem SN_g1 {c : Prop} [Decidable c] {x : BR} {o' : AR} (hx : c → SN ρ x o') : SN ρ (am_g c x) o' := by
  intro q e
  obtain ⟨h1, h2⟩ := am_g_some e
  exact hx h1 q h2
def anyI : AI := (0, 0, -2147483648, 2147483647)
theorem any_r {z : Int} (h : rg32 z) : rI ρ anyI z := by
  unfold rI anyI
  rw [if_pos rfl]
  unfold rg32 at h
  dsimp only
  omega
def bop (f : Int → Int → Int) (g : GM → AI → AI → Option AI) (Γ : GM) (a b : AI) : AI := match kc a, kc b with
  | some x, some y => ck (f x y)
  | _, _ => (g Γ a b).getD anyI
def okG (f : Int → Int → Int) (g : GM → AI → AI → Option AI) : Prop := ∀ (ρ : Nat → Int) (Γ : GM) (a b c : AI) (x y : Int), rG ρ Γ → rI ρ a x → rI ρ b y → g Γ a b = some c → rI ρ c (f x y)
theorem bop_r {f : Int → Int → Int} {g : GM → AI → AI → Option AI} (hf : ∀ x y, rg32 (f x y)) (hg : okG f g) {Γ : GM} {a b : AI} {x y : Int} (hG : rG ρ Γ) (ha : rI ρ a x) (hb : rI ρ b y) : rI ρ (bop f g Γ a b) (f x y) := by
  unfold bop
  split
  · rename_i x' y' h1 h2
    rw [kc_r h1 ha, kc_r h2 hb]
    exact ck_r _
  · cases hc : g Γ a b with
    | none => exact any_r (hf x y)
    | some c => exact hg ρ Γ a b c x y hG ha hb hc
def g0 : GM → AI → AI → Option AI := fun _ _ _ => none
theorem g0_ok {f : Int → Int → Int} : okG f g0 := fun ρ Γ a b c x y _ _ _ h => by cases h
def shI (Γ : GM) (a : AI) (y : Int) : Option AI := match rng Γ a with
  | some q => am_g (-2147483648 ≤ q.1 + y ∧ q.2 + y ≤ 2147483647) (some (a.1, a.2.1, a.2.2.1 + y, a.2.2.2 + y))
  | none => none
theorem shI_r {Γ : GM} {a c : AI} {y x : Int} (hG : rG ρ Γ) (ha : rI ρ a x) (h : shI Γ a y = some c) : rI ρ c (w32 (x + y)) := by
  unfold shI at h
  split at h
  · rename_i q hq
    obtain ⟨h1, h2⟩ := am_g_some h
    cases h2
    have := rng_r hG hq ha
    rw [w32_id (by unfold rg32; omega)]
    unfold rI at ha ⊢
    dsimp only
    split
    · rename_i h9; rw [if_pos h9] at ha; omega
    · rename_i h9; rw [if_neg h9] at ha; omega
  · cases h
def gAdd (Γ : GM) (a b : AI) : Option AI := match kc b with
  | some y => shI Γ a y
  | none => none
def gSub (Γ : GM) (a b : AI) : Option AI := match kc b with
  | some y => shI Γ a (-y)
  | none => none
def gMul (Γ : GM) (a b : AI) : Option AI := match kc a with
  | some x => (match rng Γ b with
    | some q => am_g (0 < x ∧ -2147483648 ≤ x * q.1 ∧ x * q.2 ≤ 2147483647) (some (b.1, x * b.2.1, x * b.2.2.1, x * b.2.2.2))
    | none => none)
  | none => none
def gDiv (Γ : GM) (a b : AI) : Option AI := match kc b with
  | some y => (match rng Γ a with
    | some q => am_g (0 < y ∧ 0 ≤ q.1 ∧ q.2 ≤ 2147483647) (some (0, 0, 0, q.2))
    | none => none)
  | none => none
theorem gAdd_ok : okG (fun a b => w32 (a + b)) gAdd := by
  intro ρ Γ a b c x y hG ha hb h
  unfold gAdd at h
  split at h
  · rename_i y' hy
    rw [kc_r hy hb]
    exact shI_r hG ha h
  · cases h
theorem gSub_ok : okG (fun a b => w32 (a - b)) gSub := by
  intro ρ Γ a b c x y hG ha hb h
  unfold gSub at h
  split at h
  · rename_i y' hy
    rw [kc_r hy hb]
    exact shI_r hG ha h
  · cases h
theorem gMul_ok : okG (fun a b => w32 (a * b)) gMul := by
  intro ρ Γ a b c x y hG ha hb h
  unfold gMul at h
  split at h
  · rename_i x' hx
    have ex := kc_r hx ha
    subst ex
    split at h
    · rename_i q hq
      obtain ⟨⟨h0, h1, h2⟩, h3⟩ := am_g_some h
      cases h3
      have hr := rng_r hG hq hb
      have m1 := Int.mul_le_mul_of_nonneg_left hr.1 (Int.le_of_lt h0)
      have m2 := Int.mul_le_mul_of_nonneg_left hr.2 (Int.le_of_lt h0)
      dsimp only
      rw [w32_id (by unfold rg32; omega)]
      unfold rI at hb ⊢
      dsimp only
      by_cases h9 : b.2.1 = 0
      · rw [if_pos h9] at hb
        rw [if_pos (by rw [h9, Int.mul_zero])]
        exact ⟨Int.mul_le_mul_of_nonneg_left hb.1 (Int.le_of_lt h0), Int.mul_le_mul_of_nonneg_left hb.2 (Int.le_of_lt h0)⟩
      · rw [if_neg h9] at hb
        rw [if_neg (fun e => by rcases Int.mul_eq_zero.mp e with e | e <;> omega), hb, Int.mul_add, Int.mul_assoc]
    · cases h
  · cases h
theorem gDiv_ok : okG (fun a b => w32 (Int.tdiv a b)) gDiv := by
  intro ρ Γ a b c x y hG ha hb h
  unfold gDiv at h
  split at h
  · rename_i y' hy
    have ey := kc_r hy hb
    subst ey
    split at h
    · rename_i q hq
      obtain ⟨⟨h0, h1, h2⟩, h3⟩ := am_g_some h
      cases h3
      have hr := rng_r hG hq ha
      have d1 : 0 ≤ Int.tdiv x y := Int.tdiv_nonneg (by omega) (by omega)
      have d2 : Int.tdiv x y ≤ x := by
        rw [Int.tdiv_eq_ediv_of_nonneg (by omega)]
        exact Int.ediv_le_self _ (by omega)
      dsimp only
      rw [w32_id (by unfold rg32; omega)]
      unfold rI
      rw [if_pos rfl]
      dsimp only
      omega
    · cases h
  · cases h
def bm_bin (f : Int → Int → Int) (g : GM → AI → AI → Option AI) (Γ : GM) (k : Nat) (ls : BL) (st : List BV) (h : BH) : BR := match st with
  | .inl b :: .inl a :: st => some (k + 1, ls, .inl (bop f g Γ a b) :: st, h)
  | _ => none
def bm_div (f : Int → Int → Int) (g : GM → AI → AI → Option AI) (Γ : GM) (k : Nat) (ls : BL) (st : List BV) (h : BH) : BR := match st with
  | .inl b :: .inl a :: st => match kc b with
    | some y => am_g (y ≠ 0) (some (k + 1, ls, .inl (bop f g Γ a b) :: st, h))
    | none => none
  | _ => none
def bm_binL (f : Int → Int → Int) (k : Nat) (ls : BL) (st : List BV) (h : BH) : BR := match st with
  | .inr (.inl b) :: .inr (.inl a) :: st => some (k + 1, ls, .inr (.inl (f a b)) :: st, h)
  | _ => none
def bm_divL (f : Int → Int → Int) (k : Nat) (ls : BL) (st : List BV) (h : BH) : BR := match st with
  | .inr (.inl b) :: .inr (.inl a) :: st => am_g (b ≠ 0) (some (k + 1, ls, .inr (.inl (f a b)) :: st, h))
  | _ => none
def bm_shL (f : Int → Int → Int) (k : Nat) (ls : BL) (st : List BV) (h : BH) : BR := match st with
  | .inl b :: .inr (.inl a) :: st => match kc b with
    | some y => some (k + 1, ls, .inr (.inl (f a y)) :: st, h)
    | none => none
  | _ => none
def bm_ld (j k : Nat) (ls : BL) (st : List BV) (h : BH) : BR := match ls[j]? with
  | some (some (.inl x)) => some (k + 1, ls, .inl x :: st, h)
  | _ => none
def bm_ldL (j k : Nat) (ls : BL) (st : List BV) (h : BH) : BR := match ls[j]? with
  | some (some (.inr (.inl x))) => some (k + 1, ls, .inr (.inl x) :: st, h)
  | _ => none
def bm_ldA (j k : Nat) (ls : BL) (st : List BV) (h : BH) : BR := match ls[j]? with
  | some (some (.inr (.inr (some x)))) => some (k + 1, ls, .inr (.inr (some x)) :: st, h)
  | _ => none
def bm_stI (j k : Nat) (ls : BL) (st : List BV) (h : BH) : BR := match st with
  | .inl x :: st => am_g (j < ls.length) (some (k + 1, bm_st1 ls j (.inl x), st, h))
  | _ => none
def bm_stL (j k : Nat) (ls : BL) (st : List BV) (h : BH) : BR := match st with
  | .inr (.inl x) :: st => am_g (j + 1 < ls.length) (some (k + 1, bm_st2 ls j (.inr (.inl x)), st, h))
  | _ => none
def bm_stA (j k : Nat) (ls : BL) (st : List BV) (h : BH) : BR := match st with
  | .inr (.inr (some x)) :: st => am_g (j < ls.length) (some (k + 1, bm_st1 ls j (.inr (.inr (some x))), st, h))
  | _ => none
def bm_newo (tag n k : Nat) (ls : BL) (st : List BV) (h : BH) : BR := match h with
  | (c, s, T, I, J, R) => am_g (c < 1000000) (some (k + 1, ls, .inr (.inr (some c)) :: st, (c + 1, s + n, up1 T c (tag, n), (fun x => if x = c then fun _ => ck 0 else I x), (fun x => if x = c then fun _ => 0 else J x), (fun x => if x = c then fun _ => none else R x))))
def bm_newa (tag k : Nat) (ls : BL) (st : List BV) (h : BH) : BR := match st with
  | .inl a :: st => match kc a with
    | some z => am_g (0 ≤ z ∧ z ≤ 60000000) (bm_newo tag z.toNat k ls st h)
    | none => none
  | _ => none
def bm_newm (tag tag2 k : Nat) (ls : BL) (st : List BV) (h : BH) : BR := match st with
  | .inl za :: .inl ya :: st => match kc za, kc ya with
    | some z, some y => match h with
      | (c, s, T, I, J, R) => am_g (0 ≤ z ∧ z ≤ 10000000 ∧ 0 ≤ y ∧ y ≤ 10000000 ∧ c + 1 + y.toNat < 1000000) (some (k + 1, ls, .inr (.inr (some c)) :: st, (c + 1 + y.toNat, s + y.toNat + y.toNat * z.toNat, (fun x => if x = c then (tag, y.toNat) else if c < x ∧ x ≤ c + y.toNat then (tag2, z.toNat) else T x), (fun x => if c ≤ x ∧ x ≤ c + y.toNat then fun _ => ck 0 else I x), (fun x => if c ≤ x ∧ x ≤ c + y.toNat then fun _ => 0 else J x), (fun x => if x = c then fun j => if j < y.toNat then some (c + 1 + j) else none else if c < x ∧ x ≤ c + y.toNat then fun _ => none else R x))))
    | _, _ => none
  | _ => none
def bm_ald (tag k : Nat) (ls : BL) (st : List BV) (h : BH) : BR := match st with
  | .inl ja :: .inr (.inr (some a)) :: st => match kc ja with
    | some j => match h with
      | (c, s, T, I, J, R) => am_g ((T a).1 = tag ∧ 0 ≤ j ∧ j < (T a).2 ∧ (a < c ∨ a = 1000000)) (some (k + 1, ls, .inl (I a j.toNat) :: st, (c, s, T, I, J, R)))
    | none => none
  | _ => none
def bm_aldL (k : Nat) (ls : BL) (st : List BV) (h : BH) : BR := match st with
  | .inl ja :: .inr (.inr (some a)) :: st => match kc ja with
    | some j => match h with
      | (c, s, T, I, J, R) => am_g ((T a).1 = 103 ∧ 0 ≤ j ∧ j < (T a).2 ∧ a < c) (some (k + 1, ls, .inr (.inl (J a j.toNat)) :: st, (c, s, T, I, J, R)))
    | none => none
  | _ => none
def bm_aldA (tag k : Nat) (ls : BL) (st : List BV) (h : BH) : BR := match st with
  | .inl ja :: .inr (.inr (some a)) :: st => match kc ja with
    | some j => match h with
      | (c, s, T, I, J, R) => am_g ((T a).1 = tag ∧ 0 ≤ j ∧ j < (T a).2 ∧ a < c) (some (k + 1, ls, .inr (.inr (R a j.toNat)) :: st, (c, s, T, I, J, R)))
    | none => none
  | _ => none
def w8b (v : AI) : AI := match kc v with
  | some x => ck (w8 x)
  | none => (0, 0, -128, 127)
theorem w8b_r {v : AI} {z : Int} (h : rI ρ v z) : rI ρ (w8b v) (w8 z) := by
  unfold w8b
  split
  · rename_i x hx
    rw [kc_r hx h]
    exact ck_r _
  · unfold rI
    rw [if_pos rfl]
    dsimp only
    unfold w8
    omega
def bm_ast (tag : Nat) (f : AI → AI) (k : Nat) (ls : BL) (st : List BV) (h : BH) : BR := match st with
  | .inl v :: .inl ja :: .inr (.inr (some a)) :: st => match kc ja with
    | some j => match h with
      | (c, s, T, I, J, R) => am_g ((T a).1 = tag ∧ 0 ≤ j ∧ j < (T a).2 ∧ a < c) (some (k + 1, ls, st, (c, s, T, up2 I a j.toNat (f v), J, R)))
    | none => none
  | _ => none
def bm_astL (k : Nat) (ls : BL) (st : List BV) (h : BH) : BR := match st with
  | .inr (.inl v) :: .inl ja :: .inr (.inr (some a)) :: st => match kc ja with
    | some j => match h with
      | (c, s, T, I, J, R) => am_g ((T a).1 = 103 ∧ 0 ≤ j ∧ j < (T a).2 ∧ a < c) (some (k + 1, ls, st, (c, s, T, I, up2 J a j.toNat v, R)))
    | none => none
  | _ => none
def bm_astA (tag tag2 k : Nat) (ls : BL) (st : List BV) (h : BH) : BR := match st with
  | .inr (.inr (some v)) :: .inl ja :: .inr (.inr (some a)) :: st => match kc ja with
    | some j => match h with
      | (c, s, T, I, J, R) => am_g ((T a).1 = tag ∧ 0 ≤ j ∧ j < (T a).2 ∧ a < c ∧ (T v).1 = tag2 ∧ v < c) (some (k + 1, ls, st, (c, s, T, I, J, up2 R a j.toNat (some v))))
    | none => none
  | _ => none
def bm_len (k : Nat) (ls : BL) (st : List BV) (h : BH) : BR := match st with
  | .inr (.inr (some a)) :: st => match h with
    | (c, s, T, I, J, R) => am_g (100 ≤ (T a).1 ∧ (T a).1 ≤ 105 ∧ (T a).2 < 2147483648 ∧ (a < c ∨ a = 1000000)) (some (k + 1, ls, .inl (ck (T a).2) :: st, (c, s, T, I, J, R)))
  | _ => none
def bm_get (tag f kind k : Nat) (ls : BL) (st : List BV) (h : BH) : BR := match st with
  | .inr (.inr (some a)) :: st => match h with
    | (c, s, T, I, J, R) => am_g ((T a).1 = tag ∧ f < (T a).2 ∧ a < c) (some (k + 1, ls, (match kind with | 0 => .inl (I a f) | 1 => .inr (.inl (J a f)) | 2 => .inr (.inr (R a f)) | _ => .inl (I a f)) :: st, (c, s, T, I, J, R)))
  | _ => none
def isB (Γ : GM) (v : AI) : Bool := match rng Γ v with
  | some q => decide (0 ≤ q.1) && decide (q.2 ≤ 1)
  | none => false
theorem isB_r {Γ : GM} {v : AI} {z : Int} (hG : rG ρ Γ) (h : isB Γ v = true) (hr : rI ρ v z) : 0 ≤ z ∧ z ≤ 1 := by
  unfold isB at h
  split at h
  · rename_i q hq
    simp only [Bool.and_eq_true, decide_eq_true_eq] at h
    have := rng_r hG hq hr
    omega
  · cases h
def bm_put (tag f kind : Nat) (Γ : GM) (k : Nat) (ls : BL) (st : List BV) (h : BH) : BR := match kind with
  | 0 => match st with
    | .inl v :: .inr (.inr (some a)) :: st => match h with
      | (c, s, T, I, J, R) => am_g ((T a).1 = tag ∧ f < (T a).2 ∧ a < c) (some (k + 1, ls, st, (c, s, T, up2 I a f v, J, R)))
    | _ => none
  | 1 => match st with
    | .inr (.inl v) :: .inr (.inr (some a)) :: st => match h with
      | (c, s, T, I, J, R) => am_g ((T a).1 = tag ∧ f < (T a).2 ∧ a < c) (some (k + 1, ls, st, (c, s, T, I, up2 J a f v, R)))
    | _ => none
  | 2 => match st with
    | .inr (.inr (some v)) :: .inr (.inr (some a)) :: st => match h with
      | (c, s, T, I, J, R) => am_g ((T a).1 = tag ∧ f < (T a).2 ∧ a < c ∧ v < c) (some (k + 1, ls, st, (c, s, T, I, J, up2 R a f (some v))))
    | _ => none
  | _ => match st with
    | .inl v :: .inr (.inr (some a)) :: st => match h with
      | (c, s, T, I, J, R) => am_g ((T a).1 = tag ∧ f < (T a).2 ∧ a < c ∧ isB Γ v = true) (some (k + 1, ls, st, (c, s, T, up2 I a f v, J, R)))
    | _ => none
def astp (i : Instr) (z : Int) (ns : List Nat) (k : Nat) (ls : BL) (st : List BV) (h : BH) (Γ : GM) : BR := match i with
  | .iconst _ | .bipush _ | .sipush _ | .ldc _ | .ldc_w _ => some (k + 1, ls, .inl (ck z) :: st, h)
  | .lconst _ | .ldc2_w _ => some (k + 1, ls, .inr (.inl z) :: st, h)
  | .iload _ | .iload_n _ => bm_ld (ns.getD 0 0) k ls st h
  | .lload _ | .lload_n _ => bm_ldL (ns.getD 0 0) k ls st h
  | .aload _ | .aload_n _ => bm_ldA (ns.getD 0 0) k ls st h
  | .istore _ | .istore_n _ => bm_stI (ns.getD 0 0) k ls st h
  | .lstore _ | .lstore_n _ => bm_stL (ns.getD 0 0) k ls st h
  | .astore _ | .astore_n _ => bm_stA (ns.getD 0 0) k ls st h
  | .iinc _ _ => match ls[ns.getD 0 0]? with
    | some (some (.inl x)) => some (k + 1, bm_st1 ls (ns.getD 0 0) (.inl (bop (fun a b => w32 (a + b)) gAdd Γ x (ck z))), st, h)
    | _ => none
  | .pop => match st with
    | v :: st => am_g (bm_cat v = 1) (some (k + 1, ls, st, h))
    | _ => none
  | .dup => match st with
    | v :: st => am_g (bm_cat v = 1) (some (k + 1, ls, v :: v :: st, h))
    | _ => none
  | .dup2 => match st with
    | v :: w :: st => am_g (bm_cat v = 1 ∧ bm_cat w = 1) (some (k + 1, ls, v :: w :: v :: w :: st, h))
    | _ => none
  | .iadd => bm_bin (fun a b => w32 (a + b)) gAdd Γ k ls st h
  | .isub => bm_bin (fun a b => w32 (a - b)) gSub Γ k ls st h
  | .imul => bm_bin (fun a b => w32 (a * b)) gMul Γ k ls st h
  | .idiv => bm_div (fun a b => w32 (Int.tdiv a b)) gDiv Γ k ls st h
  | .irem => bm_div (fun a b => w32 (a - Int.tdiv a b * b)) g0 Γ k ls st h
  | .iand => bm_bin (fun a b => (Int32.ofInt a &&& Int32.ofInt b).toInt) g0 Γ k ls st h
  | .ior => bm_bin (fun a b => (Int32.ofInt a ||| Int32.ofInt b).toInt) g0 Γ k ls st h
  | .ixor => bm_bin (fun a b => (Int32.ofInt a ^^^ Int32.ofInt b).toInt) g0 Γ k ls st h
  | .ishl => bm_bin (fun a b => (Int32.ofInt a <<< (Int32.ofInt b &&& 31)).toInt) g0 Γ k ls st h
  | .ishr => bm_bin (fun a b => (Int32.ofInt a >>> (Int32.ofInt b &&& 31)).toInt) g0 Γ k ls st h
  | .iushr => bm_bin (fun a b => (((Int32.ofInt a).toUInt32 >>> ((Int32.ofInt b).toUInt32 &&& Int32.toUInt32 31)).toInt32).toInt) g0 Γ k ls st h
  | .ladd => bm_binL (fun a b => w64 (a + b)) k ls st h
  | .lsub => bm_binL (fun a b => w64 (a - b)) k ls st h
  | .lmul => bm_binL (fun a b => w64 (a * b)) k ls st h
  | .ldiv => bm_divL (fun a b => w64 (Int.tdiv a b)) k ls st h
  | .lrem => bm_divL (fun a b => w64 (a - Int.tdiv a b * b)) k ls st h
  | .land => bm_binL (fun a b => (Int64.ofInt a &&& Int64.ofInt b).toInt) k ls st h
  | .lor => bm_binL (fun a b => (Int64.ofInt a ||| Int64.ofInt b).toInt) k ls st h
  | .lxor => bm_binL (fun a b => (Int64.ofInt a ^^^ Int64.ofInt b).toInt) k ls st h
  | .lshl => bm_shL (fun a b => (Int64.ofInt a <<< ((Int32.ofInt b).toInt64 &&& 63)).toInt) k ls st h
  | .lshr => bm_shL (fun a b => (Int64.ofInt a >>> ((Int32.ofInt b).toInt64 &&& 63)).toInt) k ls st h
  | .lneg => match st with
    | .inr (.inl a) :: st => some (k + 1, ls, .inr (.inl (w64 (-a))) :: st, h)
    | _ => none
  | .lcmp => match st with
    | .inr (.inl b) :: .inr (.inl a) :: st => some (k + 1, ls, .inl (ck (if b < a then 1 else if a < b then -1 else 0)) :: st, h)
    | _ => none
  | .i2l => match st with
    | .inl a :: st => match kc a with
      | some x => some (k + 1, ls, .inr (.inl x) :: st, h)
      | none => none
    | _ => none
  | .l2i => match st with
    | .inr (.inl a) :: st => some (k + 1, ls, .inl (ck (w32 a)) :: st, h)
    | _ => none
  | .i2b => match st with
    | .inl a :: st => some (k + 1, ls, .inl (w8b a) :: st, h)
    | _ => none
  | .goto _ => some (ns.getD 0 0, ls, st, h)
  | .new _ => bm_newo (ns.getD 0 0) (ns.getD 1 0) k ls st h
  | .newarray _ | .anewarray _ => bm_newa (ns.getD 0 0) k ls st h
  | .multianewarray _ _ => bm_newm (ns.getD 0 0) (ns.getD 1 0) k ls st h
  | .iaload => bm_ald 100 k ls st h
  | .baload => bm_ald (ns.getD 0 0) k ls st h
  | .laload => bm_aldL k ls st h
  | .aaload => bm_aldA (ns.getD 0 0) k ls st h
  | .iastore => bm_ast 100 (fun v => v) k ls st h
  | .bastore => match ns.getD 0 0 with
    | 101 => bm_ast 101 w8b k ls st h
    | _ => none
  | .lastore => bm_astL k ls st h
  | .aastore => bm_astA (ns.getD 0 0) (ns.getD 1 0) k ls st h
  | .arraylength => bm_len k ls st h
  | .getfield _ => bm_get (ns.getD 0 0) (ns.getD 1 0) (ns.getD 2 0) k ls st h
  | .putfield _ => bm_put (ns.getD 0 0) (ns.getD 1 0) (ns.getD 2 0) Γ k ls st h
  | .invokespecial _ => match st with
    | .inr (.inr (some _)) :: st => am_g (bm_cats st ≤ 8) (some (k + 1, ls, st, h))
    | _ => none
  | _ => none
variable {l : BL} {m : AL} {s : List BV} {t : List AV} {h : BH} {g : AH} {Γ : GM} {k : Nat}
theorem SN_bin {f : Int → Int → Int} {gg : GM → AI → AI → Option AI} (hf : ∀ x y, rg32 (f x y)) (hg : okG f gg) (hl : rZ (rO ρ) l m) (hs : rZ (rV ρ) s t) (hh : rH ρ h g) (hG : rG ρ Γ) : SN ρ (bm_bin f gg Γ k l s h) (am_bin f k m t g) := by
  unfold bm_bin
  split
  · obtain ⟨b, t1, rfl, hb, hs1⟩ := rS_i hs
    obtain ⟨a, t2, rfl, ha, hs2⟩ := rS_i hs1
    exact SN_s hl ⟨bop_r hf hg hG ha hb, hs2⟩ hh
  · exact SN_n
theorem SN_div {f : Int → Int → Int} {gg : GM → AI → AI → Option AI} (hf : ∀ x y, rg32 (f x y)) (hg : okG f gg) (hl : rZ (rO ρ) l m) (hs : rZ (rV ρ) s t) (hh : rH ρ h g) (hG : rG ρ Γ) : SN ρ (bm_div f gg Γ k l s h) (am_div f k m t g) := by
  unfold bm_div
  split
  · split
    · rename_i y hy
      obtain ⟨b, t1, rfl, hb, hs1⟩ := rS_i hs
      obtain ⟨a, t2, rfl, ha, hs2⟩ := rS_i hs1
      have := kc_r hy hb
      subst this
      exact SN_g (fun z => z) (fun _ => SN_s hl ⟨bop_r hf hg hG ha hb, hs2⟩ hh)
    · exact SN_n
  · exact SN_n
theorem SN_binL {f : Int → Int → Int} (hl : rZ (rO ρ) l m) (hs : rZ (rV ρ) s t) (hh : rH ρ h g) : SN ρ (bm_binL f k l s h) (am_binL f k m t g) := by
  unfold bm_binL
  split
  · obtain ⟨t1, rfl, hs1⟩ := rS_r hs
    obtain ⟨t2, rfl, hs2⟩ := rS_r hs1
    exact SN_s hl ⟨rfl, hs2⟩ hh
  · exact SN_n
theorem SN_divL {f : Int → Int → Int} (hl : rZ (rO ρ) l m) (hs : rZ (rV ρ) s t) (hh : rH ρ h g) : SN ρ (bm_divL f k l s h) (am_divL f k m t g) := by
  unfold bm_divL
  split
  · obtain ⟨t1, rfl, hs1⟩ := rS_r hs
    obtain ⟨t2, rfl, hs2⟩ := rS_r hs1
    exact SN_g (fun z => z) (fun _ => SN_s hl ⟨rfl, hs2⟩ hh)
  · exact SN_n
theorem SN_shL {f : Int → Int → Int} (hl : rZ (rO ρ) l m) (hs : rZ (rV ρ) s t) (hh : rH ρ h g) : SN ρ (bm_shL f k l s h) (am_shL f k m t g) := by
  unfold bm_shL
  split
  · split
    · rename_i y hy
      obtain ⟨b, t1, rfl, hb, hs1⟩ := rS_i hs
      have := kc_r hy hb
      subst this
      obtain ⟨t2, rfl, hs2⟩ := rS_r hs1
      exact SN_s hl ⟨rfl, hs2⟩ hh
    · exact SN_n
  · exact SN_n
theorem SN_ld {j : Nat} (hl : rZ (rO ρ) l m) (hs : rZ (rV ρ) s t) (hh : rH ρ h g) : SN ρ (bm_ld j k l s h) (am_ldI j k m t g) := by
  unfold bm_ld
  split
  · rename_i x hx
    obtain ⟨b, h1, h2⟩ := rZ_get hl hx
    match b, h2 with
    | some (.inl y), h2 =>
      unfold am_ldI
      rw [h1]
      exact SN_s hl ⟨h2, hs⟩ hh
  · exact SN_n
theorem SN_ldL {j : Nat} (hl : rZ (rO ρ) l m) (hs : rZ (rV ρ) s t) (hh : rH ρ h g) : SN ρ (bm_ldL j k l s h) (am_ldL j k m t g) := by
  unfold bm_ldL
  split
  · rename_i x hx
    obtain ⟨b, h1, h2⟩ := rZ_get hl hx
    match b, h2 with
    | some (.inr y), h2 =>
      cases h2
      unfold am_ldL
      rw [h1]
      exact SN_s hl ⟨rfl, hs⟩ hh
  · exact SN_n
theorem SN_ldA {j : Nat} (hl : rZ (rO ρ) l m) (hs : rZ (rV ρ) s t) (hh : rH ρ h g) : SN ρ (bm_ldA j k l s h) (am_ldA j k m t g) := by
  unfold bm_ldA
  split
  · rename_i x hx
    obtain ⟨b, h1, h2⟩ := rZ_get hl hx
    match b, h2 with
    | some (.inr y), h2 =>
      cases h2
      unfold am_ldA
      rw [h1]
      exact SN_s hl ⟨rfl, hs⟩ hh
  · exact SN_n
theorem SN_stI {j : Nat} (hl : rZ (rO ρ) l m) (hs : rZ (rV ρ) s t) (hh : rH ρ h g) : SN ρ (bm_stI j k l s h) (am_stI j k m t g) := by
  unfold bm_stI
  split
  · obtain ⟨b, t1, rfl, hb, hs1⟩ := rS_i hs
    exact SN_g (fun z => by rw [← rZ_len hl]; exact z) (fun _ => SN_s (st1_r hl j (a := .inl _) (b := .inl b) hb) hs1 hh)
  · exact SN_n
theorem SN_stL {j : Nat} (hl : rZ (rO ρ) l m) (hs : rZ (rV ρ) s t) (hh : rH ρ h g) : SN ρ (bm_stL j k l s h) (am_stL j k m t g) := by
  unfold bm_stL
  split
  · obtain ⟨t1, rfl, hs1⟩ := rS_r hs
    exact SN_g (fun z => by rw [← rZ_len hl]; exact z) (fun _ => SN_s (st2_r hl j (a := .inr _) (b := .inr _) rfl) hs1 hh)
  · exact SN_n
theorem SN_stA {j : Nat} (hl : rZ (rO ρ) l m) (hs : rZ (rV ρ) s t) (hh : rH ρ h g) : SN ρ (bm_stA j k l s h) (am_stA j k m t g) := by
  unfold bm_stA
  split
  · obtain ⟨t1, rfl, hs1⟩ := rS_r hs
    exact SN_g (fun z => by rw [← rZ_len hl]; exact z) (fun _ => SN_s (st1_r hl j (a := .inr _) (b := .inr _) rfl) hs1 hh)
  · exact SN_n
end
